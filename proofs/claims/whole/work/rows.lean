section
-- ===== PART A: goes FIRST, ahead of the names: the tables' words, and 'selects' of the private methods out of them =====
/-- a private method of a class that the tables say can be made, by its rows of tables_1 -/
def lw_okq (q : MethodName × Nat) : Prop := (q.1.cls ≠ "java/lang/invoke/MethodHandle" ∧ q.1.cls ≠ "java/lang/invoke/VarHandle") ∧ Cond.instantiable q.1.cls q.2 ∈ tables_1 ∧ Cond.privateMethod q.1 ∈ tables_1 ∧ Cond.instanceMethod q.1 ∈ tables_1
theorem lw_p0 : lw_okq (⟨"MightHaveBeenPutUp", "changeYear", "(I)I"⟩, 8) := ⟨⟨by decide +kernel, by decide +kernel⟩, List.mem_of_getElem? (i := 20) (by decide +kernel), List.mem_of_getElem? (i := 187) (by decide +kernel), List.mem_of_getElem? (i := 188) (by decide +kernel)⟩
theorem lw_p1 : lw_okq (⟨"MightHaveBeenPutUp", "changeOfOne", "([IIII)I"⟩, 8) := ⟨⟨by decide +kernel, by decide +kernel⟩, List.mem_of_getElem? (i := 20) (by decide +kernel), List.mem_of_getElem? (i := 194) (by decide +kernel), List.mem_of_getElem? (i := 195) (by decide +kernel)⟩
theorem lw_p2 : lw_okq (⟨"MightHaveBeenPutUp", "isOne", "(I)Z"⟩, 8) := ⟨⟨by decide +kernel, by decide +kernel⟩, List.mem_of_getElem? (i := 20) (by decide +kernel), List.mem_of_getElem? (i := 198) (by decide +kernel), List.mem_of_getElem? (i := 199) (by decide +kernel)⟩
theorem lw_p3 : lw_okq (⟨"MightHaveBeenPutUp", "changeHouse", "(II)I"⟩, 8) := ⟨⟨by decide +kernel, by decide +kernel⟩, List.mem_of_getElem? (i := 20) (by decide +kernel), List.mem_of_getElem? (i := 202) (by decide +kernel), List.mem_of_getElem? (i := 203) (by decide +kernel)⟩
theorem lw_p4 : lw_okq (⟨"MightHaveBeenPutUp", "toldOfOne", "(II)I"⟩, 8) := ⟨⟨by decide +kernel, by decide +kernel⟩, List.mem_of_getElem? (i := 20) (by decide +kernel), List.mem_of_getElem? (i := 250) (by decide +kernel), List.mem_of_getElem? (i := 251) (by decide +kernel)⟩
theorem lw_p5 : lw_okq (⟨"MightHaveBeenPutUp$World", "tell", "(II)I"⟩, 12) := ⟨⟨by decide +kernel, by decide +kernel⟩, List.mem_of_getElem? (i := 30) (by decide +kernel), List.mem_of_getElem? (i := 258) (by decide +kernel), List.mem_of_getElem? (i := 259) (by decide +kernel)⟩
theorem lw_p6 : lw_okq (⟨"MightHaveBeenPutUp$World", "highestCell", "(I)I"⟩, 12) := ⟨⟨by decide +kernel, by decide +kernel⟩, List.mem_of_getElem? (i := 30) (by decide +kernel), List.mem_of_getElem? (i := 268) (by decide +kernel), List.mem_of_getElem? (i := 269) (by decide +kernel)⟩
theorem lw_p7 : lw_okq (⟨"MightHaveBeenPutUp$Reader", "step", "()V"⟩, 11) := ⟨⟨by decide +kernel, by decide +kernel⟩, List.mem_of_getElem? (i := 85) (by decide +kernel), List.mem_of_getElem? (i := 330) (by decide +kernel), List.mem_of_getElem? (i := 331) (by decide +kernel)⟩
theorem lw_p8 : lw_okq (⟨"MightHaveBeenPutUp$Reader", "wordToken", "()I"⟩, 11) := ⟨⟨by decide +kernel, by decide +kernel⟩, List.mem_of_getElem? (i := 85) (by decide +kernel), List.mem_of_getElem? (i := 340) (by decide +kernel), List.mem_of_getElem? (i := 341) (by decide +kernel)⟩
theorem lw_p9 : lw_okq (⟨"MightHaveBeenPutUp$Reader", "spells", "(III)Z"⟩, 11) := ⟨⟨by decide +kernel, by decide +kernel⟩, List.mem_of_getElem? (i := 85) (by decide +kernel), List.mem_of_getElem? (i := 344) (by decide +kernel), List.mem_of_getElem? (i := 345) (by decide +kernel)⟩
theorem lw_p10 : lw_okq (⟨"MightHaveBeenPutUp$Reader", "numberToken", "()I"⟩, 11) := ⟨⟨by decide +kernel, by decide +kernel⟩, List.mem_of_getElem? (i := 85) (by decide +kernel), List.mem_of_getElem? (i := 392) (by decide +kernel), List.mem_of_getElem? (i := 393) (by decide +kernel)⟩
theorem lw_p11 : lw_okq (⟨"MightHaveBeenPutUp$Reader", "expect", "(I)V"⟩, 11) := ⟨⟨by decide +kernel, by decide +kernel⟩, List.mem_of_getElem? (i := 85) (by decide +kernel), List.mem_of_getElem? (i := 459) (by decide +kernel), List.mem_of_getElem? (i := 460) (by decide +kernel)⟩
theorem lw_p12 : lw_okq (⟨"MightHaveBeenPutUp$Reader", "refuse", "()V"⟩, 11) := ⟨⟨by decide +kernel, by decide +kernel⟩, List.mem_of_getElem? (i := 85) (by decide +kernel), List.mem_of_getElem? (i := 463) (by decide +kernel), List.mem_of_getElem? (i := 464) (by decide +kernel)⟩
theorem lw_p13 : lw_okq (⟨"MightHaveBeenPutUp$Reader", "readEither", "()V"⟩, 11) := ⟨⟨by decide +kernel, by decide +kernel⟩, List.mem_of_getElem? (i := 85) (by decide +kernel), List.mem_of_getElem? (i := 467) (by decide +kernel), List.mem_of_getElem? (i := 468) (by decide +kernel)⟩
theorem lw_p14 : lw_okq (⟨"MightHaveBeenPutUp$Reader", "readBoth", "()V"⟩, 11) := ⟨⟨by decide +kernel, by decide +kernel⟩, List.mem_of_getElem? (i := 85) (by decide +kernel), List.mem_of_getElem? (i := 471) (by decide +kernel), List.mem_of_getElem? (i := 472) (by decide +kernel)⟩
theorem lw_p15 : lw_okq (⟨"MightHaveBeenPutUp$Reader", "readNot", "()V"⟩, 11) := ⟨⟨by decide +kernel, by decide +kernel⟩, List.mem_of_getElem? (i := 85) (by decide +kernel), List.mem_of_getElem? (i := 475) (by decide +kernel), List.mem_of_getElem? (i := 476) (by decide +kernel)⟩
def lw_privs_1 : List (MethodName × Nat) := [(⟨"MightHaveBeenPutUp", "changeYear", "(I)I"⟩, 8), (⟨"MightHaveBeenPutUp", "changeOfOne", "([IIII)I"⟩, 8), (⟨"MightHaveBeenPutUp", "isOne", "(I)Z"⟩, 8), (⟨"MightHaveBeenPutUp", "changeHouse", "(II)I"⟩, 8), (⟨"MightHaveBeenPutUp", "toldOfOne", "(II)I"⟩, 8), (⟨"MightHaveBeenPutUp$World", "tell", "(II)I"⟩, 12), (⟨"MightHaveBeenPutUp$World", "highestCell", "(I)I"⟩, 12), (⟨"MightHaveBeenPutUp$Reader", "step", "()V"⟩, 11), (⟨"MightHaveBeenPutUp$Reader", "wordToken", "()I"⟩, 11), (⟨"MightHaveBeenPutUp$Reader", "spells", "(III)Z"⟩, 11), (⟨"MightHaveBeenPutUp$Reader", "numberToken", "()I"⟩, 11), (⟨"MightHaveBeenPutUp$Reader", "expect", "(I)V"⟩, 11), (⟨"MightHaveBeenPutUp$Reader", "refuse", "()V"⟩, 11), (⟨"MightHaveBeenPutUp$Reader", "readEither", "()V"⟩, 11), (⟨"MightHaveBeenPutUp$Reader", "readBoth", "()V"⟩, 11), (⟨"MightHaveBeenPutUp$Reader", "readNot", "()V"⟩, 11)]
theorem lw_r1 : ∀ q ∈ lw_privs_1, lw_okq q := List.forall_mem_cons.mpr ⟨lw_p0, List.forall_mem_cons.mpr ⟨lw_p1, List.forall_mem_cons.mpr ⟨lw_p2, List.forall_mem_cons.mpr ⟨lw_p3, List.forall_mem_cons.mpr ⟨lw_p4, List.forall_mem_cons.mpr ⟨lw_p5, List.forall_mem_cons.mpr ⟨lw_p6, List.forall_mem_cons.mpr ⟨lw_p7, List.forall_mem_cons.mpr ⟨lw_p8, List.forall_mem_cons.mpr ⟨lw_p9, List.forall_mem_cons.mpr ⟨lw_p10, List.forall_mem_cons.mpr ⟨lw_p11, List.forall_mem_cons.mpr ⟨lw_p12, List.forall_mem_cons.mpr ⟨lw_p13, List.forall_mem_cons.mpr ⟨lw_p14, List.forall_mem_cons.mpr ⟨lw_p15, fun _ h => absurd h List.not_mem_nil⟩⟩⟩⟩⟩⟩⟩⟩⟩⟩⟩⟩⟩⟩⟩⟩
theorem lw_p16 : lw_okq (⟨"MightHaveBeenPutUp$Reader", "opens", "()Z"⟩, 11) := ⟨⟨by decide +kernel, by decide +kernel⟩, List.mem_of_getElem? (i := 85) (by decide +kernel), List.mem_of_getElem? (i := 479) (by decide +kernel), List.mem_of_getElem? (i := 480) (by decide +kernel)⟩
theorem lw_p17 : lw_okq (⟨"MightHaveBeenPutUp$Reader", "write", "(I)V"⟩, 11) := ⟨⟨by decide +kernel, by decide +kernel⟩, List.mem_of_getElem? (i := 85) (by decide +kernel), List.mem_of_getElem? (i := 483) (by decide +kernel), List.mem_of_getElem? (i := 484) (by decide +kernel)⟩
theorem lw_p18 : lw_okq (⟨"MightHaveBeenPutUp$Reader", "readSum", "()V"⟩, 11) := ⟨⟨by decide +kernel, by decide +kernel⟩, List.mem_of_getElem? (i := 85) (by decide +kernel), List.mem_of_getElem? (i := 487) (by decide +kernel), List.mem_of_getElem? (i := 488) (by decide +kernel)⟩
theorem lw_p19 : lw_okq (⟨"MightHaveBeenPutUp$Reader", "readTerm", "()V"⟩, 11) := ⟨⟨by decide +kernel, by decide +kernel⟩, List.mem_of_getElem? (i := 85) (by decide +kernel), List.mem_of_getElem? (i := 491) (by decide +kernel), List.mem_of_getElem? (i := 492) (by decide +kernel)⟩
theorem lw_p20 : lw_okq (⟨"MightHaveBeenPutUp$Reader", "readOne", "()V"⟩, 11) := ⟨⟨by decide +kernel, by decide +kernel⟩, List.mem_of_getElem? (i := 85) (by decide +kernel), List.mem_of_getElem? (i := 495) (by decide +kernel), List.mem_of_getElem? (i := 496) (by decide +kernel)⟩
theorem lw_p21 : lw_okq (⟨"MightHaveBeenPutUp", "think", "(I)V"⟩, 8) := ⟨⟨by decide +kernel, by decide +kernel⟩, List.mem_of_getElem? (i := 20) (by decide +kernel), List.mem_of_getElem? (i := 581) (by decide +kernel), List.mem_of_getElem? (i := 582) (by decide +kernel)⟩
theorem lw_p22 : lw_okq (⟨"MightHaveBeenPutUp", "firstOtherwise", "(LMightHaveBeenPutUp$Sheet;I)I"⟩, 8) := ⟨⟨by decide +kernel, by decide +kernel⟩, List.mem_of_getElem? (i := 20) (by decide +kernel), List.mem_of_getElem? (i := 654) (by decide +kernel), List.mem_of_getElem? (i := 655) (by decide +kernel)⟩
theorem lw_p23 : lw_okq (⟨"MightHaveBeenPutUp", "supposedTold", "(LMightHaveBeenPutUp$Sheet;II)I"⟩, 8) := ⟨⟨by decide +kernel, by decide +kernel⟩, List.mem_of_getElem? (i := 20) (by decide +kernel), List.mem_of_getElem? (i := 658) (by decide +kernel), List.mem_of_getElem? (i := 659) (by decide +kernel)⟩
theorem lw_p24 : lw_okq (⟨"MightHaveBeenPutUp", "suppositions", "(I)I"⟩, 8) := ⟨⟨by decide +kernel, by decide +kernel⟩, List.mem_of_getElem? (i := 20) (by decide +kernel), List.mem_of_getElem? (i := 662) (by decide +kernel), List.mem_of_getElem? (i := 663) (by decide +kernel)⟩
theorem lw_p25 : lw_okq (⟨"MightHaveBeenPutUp", "suppose", "(III)V"⟩, 8) := ⟨⟨by decide +kernel, by decide +kernel⟩, List.mem_of_getElem? (i := 20) (by decide +kernel), List.mem_of_getElem? (i := 666) (by decide +kernel), List.mem_of_getElem? (i := 667) (by decide +kernel)⟩
theorem lw_p26 : lw_okq (⟨"MightHaveBeenPutUp", "countDrawn", "(II)I"⟩, 8) := ⟨⟨by decide +kernel, by decide +kernel⟩, List.mem_of_getElem? (i := 20) (by decide +kernel), List.mem_of_getElem? (i := 689) (by decide +kernel), List.mem_of_getElem? (i := 690) (by decide +kernel)⟩
theorem lw_p27 : lw_okq (⟨"MightHaveBeenPutUpModel", "spell", "(IIIIIIIII)V"⟩, 41) := ⟨⟨by decide +kernel, by decide +kernel⟩, List.mem_of_getElem? (i := 741) (by decide +kernel), List.mem_of_getElem? (i := 748) (by decide +kernel), List.mem_of_getElem? (i := 749) (by decide +kernel)⟩
theorem lw_p28 : lw_okq (⟨"MightHaveBeenPutUpModel", "isOne", "(I)Z"⟩, 41) := ⟨⟨by decide +kernel, by decide +kernel⟩, List.mem_of_getElem? (i := 741) (by decide +kernel), List.mem_of_getElem? (i := 887) (by decide +kernel), List.mem_of_getElem? (i := 888) (by decide +kernel)⟩
theorem lw_p29 : lw_okq (⟨"MightHaveBeenPutUpModel", "putAll", "()J"⟩, 41) := ⟨⟨by decide +kernel, by decide +kernel⟩, List.mem_of_getElem? (i := 741) (by decide +kernel), List.mem_of_getElem? (i := 895) (by decide +kernel), List.mem_of_getElem? (i := 896) (by decide +kernel)⟩
theorem lw_p30 : lw_okq (⟨"MightHaveBeenPutUpModel", "holdsOf", "(I)I"⟩, 41) := ⟨⟨by decide +kernel, by decide +kernel⟩, List.mem_of_getElem? (i := 741) (by decide +kernel), List.mem_of_getElem? (i := 907) (by decide +kernel), List.mem_of_getElem? (i := 908) (by decide +kernel)⟩
theorem lw_p31 : lw_okq (⟨"MightHaveBeenPutUpModel", "says", "(II)I"⟩, 41) := ⟨⟨by decide +kernel, by decide +kernel⟩, List.mem_of_getElem? (i := 741) (by decide +kernel), List.mem_of_getElem? (i := 911) (by decide +kernel), List.mem_of_getElem? (i := 912) (by decide +kernel)⟩
def lw_privs_2 : List (MethodName × Nat) := [(⟨"MightHaveBeenPutUp$Reader", "opens", "()Z"⟩, 11), (⟨"MightHaveBeenPutUp$Reader", "write", "(I)V"⟩, 11), (⟨"MightHaveBeenPutUp$Reader", "readSum", "()V"⟩, 11), (⟨"MightHaveBeenPutUp$Reader", "readTerm", "()V"⟩, 11), (⟨"MightHaveBeenPutUp$Reader", "readOne", "()V"⟩, 11), (⟨"MightHaveBeenPutUp", "think", "(I)V"⟩, 8), (⟨"MightHaveBeenPutUp", "firstOtherwise", "(LMightHaveBeenPutUp$Sheet;I)I"⟩, 8), (⟨"MightHaveBeenPutUp", "supposedTold", "(LMightHaveBeenPutUp$Sheet;II)I"⟩, 8), (⟨"MightHaveBeenPutUp", "suppositions", "(I)I"⟩, 8), (⟨"MightHaveBeenPutUp", "suppose", "(III)V"⟩, 8), (⟨"MightHaveBeenPutUp", "countDrawn", "(II)I"⟩, 8), (⟨"MightHaveBeenPutUpModel", "spell", "(IIIIIIIII)V"⟩, 41), (⟨"MightHaveBeenPutUpModel", "isOne", "(I)Z"⟩, 41), (⟨"MightHaveBeenPutUpModel", "putAll", "()J"⟩, 41), (⟨"MightHaveBeenPutUpModel", "holdsOf", "(I)I"⟩, 41), (⟨"MightHaveBeenPutUpModel", "says", "(II)I"⟩, 41)]
theorem lw_r2 : ∀ q ∈ lw_privs_2, lw_okq q := List.forall_mem_cons.mpr ⟨lw_p16, List.forall_mem_cons.mpr ⟨lw_p17, List.forall_mem_cons.mpr ⟨lw_p18, List.forall_mem_cons.mpr ⟨lw_p19, List.forall_mem_cons.mpr ⟨lw_p20, List.forall_mem_cons.mpr ⟨lw_p21, List.forall_mem_cons.mpr ⟨lw_p22, List.forall_mem_cons.mpr ⟨lw_p23, List.forall_mem_cons.mpr ⟨lw_p24, List.forall_mem_cons.mpr ⟨lw_p25, List.forall_mem_cons.mpr ⟨lw_p26, List.forall_mem_cons.mpr ⟨lw_p27, List.forall_mem_cons.mpr ⟨lw_p28, List.forall_mem_cons.mpr ⟨lw_p29, List.forall_mem_cons.mpr ⟨lw_p30, List.forall_mem_cons.mpr ⟨lw_p31, fun _ h => absurd h List.not_mem_nil⟩⟩⟩⟩⟩⟩⟩⟩⟩⟩⟩⟩⟩⟩⟩⟩
theorem lw_p32 : lw_okq (⟨"MightHaveBeenPutUpModel", "read", "(II)I"⟩, 41) := ⟨⟨by decide +kernel, by decide +kernel⟩, List.mem_of_getElem? (i := 741) (by decide +kernel), List.mem_of_getElem? (i := 921) (by decide +kernel), List.mem_of_getElem? (i := 922) (by decide +kernel)⟩
theorem lw_p33 : lw_okq (⟨"MightHaveBeenPutUpModel", "next", "()V"⟩, 41) := ⟨⟨by decide +kernel, by decide +kernel⟩, List.mem_of_getElem? (i := 741) (by decide +kernel), List.mem_of_getElem? (i := 925) (by decide +kernel), List.mem_of_getElem? (i := 926) (by decide +kernel)⟩
theorem lw_p34 : lw_okq (⟨"MightHaveBeenPutUpModel", "byteAt", "(I)I"⟩, 41) := ⟨⟨by decide +kernel, by decide +kernel⟩, List.mem_of_getElem? (i := 741) (by decide +kernel), List.mem_of_getElem? (i := 929) (by decide +kernel), List.mem_of_getElem? (i := 930) (by decide +kernel)⟩
theorem lw_p35 : lw_okq (⟨"MightHaveBeenPutUpModel", "isWord", "(IIIIIIII)Z"⟩, 41) := ⟨⟨by decide +kernel, by decide +kernel⟩, List.mem_of_getElem? (i := 741) (by decide +kernel), List.mem_of_getElem? (i := 938) (by decide +kernel), List.mem_of_getElem? (i := 939) (by decide +kernel)⟩
theorem lw_p36 : lw_okq (⟨"MightHaveBeenPutUpModel", "isLetter", "(II)Z"⟩, 41) := ⟨⟨by decide +kernel, by decide +kernel⟩, List.mem_of_getElem? (i := 741) (by decide +kernel), List.mem_of_getElem? (i := 942) (by decide +kernel), List.mem_of_getElem? (i := 943) (by decide +kernel)⟩
theorem lw_p37 : lw_okq (⟨"MightHaveBeenPutUpModel", "part", "(Z)I"⟩, 41) := ⟨⟨by decide +kernel, by decide +kernel⟩, List.mem_of_getElem? (i := 741) (by decide +kernel), List.mem_of_getElem? (i := 946) (by decide +kernel), List.mem_of_getElem? (i := 947) (by decide +kernel)⟩
theorem lw_p38 : lw_okq (⟨"MightHaveBeenPutUpModel", "fail", "()V"⟩, 41) := ⟨⟨by decide +kernel, by decide +kernel⟩, List.mem_of_getElem? (i := 741) (by decide +kernel), List.mem_of_getElem? (i := 950) (by decide +kernel), List.mem_of_getElem? (i := 951) (by decide +kernel)⟩
theorem lw_p39 : lw_okq (⟨"MightHaveBeenPutUpModel", "either0", "()I"⟩, 41) := ⟨⟨by decide +kernel, by decide +kernel⟩, List.mem_of_getElem? (i := 741) (by decide +kernel), List.mem_of_getElem? (i := 954) (by decide +kernel), List.mem_of_getElem? (i := 955) (by decide +kernel)⟩
theorem lw_p40 : lw_okq (⟨"MightHaveBeenPutUpModel", "both0", "()I"⟩, 41) := ⟨⟨by decide +kernel, by decide +kernel⟩, List.mem_of_getElem? (i := 741) (by decide +kernel), List.mem_of_getElem? (i := 958) (by decide +kernel), List.mem_of_getElem? (i := 959) (by decide +kernel)⟩
theorem lw_p41 : lw_okq (⟨"MightHaveBeenPutUpModel", "not0", "()I"⟩, 41) := ⟨⟨by decide +kernel, by decide +kernel⟩, List.mem_of_getElem? (i := 741) (by decide +kernel), List.mem_of_getElem? (i := 962) (by decide +kernel), List.mem_of_getElem? (i := 963) (by decide +kernel)⟩
theorem lw_p42 : lw_okq (⟨"MightHaveBeenPutUpModel", "opens", "()Z"⟩, 41) := ⟨⟨by decide +kernel, by decide +kernel⟩, List.mem_of_getElem? (i := 741) (by decide +kernel), List.mem_of_getElem? (i := 966) (by decide +kernel), List.mem_of_getElem? (i := 967) (by decide +kernel)⟩
theorem lw_p43 : lw_okq (⟨"MightHaveBeenPutUpModel", "not1", "()I"⟩, 41) := ⟨⟨by decide +kernel, by decide +kernel⟩, List.mem_of_getElem? (i := 741) (by decide +kernel), List.mem_of_getElem? (i := 970) (by decide +kernel), List.mem_of_getElem? (i := 971) (by decide +kernel)⟩
theorem lw_p44 : lw_okq (⟨"MightHaveBeenPutUpModel", "not2", "()I"⟩, 41) := ⟨⟨by decide +kernel, by decide +kernel⟩, List.mem_of_getElem? (i := 741) (by decide +kernel), List.mem_of_getElem? (i := 974) (by decide +kernel), List.mem_of_getElem? (i := 975) (by decide +kernel)⟩
theorem lw_p45 : lw_okq (⟨"MightHaveBeenPutUpModel", "not3", "()I"⟩, 41) := ⟨⟨by decide +kernel, by decide +kernel⟩, List.mem_of_getElem? (i := 741) (by decide +kernel), List.mem_of_getElem? (i := 978) (by decide +kernel), List.mem_of_getElem? (i := 979) (by decide +kernel)⟩
theorem lw_p46 : lw_okq (⟨"MightHaveBeenPutUpModel", "not4", "()I"⟩, 41) := ⟨⟨by decide +kernel, by decide +kernel⟩, List.mem_of_getElem? (i := 741) (by decide +kernel), List.mem_of_getElem? (i := 982) (by decide +kernel), List.mem_of_getElem? (i := 983) (by decide +kernel)⟩
theorem lw_p47 : lw_okq (⟨"MightHaveBeenPutUpModel", "not5", "()I"⟩, 41) := ⟨⟨by decide +kernel, by decide +kernel⟩, List.mem_of_getElem? (i := 741) (by decide +kernel), List.mem_of_getElem? (i := 986) (by decide +kernel), List.mem_of_getElem? (i := 987) (by decide +kernel)⟩
def lw_privs_3 : List (MethodName × Nat) := [(⟨"MightHaveBeenPutUpModel", "read", "(II)I"⟩, 41), (⟨"MightHaveBeenPutUpModel", "next", "()V"⟩, 41), (⟨"MightHaveBeenPutUpModel", "byteAt", "(I)I"⟩, 41), (⟨"MightHaveBeenPutUpModel", "isWord", "(IIIIIIII)Z"⟩, 41), (⟨"MightHaveBeenPutUpModel", "isLetter", "(II)Z"⟩, 41), (⟨"MightHaveBeenPutUpModel", "part", "(Z)I"⟩, 41), (⟨"MightHaveBeenPutUpModel", "fail", "()V"⟩, 41), (⟨"MightHaveBeenPutUpModel", "either0", "()I"⟩, 41), (⟨"MightHaveBeenPutUpModel", "both0", "()I"⟩, 41), (⟨"MightHaveBeenPutUpModel", "not0", "()I"⟩, 41), (⟨"MightHaveBeenPutUpModel", "opens", "()Z"⟩, 41), (⟨"MightHaveBeenPutUpModel", "not1", "()I"⟩, 41), (⟨"MightHaveBeenPutUpModel", "not2", "()I"⟩, 41), (⟨"MightHaveBeenPutUpModel", "not3", "()I"⟩, 41), (⟨"MightHaveBeenPutUpModel", "not4", "()I"⟩, 41), (⟨"MightHaveBeenPutUpModel", "not5", "()I"⟩, 41)]
theorem lw_r3 : ∀ q ∈ lw_privs_3, lw_okq q := List.forall_mem_cons.mpr ⟨lw_p32, List.forall_mem_cons.mpr ⟨lw_p33, List.forall_mem_cons.mpr ⟨lw_p34, List.forall_mem_cons.mpr ⟨lw_p35, List.forall_mem_cons.mpr ⟨lw_p36, List.forall_mem_cons.mpr ⟨lw_p37, List.forall_mem_cons.mpr ⟨lw_p38, List.forall_mem_cons.mpr ⟨lw_p39, List.forall_mem_cons.mpr ⟨lw_p40, List.forall_mem_cons.mpr ⟨lw_p41, List.forall_mem_cons.mpr ⟨lw_p42, List.forall_mem_cons.mpr ⟨lw_p43, List.forall_mem_cons.mpr ⟨lw_p44, List.forall_mem_cons.mpr ⟨lw_p45, List.forall_mem_cons.mpr ⟨lw_p46, List.forall_mem_cons.mpr ⟨lw_p47, fun _ h => absurd h List.not_mem_nil⟩⟩⟩⟩⟩⟩⟩⟩⟩⟩⟩⟩⟩⟩⟩⟩
theorem lw_p48 : lw_okq (⟨"MightHaveBeenPutUpModel", "added5", "()I"⟩, 41) := ⟨⟨by decide +kernel, by decide +kernel⟩, List.mem_of_getElem? (i := 741) (by decide +kernel), List.mem_of_getElem? (i := 990) (by decide +kernel), List.mem_of_getElem? (i := 991) (by decide +kernel)⟩
theorem lw_p49 : lw_okq (⟨"MightHaveBeenPutUpModel", "term5", "()I"⟩, 41) := ⟨⟨by decide +kernel, by decide +kernel⟩, List.mem_of_getElem? (i := 741) (by decide +kernel), List.mem_of_getElem? (i := 994) (by decide +kernel), List.mem_of_getElem? (i := 995) (by decide +kernel)⟩
theorem lw_p50 : lw_okq (⟨"MightHaveBeenPutUpModel", "atom5", "()I"⟩, 41) := ⟨⟨by decide +kernel, by decide +kernel⟩, List.mem_of_getElem? (i := 741) (by decide +kernel), List.mem_of_getElem? (i := 998) (by decide +kernel), List.mem_of_getElem? (i := 999) (by decide +kernel)⟩
theorem lw_p51 : lw_okq (⟨"MightHaveBeenPutUpModel", "isSign", "(I)Z"⟩, 41) := ⟨⟨by decide +kernel, by decide +kernel⟩, List.mem_of_getElem? (i := 741) (by decide +kernel), List.mem_of_getElem? (i := 1002) (by decide +kernel), List.mem_of_getElem? (i := 1003) (by decide +kernel)⟩
theorem lw_p52 : lw_okq (⟨"MightHaveBeenPutUpModel", "name", "()I"⟩, 41) := ⟨⟨by decide +kernel, by decide +kernel⟩, List.mem_of_getElem? (i := 741) (by decide +kernel), List.mem_of_getElem? (i := 1006) (by decide +kernel), List.mem_of_getElem? (i := 1007) (by decide +kernel)⟩
theorem lw_p53 : lw_okq (⟨"MightHaveBeenPutUpModel", "added4", "()I"⟩, 41) := ⟨⟨by decide +kernel, by decide +kernel⟩, List.mem_of_getElem? (i := 741) (by decide +kernel), List.mem_of_getElem? (i := 1012) (by decide +kernel), List.mem_of_getElem? (i := 1013) (by decide +kernel)⟩
theorem lw_p54 : lw_okq (⟨"MightHaveBeenPutUpModel", "term4", "()I"⟩, 41) := ⟨⟨by decide +kernel, by decide +kernel⟩, List.mem_of_getElem? (i := 741) (by decide +kernel), List.mem_of_getElem? (i := 1016) (by decide +kernel), List.mem_of_getElem? (i := 1017) (by decide +kernel)⟩
theorem lw_p55 : lw_okq (⟨"MightHaveBeenPutUpModel", "atom4", "()I"⟩, 41) := ⟨⟨by decide +kernel, by decide +kernel⟩, List.mem_of_getElem? (i := 741) (by decide +kernel), List.mem_of_getElem? (i := 1020) (by decide +kernel), List.mem_of_getElem? (i := 1021) (by decide +kernel)⟩
theorem lw_p56 : lw_okq (⟨"MightHaveBeenPutUpModel", "either5", "()I"⟩, 41) := ⟨⟨by decide +kernel, by decide +kernel⟩, List.mem_of_getElem? (i := 741) (by decide +kernel), List.mem_of_getElem? (i := 1024) (by decide +kernel), List.mem_of_getElem? (i := 1025) (by decide +kernel)⟩
theorem lw_p57 : lw_okq (⟨"MightHaveBeenPutUpModel", "both5", "()I"⟩, 41) := ⟨⟨by decide +kernel, by decide +kernel⟩, List.mem_of_getElem? (i := 741) (by decide +kernel), List.mem_of_getElem? (i := 1028) (by decide +kernel), List.mem_of_getElem? (i := 1029) (by decide +kernel)⟩
theorem lw_p58 : lw_okq (⟨"MightHaveBeenPutUpModel", "added3", "()I"⟩, 41) := ⟨⟨by decide +kernel, by decide +kernel⟩, List.mem_of_getElem? (i := 741) (by decide +kernel), List.mem_of_getElem? (i := 1032) (by decide +kernel), List.mem_of_getElem? (i := 1033) (by decide +kernel)⟩
theorem lw_p59 : lw_okq (⟨"MightHaveBeenPutUpModel", "term3", "()I"⟩, 41) := ⟨⟨by decide +kernel, by decide +kernel⟩, List.mem_of_getElem? (i := 741) (by decide +kernel), List.mem_of_getElem? (i := 1036) (by decide +kernel), List.mem_of_getElem? (i := 1037) (by decide +kernel)⟩
theorem lw_p60 : lw_okq (⟨"MightHaveBeenPutUpModel", "atom3", "()I"⟩, 41) := ⟨⟨by decide +kernel, by decide +kernel⟩, List.mem_of_getElem? (i := 741) (by decide +kernel), List.mem_of_getElem? (i := 1040) (by decide +kernel), List.mem_of_getElem? (i := 1041) (by decide +kernel)⟩
theorem lw_p61 : lw_okq (⟨"MightHaveBeenPutUpModel", "either4", "()I"⟩, 41) := ⟨⟨by decide +kernel, by decide +kernel⟩, List.mem_of_getElem? (i := 741) (by decide +kernel), List.mem_of_getElem? (i := 1044) (by decide +kernel), List.mem_of_getElem? (i := 1045) (by decide +kernel)⟩
theorem lw_p62 : lw_okq (⟨"MightHaveBeenPutUpModel", "both4", "()I"⟩, 41) := ⟨⟨by decide +kernel, by decide +kernel⟩, List.mem_of_getElem? (i := 741) (by decide +kernel), List.mem_of_getElem? (i := 1048) (by decide +kernel), List.mem_of_getElem? (i := 1049) (by decide +kernel)⟩
theorem lw_p63 : lw_okq (⟨"MightHaveBeenPutUpModel", "added2", "()I"⟩, 41) := ⟨⟨by decide +kernel, by decide +kernel⟩, List.mem_of_getElem? (i := 741) (by decide +kernel), List.mem_of_getElem? (i := 1052) (by decide +kernel), List.mem_of_getElem? (i := 1053) (by decide +kernel)⟩
def lw_privs_4 : List (MethodName × Nat) := [(⟨"MightHaveBeenPutUpModel", "added5", "()I"⟩, 41), (⟨"MightHaveBeenPutUpModel", "term5", "()I"⟩, 41), (⟨"MightHaveBeenPutUpModel", "atom5", "()I"⟩, 41), (⟨"MightHaveBeenPutUpModel", "isSign", "(I)Z"⟩, 41), (⟨"MightHaveBeenPutUpModel", "name", "()I"⟩, 41), (⟨"MightHaveBeenPutUpModel", "added4", "()I"⟩, 41), (⟨"MightHaveBeenPutUpModel", "term4", "()I"⟩, 41), (⟨"MightHaveBeenPutUpModel", "atom4", "()I"⟩, 41), (⟨"MightHaveBeenPutUpModel", "either5", "()I"⟩, 41), (⟨"MightHaveBeenPutUpModel", "both5", "()I"⟩, 41), (⟨"MightHaveBeenPutUpModel", "added3", "()I"⟩, 41), (⟨"MightHaveBeenPutUpModel", "term3", "()I"⟩, 41), (⟨"MightHaveBeenPutUpModel", "atom3", "()I"⟩, 41), (⟨"MightHaveBeenPutUpModel", "either4", "()I"⟩, 41), (⟨"MightHaveBeenPutUpModel", "both4", "()I"⟩, 41), (⟨"MightHaveBeenPutUpModel", "added2", "()I"⟩, 41)]
theorem lw_r4 : ∀ q ∈ lw_privs_4, lw_okq q := List.forall_mem_cons.mpr ⟨lw_p48, List.forall_mem_cons.mpr ⟨lw_p49, List.forall_mem_cons.mpr ⟨lw_p50, List.forall_mem_cons.mpr ⟨lw_p51, List.forall_mem_cons.mpr ⟨lw_p52, List.forall_mem_cons.mpr ⟨lw_p53, List.forall_mem_cons.mpr ⟨lw_p54, List.forall_mem_cons.mpr ⟨lw_p55, List.forall_mem_cons.mpr ⟨lw_p56, List.forall_mem_cons.mpr ⟨lw_p57, List.forall_mem_cons.mpr ⟨lw_p58, List.forall_mem_cons.mpr ⟨lw_p59, List.forall_mem_cons.mpr ⟨lw_p60, List.forall_mem_cons.mpr ⟨lw_p61, List.forall_mem_cons.mpr ⟨lw_p62, List.forall_mem_cons.mpr ⟨lw_p63, fun _ h => absurd h List.not_mem_nil⟩⟩⟩⟩⟩⟩⟩⟩⟩⟩⟩⟩⟩⟩⟩⟩
theorem lw_p64 : lw_okq (⟨"MightHaveBeenPutUpModel", "term2", "()I"⟩, 41) := ⟨⟨by decide +kernel, by decide +kernel⟩, List.mem_of_getElem? (i := 741) (by decide +kernel), List.mem_of_getElem? (i := 1056) (by decide +kernel), List.mem_of_getElem? (i := 1057) (by decide +kernel)⟩
theorem lw_p65 : lw_okq (⟨"MightHaveBeenPutUpModel", "atom2", "()I"⟩, 41) := ⟨⟨by decide +kernel, by decide +kernel⟩, List.mem_of_getElem? (i := 741) (by decide +kernel), List.mem_of_getElem? (i := 1060) (by decide +kernel), List.mem_of_getElem? (i := 1061) (by decide +kernel)⟩
theorem lw_p66 : lw_okq (⟨"MightHaveBeenPutUpModel", "either3", "()I"⟩, 41) := ⟨⟨by decide +kernel, by decide +kernel⟩, List.mem_of_getElem? (i := 741) (by decide +kernel), List.mem_of_getElem? (i := 1064) (by decide +kernel), List.mem_of_getElem? (i := 1065) (by decide +kernel)⟩
theorem lw_p67 : lw_okq (⟨"MightHaveBeenPutUpModel", "both3", "()I"⟩, 41) := ⟨⟨by decide +kernel, by decide +kernel⟩, List.mem_of_getElem? (i := 741) (by decide +kernel), List.mem_of_getElem? (i := 1068) (by decide +kernel), List.mem_of_getElem? (i := 1069) (by decide +kernel)⟩
theorem lw_p68 : lw_okq (⟨"MightHaveBeenPutUpModel", "added1", "()I"⟩, 41) := ⟨⟨by decide +kernel, by decide +kernel⟩, List.mem_of_getElem? (i := 741) (by decide +kernel), List.mem_of_getElem? (i := 1072) (by decide +kernel), List.mem_of_getElem? (i := 1073) (by decide +kernel)⟩
theorem lw_p69 : lw_okq (⟨"MightHaveBeenPutUpModel", "term1", "()I"⟩, 41) := ⟨⟨by decide +kernel, by decide +kernel⟩, List.mem_of_getElem? (i := 741) (by decide +kernel), List.mem_of_getElem? (i := 1076) (by decide +kernel), List.mem_of_getElem? (i := 1077) (by decide +kernel)⟩
theorem lw_p70 : lw_okq (⟨"MightHaveBeenPutUpModel", "atom1", "()I"⟩, 41) := ⟨⟨by decide +kernel, by decide +kernel⟩, List.mem_of_getElem? (i := 741) (by decide +kernel), List.mem_of_getElem? (i := 1080) (by decide +kernel), List.mem_of_getElem? (i := 1081) (by decide +kernel)⟩
theorem lw_p71 : lw_okq (⟨"MightHaveBeenPutUpModel", "either2", "()I"⟩, 41) := ⟨⟨by decide +kernel, by decide +kernel⟩, List.mem_of_getElem? (i := 741) (by decide +kernel), List.mem_of_getElem? (i := 1084) (by decide +kernel), List.mem_of_getElem? (i := 1085) (by decide +kernel)⟩
theorem lw_p72 : lw_okq (⟨"MightHaveBeenPutUpModel", "both2", "()I"⟩, 41) := ⟨⟨by decide +kernel, by decide +kernel⟩, List.mem_of_getElem? (i := 741) (by decide +kernel), List.mem_of_getElem? (i := 1088) (by decide +kernel), List.mem_of_getElem? (i := 1089) (by decide +kernel)⟩
theorem lw_p73 : lw_okq (⟨"MightHaveBeenPutUpModel", "added0", "()I"⟩, 41) := ⟨⟨by decide +kernel, by decide +kernel⟩, List.mem_of_getElem? (i := 741) (by decide +kernel), List.mem_of_getElem? (i := 1092) (by decide +kernel), List.mem_of_getElem? (i := 1093) (by decide +kernel)⟩
theorem lw_p74 : lw_okq (⟨"MightHaveBeenPutUpModel", "term0", "()I"⟩, 41) := ⟨⟨by decide +kernel, by decide +kernel⟩, List.mem_of_getElem? (i := 741) (by decide +kernel), List.mem_of_getElem? (i := 1096) (by decide +kernel), List.mem_of_getElem? (i := 1097) (by decide +kernel)⟩
theorem lw_p75 : lw_okq (⟨"MightHaveBeenPutUpModel", "atom0", "()I"⟩, 41) := ⟨⟨by decide +kernel, by decide +kernel⟩, List.mem_of_getElem? (i := 741) (by decide +kernel), List.mem_of_getElem? (i := 1100) (by decide +kernel), List.mem_of_getElem? (i := 1101) (by decide +kernel)⟩
theorem lw_p76 : lw_okq (⟨"MightHaveBeenPutUpModel", "either1", "()I"⟩, 41) := ⟨⟨by decide +kernel, by decide +kernel⟩, List.mem_of_getElem? (i := 741) (by decide +kernel), List.mem_of_getElem? (i := 1104) (by decide +kernel), List.mem_of_getElem? (i := 1105) (by decide +kernel)⟩
theorem lw_p77 : lw_okq (⟨"MightHaveBeenPutUpModel", "both1", "()I"⟩, 41) := ⟨⟨by decide +kernel, by decide +kernel⟩, List.mem_of_getElem? (i := 741) (by decide +kernel), List.mem_of_getElem? (i := 1108) (by decide +kernel), List.mem_of_getElem? (i := 1109) (by decide +kernel)⟩
theorem lw_p78 : lw_okq (⟨"MightHaveBeenPutUpModel", "fadesOf", "(I)I"⟩, 41) := ⟨⟨by decide +kernel, by decide +kernel⟩, List.mem_of_getElem? (i := 741) (by decide +kernel), List.mem_of_getElem? (i := 1115) (by decide +kernel), List.mem_of_getElem? (i := 1116) (by decide +kernel)⟩
theorem lw_p79 : lw_okq (⟨"MightHaveBeenPutUpModel", "costsOf", "(I)I"⟩, 41) := ⟨⟨by decide +kernel, by decide +kernel⟩, List.mem_of_getElem? (i := 741) (by decide +kernel), List.mem_of_getElem? (i := 1119) (by decide +kernel), List.mem_of_getElem? (i := 1120) (by decide +kernel)⟩
def lw_privs_5 : List (MethodName × Nat) := [(⟨"MightHaveBeenPutUpModel", "term2", "()I"⟩, 41), (⟨"MightHaveBeenPutUpModel", "atom2", "()I"⟩, 41), (⟨"MightHaveBeenPutUpModel", "either3", "()I"⟩, 41), (⟨"MightHaveBeenPutUpModel", "both3", "()I"⟩, 41), (⟨"MightHaveBeenPutUpModel", "added1", "()I"⟩, 41), (⟨"MightHaveBeenPutUpModel", "term1", "()I"⟩, 41), (⟨"MightHaveBeenPutUpModel", "atom1", "()I"⟩, 41), (⟨"MightHaveBeenPutUpModel", "either2", "()I"⟩, 41), (⟨"MightHaveBeenPutUpModel", "both2", "()I"⟩, 41), (⟨"MightHaveBeenPutUpModel", "added0", "()I"⟩, 41), (⟨"MightHaveBeenPutUpModel", "term0", "()I"⟩, 41), (⟨"MightHaveBeenPutUpModel", "atom0", "()I"⟩, 41), (⟨"MightHaveBeenPutUpModel", "either1", "()I"⟩, 41), (⟨"MightHaveBeenPutUpModel", "both1", "()I"⟩, 41), (⟨"MightHaveBeenPutUpModel", "fadesOf", "(I)I"⟩, 41), (⟨"MightHaveBeenPutUpModel", "costsOf", "(I)I"⟩, 41)]
theorem lw_r5 : ∀ q ∈ lw_privs_5, lw_okq q := List.forall_mem_cons.mpr ⟨lw_p64, List.forall_mem_cons.mpr ⟨lw_p65, List.forall_mem_cons.mpr ⟨lw_p66, List.forall_mem_cons.mpr ⟨lw_p67, List.forall_mem_cons.mpr ⟨lw_p68, List.forall_mem_cons.mpr ⟨lw_p69, List.forall_mem_cons.mpr ⟨lw_p70, List.forall_mem_cons.mpr ⟨lw_p71, List.forall_mem_cons.mpr ⟨lw_p72, List.forall_mem_cons.mpr ⟨lw_p73, List.forall_mem_cons.mpr ⟨lw_p74, List.forall_mem_cons.mpr ⟨lw_p75, List.forall_mem_cons.mpr ⟨lw_p76, List.forall_mem_cons.mpr ⟨lw_p77, List.forall_mem_cons.mpr ⟨lw_p78, List.forall_mem_cons.mpr ⟨lw_p79, fun _ h => absurd h List.not_mem_nil⟩⟩⟩⟩⟩⟩⟩⟩⟩⟩⟩⟩⟩⟩⟩⟩
theorem lw_p80 : lw_okq (⟨"MightHaveBeenPutUpModel", "whoseIs", "(I)I"⟩, 41) := ⟨⟨by decide +kernel, by decide +kernel⟩, List.mem_of_getElem? (i := 741) (by decide +kernel), List.mem_of_getElem? (i := 1123) (by decide +kernel), List.mem_of_getElem? (i := 1124) (by decide +kernel)⟩
theorem lw_p81 : lw_okq (⟨"MightHaveBeenPutUpModel", "falls", "()I"⟩, 41) := ⟨⟨by decide +kernel, by decide +kernel⟩, List.mem_of_getElem? (i := 741) (by decide +kernel), List.mem_of_getElem? (i := 1128) (by decide +kernel), List.mem_of_getElem? (i := 1129) (by decide +kernel)⟩
theorem lw_p82 : lw_okq (⟨"MightHaveBeenPutUpModel", "stands", "()J"⟩, 41) := ⟨⟨by decide +kernel, by decide +kernel⟩, List.mem_of_getElem? (i := 741) (by decide +kernel), List.mem_of_getElem? (i := 1132) (by decide +kernel), List.mem_of_getElem? (i := 1133) (by decide +kernel)⟩
theorem lw_p83 : lw_okq (⟨"MightHaveBeenPutUpModel", "lays", "(III)V"⟩, 41) := ⟨⟨by decide +kernel, by decide +kernel⟩, List.mem_of_getElem? (i := 741) (by decide +kernel), List.mem_of_getElem? (i := 1144) (by decide +kernel), List.mem_of_getElem? (i := 1145) (by decide +kernel)⟩
theorem lw_p84 : lw_okq (⟨"MightHaveBeenPutUpModel", "felled", "(I)I"⟩, 41) := ⟨⟨by decide +kernel, by decide +kernel⟩, List.mem_of_getElem? (i := 741) (by decide +kernel), List.mem_of_getElem? (i := 1177) (by decide +kernel), List.mem_of_getElem? (i := 1178) (by decide +kernel)⟩
theorem lw_p85 : lw_okq (⟨"MightHaveBeenPutUpModel", "passes", "()I"⟩, 41) := ⟨⟨by decide +kernel, by decide +kernel⟩, List.mem_of_getElem? (i := 741) (by decide +kernel), List.mem_of_getElem? (i := 1203) (by decide +kernel), List.mem_of_getElem? (i := 1204) (by decide +kernel)⟩
theorem lw_p86 : lw_okq (⟨"MightHaveBeenPutUpModel", "laysAside", "()V"⟩, 41) := ⟨⟨by decide +kernel, by decide +kernel⟩, List.mem_of_getElem? (i := 741) (by decide +kernel), List.mem_of_getElem? (i := 1213) (by decide +kernel), List.mem_of_getElem? (i := 1214) (by decide +kernel)⟩
theorem lw_p87 : lw_okq (⟨"MightHaveBeenPutUpModel", "go", "(I)V"⟩, 41) := ⟨⟨by decide +kernel, by decide +kernel⟩, List.mem_of_getElem? (i := 741) (by decide +kernel), List.mem_of_getElem? (i := 1217) (by decide +kernel), List.mem_of_getElem? (i := 1218) (by decide +kernel)⟩
theorem lw_p88 : lw_okq (⟨"MightHaveBeenPutUpModel", "laysBack", "()V"⟩, 41) := ⟨⟨by decide +kernel, by decide +kernel⟩, List.mem_of_getElem? (i := 741) (by decide +kernel), List.mem_of_getElem? (i := 1221) (by decide +kernel), List.mem_of_getElem? (i := 1222) (by decide +kernel)⟩
theorem lw_p89 : lw_okq (⟨"MightHaveBeenPutUpModel", "putBehind", "(IJI)I"⟩, 41) := ⟨⟨by decide +kernel, by decide +kernel⟩, List.mem_of_getElem? (i := 741) (by decide +kernel), List.mem_of_getElem? (i := 1256) (by decide +kernel), List.mem_of_getElem? (i := 1257) (by decide +kernel)⟩
theorem lw_p90 : lw_okq (⟨"MightHaveBeenPutUpModel", "firstOther", "(II)I"⟩, 41) := ⟨⟨by decide +kernel, by decide +kernel⟩, List.mem_of_getElem? (i := 741) (by decide +kernel), List.mem_of_getElem? (i := 1275) (by decide +kernel), List.mem_of_getElem? (i := 1276) (by decide +kernel)⟩
theorem lw_p91 : lw_okq (⟨"MightHaveBeenPutUpModel", "likeSet", "(I)I"⟩, 41) := ⟨⟨by decide +kernel, by decide +kernel⟩, List.mem_of_getElem? (i := 741) (by decide +kernel), List.mem_of_getElem? (i := 1279) (by decide +kernel), List.mem_of_getElem? (i := 1280) (by decide +kernel)⟩
theorem lw_p92 : lw_okq (⟨"MightHaveBeenPutUpModel", "putDrawn", "(II)I"⟩, 41) := ⟨⟨by decide +kernel, by decide +kernel⟩, List.mem_of_getElem? (i := 741) (by decide +kernel), List.mem_of_getElem? (i := 1296) (by decide +kernel), List.mem_of_getElem? (i := 1297) (by decide +kernel)⟩
def lw_privs_6 : List (MethodName × Nat) := [(⟨"MightHaveBeenPutUpModel", "whoseIs", "(I)I"⟩, 41), (⟨"MightHaveBeenPutUpModel", "falls", "()I"⟩, 41), (⟨"MightHaveBeenPutUpModel", "stands", "()J"⟩, 41), (⟨"MightHaveBeenPutUpModel", "lays", "(III)V"⟩, 41), (⟨"MightHaveBeenPutUpModel", "felled", "(I)I"⟩, 41), (⟨"MightHaveBeenPutUpModel", "passes", "()I"⟩, 41), (⟨"MightHaveBeenPutUpModel", "laysAside", "()V"⟩, 41), (⟨"MightHaveBeenPutUpModel", "go", "(I)V"⟩, 41), (⟨"MightHaveBeenPutUpModel", "laysBack", "()V"⟩, 41), (⟨"MightHaveBeenPutUpModel", "putBehind", "(IJI)I"⟩, 41), (⟨"MightHaveBeenPutUpModel", "firstOther", "(II)I"⟩, 41), (⟨"MightHaveBeenPutUpModel", "likeSet", "(I)I"⟩, 41), (⟨"MightHaveBeenPutUpModel", "putDrawn", "(II)I"⟩, 41)]
theorem lw_r6 : ∀ q ∈ lw_privs_6, lw_okq q := List.forall_mem_cons.mpr ⟨lw_p80, List.forall_mem_cons.mpr ⟨lw_p81, List.forall_mem_cons.mpr ⟨lw_p82, List.forall_mem_cons.mpr ⟨lw_p83, List.forall_mem_cons.mpr ⟨lw_p84, List.forall_mem_cons.mpr ⟨lw_p85, List.forall_mem_cons.mpr ⟨lw_p86, List.forall_mem_cons.mpr ⟨lw_p87, List.forall_mem_cons.mpr ⟨lw_p88, List.forall_mem_cons.mpr ⟨lw_p89, List.forall_mem_cons.mpr ⟨lw_p90, List.forall_mem_cons.mpr ⟨lw_p91, List.forall_mem_cons.mpr ⟨lw_p92, fun _ h => absurd h List.not_mem_nil⟩⟩⟩⟩⟩⟩⟩⟩⟩⟩⟩⟩⟩
def lw_privs : List (MethodName × Nat) := lw_privs_1 ++ (lw_privs_2 ++ (lw_privs_3 ++ (lw_privs_4 ++ (lw_privs_5 ++ (lw_privs_6)))))
def lw_tbl : List Cond := k2_sels lw_privs ++ tables_1
theorem lw_privs_ok : ∀ q ∈ lw_privs, lw_okq q := by
  show ∀ q ∈ lw_privs_1 ++ (lw_privs_2 ++ (lw_privs_3 ++ (lw_privs_4 ++ (lw_privs_5 ++ (lw_privs_6))))), lw_okq q
  exact List.forall_mem_append.mpr ⟨lw_r1, List.forall_mem_append.mpr ⟨lw_r2, List.forall_mem_append.mpr ⟨lw_r3, List.forall_mem_append.mpr ⟨lw_r4, List.forall_mem_append.mpr ⟨lw_r5, lw_r6⟩⟩⟩⟩⟩
end
section
def RX0 : String := "MightHaveBeenPutUp$Reader"
def TX0 : u_T := fun k => match k with
  | 0 => ("MightHaveBeenPutUp$Reader", "size", "I", false)
  | 1 => ("MightHaveBeenPutUp$Reader", "tape", "[I", true)
  | 2 => ("MightHaveBeenPutUp$Reader", "code", "[I", true)
  | 3 => ("MightHaveBeenPutUp$Reader", "ends", "[I", true)
  | 4 => ("MightHaveBeenPutUp$Reader", "codeSize", "I", false)
  | 5 => ("MightHaveBeenPutUp$Reader", "next", "I", false)
  | 6 => ("MightHaveBeenPutUp$Reader", "token", "I", false)
  | 7 => ("MightHaveBeenPutUp$Reader", "tokenPlace", "I", false)
  | 8 => ("MightHaveBeenPutUp$Reader", "tokenNumber", "I", false)
  | 9 => ("MightHaveBeenPutUp$Reader", "open", "I", false)
  | _ => ("MightHaveBeenPutUp$Reader", "fault", "I", false)
def tyX0 : Nat → FieldType := fun k => match k with
  | 0 => .int
  | 1 => .array .int
  | 2 => .array .int
  | 3 => .array .int
  | 4 => .int
  | 5 => .int
  | 6 => .int
  | 7 => .int
  | 8 => .int
  | 9 => .int
  | _ => .int
abbrev wsX00 : List Cond := u_ws RX0 TX0 11
theorem nmX0 : ∀ a, a < 11 → ∀ b, b < 11 → a ≠ b → (TX0 a).2.1 ≠ (TX0 b).2.1 := by decide +kernel
theorem tyX0_ok : ∀ k, k < 11 → parseFieldDescriptor (TX0 k).2.2.1 = some (tyX0 k) := by decide +kernel
abbrev cX0_init : ByteArray := prog_2_method_1_code
def yX0_init : MethodName := ⟨RX0, "<init>", "()V"⟩
abbrev cX0_isName : ByteArray := prog_2_method_2_code
def yX0_isName : MethodName := ⟨RX0, "isName", "(I)Z"⟩
abbrev cX0_hasRoom : ByteArray := prog_2_method_3_code
def yX0_hasRoom : MethodName := ⟨RX0, "hasRoom", "()Z"⟩
abbrev cX0_take : ByteArray := prog_2_method_4_code
def yX0_take : MethodName := ⟨RX0, "take", "(I)I"⟩
abbrev cX0_read : ByteArray := prog_2_method_5_code
def yX0_read : MethodName := ⟨RX0, "read", "()I"⟩
abbrev cX0_made : ByteArray := prog_2_method_6_code
def yX0_made : MethodName := ⟨RX0, "made", "()LMightHaveBeenPutUp$Text;"⟩
abbrev cX0_readEither : ByteArray := prog_2_method_7_code
def yX0_readEither : MethodName := ⟨RX0, "readEither", "()V"⟩
abbrev cX0_readBoth : ByteArray := prog_2_method_8_code
def yX0_readBoth : MethodName := ⟨RX0, "readBoth", "()V"⟩
abbrev cX0_readNot : ByteArray := prog_2_method_9_code
def yX0_readNot : MethodName := ⟨RX0, "readNot", "()V"⟩
abbrev cX0_readSum : ByteArray := prog_2_method_10_code
def yX0_readSum : MethodName := ⟨RX0, "readSum", "()V"⟩
abbrev cX0_readTerm : ByteArray := prog_2_method_11_code
def yX0_readTerm : MethodName := ⟨RX0, "readTerm", "()V"⟩
abbrev cX0_readOne : ByteArray := prog_2_method_12_code
def yX0_readOne : MethodName := ⟨RX0, "readOne", "()V"⟩
abbrev cX0_opens : ByteArray := prog_2_method_13_code
def yX0_opens : MethodName := ⟨RX0, "opens", "()Z"⟩
abbrev cX0_expect : ByteArray := prog_2_method_14_code
def yX0_expect : MethodName := ⟨RX0, "expect", "(I)V"⟩
abbrev cX0_refuse : ByteArray := prog_2_method_15_code
def yX0_refuse : MethodName := ⟨RX0, "refuse", "()V"⟩
abbrev cX0_write : ByteArray := prog_2_method_16_code
def yX0_write : MethodName := ⟨RX0, "write", "(I)V"⟩
abbrev cX0_step : ByteArray := prog_2_method_17_code
def yX0_step : MethodName := ⟨RX0, "step", "()V"⟩
abbrev cX0_wordToken : ByteArray := prog_2_method_18_code
def yX0_wordToken : MethodName := ⟨RX0, "wordToken", "()I"⟩
abbrev cX0_spells : ByteArray := prog_2_method_19_code
def yX0_spells : MethodName := ⟨RX0, "spells", "(III)Z"⟩
abbrev cX0_numberToken : ByteArray := prog_2_method_20_code
def yX0_numberToken : MethodName := ⟨RX0, "numberToken", "()I"⟩
abbrev cX0_isBlank : ByteArray := prog_2_method_21_code
def yX0_isBlank : MethodName := ⟨RX0, "isBlank", "(I)Z"⟩
abbrev cX0_isLetter : ByteArray := prog_2_method_22_code
def yX0_isLetter : MethodName := ⟨RX0, "isLetter", "(I)Z"⟩
abbrev cX0_isDigit : ByteArray := prog_2_method_23_code
def yX0_isDigit : MethodName := ⟨RX0, "isDigit", "(I)Z"⟩
def RX1 : String := "MightHaveBeenPutUp$Sheet"
def TX1 : u_T := fun k => match k with
  | 0 => ("MightHaveBeenPutUp$Sheet", "items", "[I", true)
  | 1 => ("MightHaveBeenPutUp$Sheet", "sort", "I", false)
  | _ => ("MightHaveBeenPutUp$Sheet", "size", "I", false)
def tyX1 : Nat → FieldType := fun k => match k with
  | 0 => .array .int
  | 1 => .int
  | _ => .int
abbrev wsX10 : List Cond := u_ws RX1 TX1 3
theorem nmX1 : ∀ a, a < 3 → ∀ b, b < 3 → a ≠ b → (TX1 a).2.1 ≠ (TX1 b).2.1 := by decide +kernel
theorem tyX1_ok : ∀ k, k < 3 → parseFieldDescriptor (TX1 k).2.2.1 = some (tyX1 k) := by decide +kernel
abbrev cX1_init : ByteArray := prog_3_method_1_code
def yX1_init : MethodName := ⟨RX1, "<init>", "()V"⟩
abbrev cX1_isMissing : ByteArray := prog_3_method_2_code
def yX1_isMissing : MethodName := ⟨RX1, "isMissing", "()Z"⟩
abbrev cX1_become : ByteArray := prog_3_method_3_code
def yX1_become : MethodName := ⟨RX1, "become", "(II)V"⟩
abbrev cX1_put : ByteArray := prog_3_method_4_code
def yX1_put : MethodName := ⟨RX1, "put", "(II)V"⟩
abbrev cX1_hasRange : ByteArray := prog_3_method_5_code
def yX1_hasRange : MethodName := ⟨RX1, "hasRange", "(II)Z"⟩
def RX2 : String := "MightHaveBeenPutUp$Text"
def TX2 : u_T := fun k => match k with
  | 0 => ("MightHaveBeenPutUp$Text", "code", "[I", true)
  | _ => ("MightHaveBeenPutUp$Text", "ends", "[I", true)
def tyX2 : Nat → FieldType := fun k => match k with
  | 0 => .array .int
  | _ => .array .int
abbrev wsX20 : List Cond := u_ws RX2 TX2 2
theorem nmX2 : ∀ a, a < 2 → ∀ b, b < 2 → a ≠ b → (TX2 a).2.1 ≠ (TX2 b).2.1 := by decide +kernel
theorem tyX2_ok : ∀ k, k < 2 → parseFieldDescriptor (TX2 k).2.2.1 = some (tyX2 k) := by decide +kernel
abbrev cX2_init : ByteArray := prog_4_method_1_code
def yX2_init : MethodName := ⟨RX2, "<init>", "([I[I)V"⟩
abbrev cX2_value : ByteArray := prog_4_method_2_code
def yX2_value : MethodName := ⟨RX2, "value", "(I[I[I)I"⟩
abbrev cX2_joined : ByteArray := prog_4_method_3_code
def yX2_joined : MethodName := ⟨RX2, "joined", "(III)I"⟩
def RX3 : String := "MightHaveBeenPutUp$Wall"
def TX3 : u_T := fun k => match k with
  | _ => ("", "", "", false)
def tyX3 : Nat → FieldType := fun k => match k with
  | _ => .int
abbrev wsX30 : List Cond := u_ws RX3 TX3 0
theorem nmX3 : ∀ a, a < 0 → ∀ b, b < 0 → a ≠ b → (TX3 a).2.1 ≠ (TX3 b).2.1 := by decide +kernel
theorem tyX3_ok : ∀ k, k < 0 → parseFieldDescriptor (TX3 k).2.2.1 = some (tyX3 k) := by decide +kernel
abbrev cX3_has : ByteArray := prog_5_method_2_code
def yX3_has : MethodName := ⟨RX3, "has", "(JI)Z"⟩
abbrev cX3_beside : ByteArray := prog_5_method_3_code
def yX3_beside : MethodName := ⟨RX3, "beside", "(J)J"⟩
abbrev cX3_held : ByteArray := prog_5_method_4_code
def yX3_held : MethodName := ⟨RX3, "held", "(JJ)J"⟩
abbrev cX3_cellsOf : ByteArray := prog_5_method_5_code
def yX3_cellsOf : MethodName := ⟨RX3, "cellsOf", "(II)J"⟩
abbrev cX3_touching : ByteArray := prog_5_method_6_code
def yX3_touching : MethodName := ⟨RX3, "touching", "(IJ)J"⟩
abbrev cX3_places : ByteArray := prog_5_method_7_code
def yX3_places : MethodName := ⟨RX3, "places", "(IJ)J"⟩
abbrev cX3_reachedByOne : ByteArray := prog_5_method_8_code
def yX3_reachedByOne : MethodName := ⟨RX3, "reachedByOne", "(JI)Z"⟩
abbrev cX3_reachedByTwo : ByteArray := prog_5_method_9_code
def yX3_reachedByTwo : MethodName := ⟨RX3, "reachedByTwo", "(JI)Z"⟩
abbrev cX3_isMadeRoom : ByteArray := prog_5_method_10_code
def yX3_isMadeRoom : MethodName := ⟨RX3, "isMadeRoom", "(JJ)Z"⟩
def RX4 : String := "MightHaveBeenPutUp$World"
def TX4 : u_T := fun k => match k with
  | 0 => ("MightHaveBeenPutUp$World", "kinds", "[I", true)
  | 1 => ("MightHaveBeenPutUp$World", "numbers", "[I", true)
  | 2 => ("MightHaveBeenPutUp$World", "firms", "[I", true)
  | 3 => ("MightHaveBeenPutUp$World", "up", "[J", true)
  | 4 => ("MightHaveBeenPutUp$World", "regrets", "I", false)
  | 5 => ("MightHaveBeenPutUp$World", "year", "I", false)
  | 6 => ("MightHaveBeenPutUp$World", "paid", "I", false)
  | 7 => ("MightHaveBeenPutUp$World", "rule", "I", false)
  | 8 => ("MightHaveBeenPutUp$World", "house", "J", false)
  | 9 => ("MightHaveBeenPutUp$World", "texts", "[LMightHaveBeenPutUp$Text;", true)
  | 10 => ("MightHaveBeenPutUp$World", "names", "[I", true)
  | _ => ("MightHaveBeenPutUp$World", "stack", "[I", true)
def tyX4 : Nat → FieldType := fun k => match k with
  | 0 => .array .int
  | 1 => .array .int
  | 2 => .array .int
  | 3 => .array .long
  | 4 => .int
  | 5 => .int
  | 6 => .int
  | 7 => .int
  | 8 => .long
  | 9 => .array (.object "MightHaveBeenPutUp$Text")
  | 10 => .array .int
  | _ => .array .int
abbrev wsX40 : List Cond := u_ws RX4 TX4 12
theorem nmX4 : ∀ a, a < 12 → ∀ b, b < 12 → a ≠ b → (TX4 a).2.1 ≠ (TX4 b).2.1 := by decide +kernel
theorem tyX4_ok : ∀ k, k < 12 → parseFieldDescriptor (TX4 k).2.2.1 = some (tyX4 k) := by decide +kernel
abbrev cX4_init : ByteArray := prog_6_method_1_code
def yX4_init : MethodName := ⟨RX4, "<init>", "([LMightHaveBeenPutUp$Text;)V"⟩
abbrev cX4_become : ByteArray := prog_6_method_2_code
def yX4_become : MethodName := ⟨RX4, "become", "(LMightHaveBeenPutUp$World;)V"⟩
abbrev cX4_allUp : ByteArray := prog_6_method_3_code
def yX4_allUp : MethodName := ⟨RX4, "allUp", "()J"⟩
abbrev cX4_stands : ByteArray := prog_6_method_4_code
def yX4_stands : MethodName := ⟨RX4, "stands", "()J"⟩
abbrev cX4_countUp : ByteArray := prog_6_method_5_code
def yX4_countUp : MethodName := ⟨RX4, "countUp", "()I"⟩
abbrev cX4_whose : ByteArray := prog_6_method_6_code
def yX4_whose : MethodName := ⟨RX4, "whose", "(I)I"⟩
abbrev cX4_dropLoose : ByteArray := prog_6_method_7_code
def yX4_dropLoose : MethodName := ⟨RX4, "dropLoose", "()V"⟩
abbrev cX4_dropCell : ByteArray := prog_6_method_8_code
def yX4_dropCell : MethodName := ⟨RX4, "dropCell", "(I)V"⟩
abbrev cX4_highestCell : ByteArray := prog_6_method_9_code
def yX4_highestCell : MethodName := ⟨RX4, "highestCell", "(I)I"⟩
abbrev cX4_fallWithout : ByteArray := prog_6_method_10_code
def yX4_fallWithout : MethodName := ⟨RX4, "fallWithout", "(I)I"⟩
abbrev cX4_passYear : ByteArray := prog_6_method_11_code
def yX4_passYear : MethodName := ⟨RX4, "passYear", "()V"⟩
abbrev cX4_countBehind : ByteArray := prog_6_method_12_code
def yX4_countBehind : MethodName := ⟨RX4, "countBehind", "(II)I"⟩
abbrev cX4_holds : ByteArray := prog_6_method_13_code
def yX4_holds : MethodName := ⟨RX4, "holds", "(I)I"⟩
abbrev cX4_fades : ByteArray := prog_6_method_14_code
def yX4_fades : MethodName := ⟨RX4, "fades", "(I)I"⟩
abbrev cX4_costs : ByteArray := prog_6_method_15_code
def yX4_costs : MethodName := ⟨RX4, "costs", "(I)I"⟩
abbrev cX4_tell : ByteArray := prog_6_method_16_code
def yX4_tell : MethodName := ⟨RX4, "tell", "(II)I"⟩
def RX5 : String := "MightHaveBeenPutUp"
def TX5 : u_T := fun k => match k with
  | 0 => ("MightHaveBeenPutUp", "texts", "[LMightHaveBeenPutUp$Text;", true)
  | 1 => ("MightHaveBeenPutUp", "now", "LMightHaveBeenPutUp$World;", true)
  | 2 => ("MightHaveBeenPutUp", "thought", "LMightHaveBeenPutUp$World;", true)
  | 3 => ("MightHaveBeenPutUp", "kept", "LMightHaveBeenPutUp$World;", true)
  | 4 => ("MightHaveBeenPutUp", "reader", "LMightHaveBeenPutUp$Reader;", true)
  | 5 => ("MightHaveBeenPutUp", "sheets", "[LMightHaveBeenPutUp$Sheet;", true)
  | 6 => ("MightHaveBeenPutUp", "textCount", "I", false)
  | _ => ("MightHaveBeenPutUp", "imageKept", "Z", false)
def tyX5 : Nat → FieldType := fun k => match k with
  | 0 => .array (.object "MightHaveBeenPutUp$Text")
  | 1 => .object "MightHaveBeenPutUp$World"
  | 2 => .object "MightHaveBeenPutUp$World"
  | 3 => .object "MightHaveBeenPutUp$World"
  | 4 => .object "MightHaveBeenPutUp$Reader"
  | 5 => .array (.object "MightHaveBeenPutUp$Sheet")
  | 6 => .int
  | _ => .boolean
abbrev wsX50 : List Cond := u_ws RX5 TX5 8
theorem nmX5 : ∀ a, a < 8 → ∀ b, b < 8 → a ≠ b → (TX5 a).2.1 ≠ (TX5 b).2.1 := by decide +kernel
theorem tyX5_ok : ∀ k, k < 8 → parseFieldDescriptor (TX5 k).2.2.1 = some (tyX5 k) := by decide +kernel
abbrev cX5_init : ByteArray := prog_1_method_1_code
def yX5_init : MethodName := ⟨RX5, "<init>", "()V"⟩
abbrev cX5_set : ByteArray := prog_1_method_2_code
def yX5_set : MethodName := ⟨RX5, "set", "(III)I"⟩
abbrev cX5_regret : ByteArray := prog_1_method_3_code
def yX5_regret : MethodName := ⟨RX5, "regret", "(III)I"⟩
abbrev cX5_told : ByteArray := prog_1_method_4_code
def yX5_told : MethodName := ⟨RX5, "told", "(II)I"⟩
abbrev cX5_wall : ByteArray := prog_1_method_5_code
def yX5_wall : MethodName := ⟨RX5, "wall", "(I)J"⟩
abbrev cX5_feed : ByteArray := prog_1_method_6_code
def yX5_feed : MethodName := ⟨RX5, "feed", "(I)I"⟩
abbrev cX5_text : ByteArray := prog_1_method_7_code
def yX5_text : MethodName := ⟨RX5, "text", "()I"⟩
abbrev cX5_force : ByteArray := prog_1_method_8_code
def yX5_force : MethodName := ⟨RX5, "force", "(I)I"⟩
abbrev cX5_raise : ByteArray := prog_1_method_9_code
def yX5_raise : MethodName := ⟨RX5, "raise", "(III)I"⟩
abbrev cX5_fell : ByteArray := prog_1_method_10_code
def yX5_fell : MethodName := ⟨RX5, "fell", "(I)I"⟩
abbrev cX5_room : ByteArray := prog_1_method_11_code
def yX5_room : MethodName := ⟨RX5, "room", "(I)J"⟩
abbrev cX5_year : ByteArray := prog_1_method_12_code
def yX5_year : MethodName := ⟨RX5, "year", "()I"⟩
abbrev cX5_run : ByteArray := prog_1_method_13_code
def yX5_run : MethodName := ⟨RX5, "run", "(III)I"⟩
abbrev cX5_later : ByteArray := prog_1_method_14_code
def yX5_later : MethodName := ⟨RX5, "later", "(I)J"⟩
abbrev cX5_walk : ByteArray := prog_1_method_15_code
def yX5_walk : MethodName := ⟨RX5, "walk", "(II)I"⟩
abbrev cX5_round : ByteArray := prog_1_method_16_code
def yX5_round : MethodName := ⟨RX5, "round", "(II)J"⟩
abbrev cX5_reach : ByteArray := prog_1_method_17_code
def yX5_reach : MethodName := ⟨RX5, "reach", "(I)I"⟩
abbrev cX5_key : ByteArray := prog_1_method_18_code
def yX5_key : MethodName := ⟨RX5, "key", "(I)I"⟩
abbrev cX5_add : ByteArray := prog_1_method_19_code
def yX5_add : MethodName := ⟨RX5, "add", "(III)I"⟩
abbrev cX5_share : ByteArray := prog_1_method_20_code
def yX5_share : MethodName := ⟨RX5, "share", "(II)J"⟩
abbrev cX5_tells : ByteArray := prog_1_method_21_code
def yX5_tells : MethodName := ⟨RX5, "tells", "(III)I"⟩
abbrev cX5_film : ByteArray := prog_1_method_22_code
def yX5_film : MethodName := ⟨RX5, "film", "(III)I"⟩
abbrev cX5_drawn : ByteArray := prog_1_method_23_code
def yX5_drawn : MethodName := ⟨RX5, "drawn", "(II)I"⟩
abbrev cX5_chance : ByteArray := prog_1_method_24_code
def yX5_chance : MethodName := ⟨RX5, "chance", "(IIII)J"⟩
abbrev cX5_image : ByteArray := prog_1_method_25_code
def yX5_image : MethodName := ⟨RX5, "image", "()I"⟩
abbrev cX5_back : ByteArray := prog_1_method_26_code
def yX5_back : MethodName := ⟨RX5, "back", "()I"⟩
abbrev cX5_count : ByteArray := prog_1_method_27_code
def yX5_count : MethodName := ⟨RX5, "count", "(I)I"⟩
abbrev cX5_sheet : ByteArray := prog_1_method_28_code
def yX5_sheet : MethodName := ⟨RX5, "sheet", "(III)I"⟩
abbrev cX5_cell : ByteArray := prog_1_method_29_code
def yX5_cell : MethodName := ⟨RX5, "cell", "(III)I"⟩
abbrev cX5_copy : ByteArray := prog_1_method_30_code
def yX5_copy : MethodName := ⟨RX5, "copy", "(IIIII)I"⟩
abbrev cX5_bag : ByteArray := prog_1_method_31_code
def yX5_bag : MethodName := ⟨RX5, "bag", "(IIII)I"⟩
abbrev cX5_taken : ByteArray := prog_1_method_32_code
def yX5_taken : MethodName := ⟨RX5, "taken", "(II)I"⟩
abbrev cX5_within : ByteArray := prog_1_method_33_code
def yX5_within : MethodName := ⟨RX5, "within", "(II)Z"⟩
abbrev cX5_isCell : ByteArray := prog_1_method_34_code
def yX5_isCell : MethodName := ⟨RX5, "isCell", "(I)Z"⟩
abbrev cX5_isKind : ByteArray := prog_1_method_35_code
def yX5_isKind : MethodName := ⟨RX5, "isKind", "(I)Z"⟩
abbrev cX5_isPart : ByteArray := prog_1_method_36_code
def yX5_isPart : MethodName := ⟨RX5, "isPart", "(I)Z"⟩
abbrev cX5_isSheet : ByteArray := prog_1_method_37_code
def yX5_isSheet : MethodName := ⟨RX5, "isSheet", "(I)Z"⟩
abbrev cX5_isOne : ByteArray := prog_1_method_38_code
def yX5_isOne : MethodName := ⟨RX5, "isOne", "(I)Z"⟩
abbrev cX5_isUnder : ByteArray := prog_1_method_39_code
def yX5_isUnder : MethodName := ⟨RX5, "isUnder", "(II)Z"⟩
abbrev cX5_changeYear : ByteArray := prog_1_method_40_code
def yX5_changeYear : MethodName := ⟨RX5, "changeYear", "(I)I"⟩
abbrev cX5_changeOfOne : ByteArray := prog_1_method_41_code
def yX5_changeOfOne : MethodName := ⟨RX5, "changeOfOne", "([IIII)I"⟩
abbrev cX5_changeHouse : ByteArray := prog_1_method_42_code
def yX5_changeHouse : MethodName := ⟨RX5, "changeHouse", "(II)I"⟩
abbrev cX5_toldOfOne : ByteArray := prog_1_method_43_code
def yX5_toldOfOne : MethodName := ⟨RX5, "toldOfOne", "(II)I"⟩
abbrev cX5_lowest : ByteArray := prog_1_method_44_code
def yX5_lowest : MethodName := ⟨RX5, "lowest", "(III)I"⟩
abbrev cX5_think : ByteArray := prog_1_method_45_code
def yX5_think : MethodName := ⟨RX5, "think", "(I)V"⟩
abbrev cX5_countDrawn : ByteArray := prog_1_method_46_code
def yX5_countDrawn : MethodName := ⟨RX5, "countDrawn", "(II)I"⟩
abbrev cX5_firstOtherwise : ByteArray := prog_1_method_47_code
def yX5_firstOtherwise : MethodName := ⟨RX5, "firstOtherwise", "(LMightHaveBeenPutUp$Sheet;I)I"⟩
abbrev cX5_supposedTold : ByteArray := prog_1_method_48_code
def yX5_supposedTold : MethodName := ⟨RX5, "supposedTold", "(LMightHaveBeenPutUp$Sheet;II)I"⟩
abbrev cX5_suppositions : ByteArray := prog_1_method_49_code
def yX5_suppositions : MethodName := ⟨RX5, "suppositions", "(I)I"⟩
abbrev cX5_suppose : ByteArray := prog_1_method_50_code
def yX5_suppose : MethodName := ⟨RX5, "suppose", "(III)V"⟩
def RX6 : String := "MightHaveBeenPutUpModel"
def TX6 : u_T := fun k => match k with
  | 0 => ("MightHaveBeenPutUpModel", "thrown", "I", false)
  | 1 => ("MightHaveBeenPutUpModel", "texts", "[I", true)
  | 2 => ("MightHaveBeenPutUpModel", "textSize", "[I", true)
  | 3 => ("MightHaveBeenPutUpModel", "textCount", "I", false)
  | 4 => ("MightHaveBeenPutUpModel", "rule", "I", false)
  | 5 => ("MightHaveBeenPutUpModel", "tape", "[I", true)
  | 6 => ("MightHaveBeenPutUpModel", "taped", "I", false)
  | 7 => ("MightHaveBeenPutUpModel", "yearNow", "I", false)
  | 8 => ("MightHaveBeenPutUpModel", "paidNow", "I", false)
  | 9 => ("MightHaveBeenPutUpModel", "house", "J", false)
  | 10 => ("MightHaveBeenPutUpModel", "rows", "[I", true)
  | 11 => ("MightHaveBeenPutUpModel", "put", "[J", true)
  | 12 => ("MightHaveBeenPutUpModel", "many", "I", false)
  | 13 => ("MightHaveBeenPutUpModel", "ofFirm", "I", false)
  | 14 => ("MightHaveBeenPutUpModel", "ofNumber", "I", false)
  | 15 => ("MightHaveBeenPutUpModel", "ofYear", "I", false)
  | 16 => ("MightHaveBeenPutUpModel", "ofParts", "I", false)
  | 17 => ("MightHaveBeenPutUpModel", "ofHigh", "I", false)
  | 18 => ("MightHaveBeenPutUpModel", "ofPaid", "I", false)
  | 19 => ("MightHaveBeenPutUpModel", "from", "I", false)
  | 20 => ("MightHaveBeenPutUpModel", "size", "I", false)
  | 21 => ("MightHaveBeenPutUpModel", "here", "I", false)
  | 22 => ("MightHaveBeenPutUpModel", "token", "I", false)
  | 23 => ("MightHaveBeenPutUpModel", "tokenAt", "I", false)
  | 24 => ("MightHaveBeenPutUpModel", "tokenWorth", "J", false)
  | 25 => ("MightHaveBeenPutUpModel", "open", "I", false)
  | 26 => ("MightHaveBeenPutUpModel", "bad", "Z", false)
  | 27 => ("MightHaveBeenPutUpModel", "fault", "I", false)
  | 28 => ("MightHaveBeenPutUpModel", "was", "[I", true)
  | 29 => ("MightHaveBeenPutUpModel", "putWas", "[J", true)
  | 30 => ("MightHaveBeenPutUpModel", "rowsKept", "[I", true)
  | 31 => ("MightHaveBeenPutUpModel", "putKept", "[J", true)
  | 32 => ("MightHaveBeenPutUpModel", "manyKept", "I", false)
  | 33 => ("MightHaveBeenPutUpModel", "yearKept", "I", false)
  | 34 => ("MightHaveBeenPutUpModel", "paidKept", "I", false)
  | 35 => ("MightHaveBeenPutUpModel", "ruleKept", "I", false)
  | 36 => ("MightHaveBeenPutUpModel", "houseKept", "J", false)
  | 37 => ("MightHaveBeenPutUpModel", "isThere", "[Z", true)
  | 38 => ("MightHaveBeenPutUpModel", "sorts", "[I", true)
  | 39 => ("MightHaveBeenPutUpModel", "sheetSize", "[I", true)
  | _ => ("MightHaveBeenPutUpModel", "items", "[I", true)
def tyX6 : Nat → FieldType := fun k => match k with
  | 0 => .int
  | 1 => .array .int
  | 2 => .array .int
  | 3 => .int
  | 4 => .int
  | 5 => .array .int
  | 6 => .int
  | 7 => .int
  | 8 => .int
  | 9 => .long
  | 10 => .array .int
  | 11 => .array .long
  | 12 => .int
  | 13 => .int
  | 14 => .int
  | 15 => .int
  | 16 => .int
  | 17 => .int
  | 18 => .int
  | 19 => .int
  | 20 => .int
  | 21 => .int
  | 22 => .int
  | 23 => .int
  | 24 => .long
  | 25 => .int
  | 26 => .boolean
  | 27 => .int
  | 28 => .array .int
  | 29 => .array .long
  | 30 => .array .int
  | 31 => .array .long
  | 32 => .int
  | 33 => .int
  | 34 => .int
  | 35 => .int
  | 36 => .long
  | 37 => .array .boolean
  | 38 => .array .int
  | 39 => .array .int
  | _ => .array .int
abbrev wsX60 : List Cond := u_ws RX6 TX6 41
theorem nmX6 : ∀ a, a < 41 → ∀ b, b < 41 → a ≠ b → (TX6 a).2.1 ≠ (TX6 b).2.1 := by decide +kernel
theorem tyX6_ok : ∀ k, k < 41 → parseFieldDescriptor (TX6 k).2.2.1 = some (tyX6 k) := by decide +kernel
abbrev cX6_in : ByteArray := prog_8_method_2_code
def yX6_in : MethodName := ⟨RX6, "in", "(JJJ)Z"⟩
abbrev cX6_within : ByteArray := prog_8_method_3_code
def yX6_within : MethodName := ⟨RX6, "within", "(III)I"⟩
abbrev cX6_init : ByteArray := prog_8_method_4_code
def yX6_init : MethodName := ⟨RX6, "<init>", "()V"⟩
abbrev cX6_spell : ByteArray := prog_8_method_5_code
def yX6_spell : MethodName := ⟨RX6, "spell", "(IIIIIIIII)V"⟩
abbrev cX6_isOne : ByteArray := prog_8_method_6_code
def yX6_isOne : MethodName := ⟨RX6, "isOne", "(I)Z"⟩
abbrev cX6_isCell : ByteArray := prog_8_method_7_code
def yX6_isCell : MethodName := ⟨RX6, "isCell", "(I)Z"⟩
abbrev cX6_bitsOf : ByteArray := prog_8_method_8_code
def yX6_bitsOf : MethodName := ⟨RX6, "bitsOf", "(J)I"⟩
abbrev cX6_has : ByteArray := prog_8_method_9_code
def yX6_has : MethodName := ⟨RX6, "has", "(JI)Z"⟩
abbrev cX6_putAll : ByteArray := prog_8_method_10_code
def yX6_putAll : MethodName := ⟨RX6, "putAll", "()J"⟩
abbrev cX6_stands : ByteArray := prog_8_method_11_code
def yX6_stands : MethodName := ⟨RX6, "stands", "()J"⟩
abbrev cX6_mostOf : ByteArray := prog_8_method_12_code
def yX6_mostOf : MethodName := ⟨RX6, "mostOf", "(I)I"⟩
abbrev cX6_set : ByteArray := prog_8_method_13_code
def yX6_set : MethodName := ⟨RX6, "set", "(III)I"⟩
abbrev cX6_lays : ByteArray := prog_8_method_14_code
def yX6_lays : MethodName := ⟨RX6, "lays", "(III)V"⟩
abbrev cX6_regret : ByteArray := prog_8_method_15_code
def yX6_regret : MethodName := ⟨RX6, "regret", "(III)I"⟩
abbrev cX6_told : ByteArray := prog_8_method_16_code
def yX6_told : MethodName := ⟨RX6, "told", "(II)I"⟩
abbrev cX6_whoseIs : ByteArray := prog_8_method_17_code
def yX6_whoseIs : MethodName := ⟨RX6, "whoseIs", "(I)I"⟩
abbrev cX6_wall : ByteArray := prog_8_method_18_code
def yX6_wall : MethodName := ⟨RX6, "wall", "(I)J"⟩
abbrev cX6_feed : ByteArray := prog_8_method_19_code
def yX6_feed : MethodName := ⟨RX6, "feed", "(I)I"⟩
abbrev cX6_byteAt : ByteArray := prog_8_method_20_code
def yX6_byteAt : MethodName := ⟨RX6, "byteAt", "(I)I"⟩
abbrev cX6_next : ByteArray := prog_8_method_21_code
def yX6_next : MethodName := ⟨RX6, "next", "()V"⟩
abbrev cX6_fail : ByteArray := prog_8_method_22_code
def yX6_fail : MethodName := ⟨RX6, "fail", "()V"⟩
abbrev cX6_isLetter : ByteArray := prog_8_method_23_code
def yX6_isLetter : MethodName := ⟨RX6, "isLetter", "(II)Z"⟩
abbrev cX6_isWord : ByteArray := prog_8_method_24_code
def yX6_isWord : MethodName := ⟨RX6, "isWord", "(IIIIIIII)Z"⟩
abbrev cX6_isSign : ByteArray := prog_8_method_25_code
def yX6_isSign : MethodName := ⟨RX6, "isSign", "(I)Z"⟩
abbrev cX6_opens : ByteArray := prog_8_method_26_code
def yX6_opens : MethodName := ⟨RX6, "opens", "()Z"⟩
abbrev cX6_name : ByteArray := prog_8_method_27_code
def yX6_name : MethodName := ⟨RX6, "name", "()I"⟩
abbrev cX6_atom5 : ByteArray := prog_8_method_28_code
def yX6_atom5 : MethodName := ⟨RX6, "atom5", "()I"⟩
abbrev cX6_term5 : ByteArray := prog_8_method_29_code
def yX6_term5 : MethodName := ⟨RX6, "term5", "()I"⟩
abbrev cX6_added5 : ByteArray := prog_8_method_30_code
def yX6_added5 : MethodName := ⟨RX6, "added5", "()I"⟩
abbrev cX6_not5 : ByteArray := prog_8_method_31_code
def yX6_not5 : MethodName := ⟨RX6, "not5", "()I"⟩
abbrev cX6_both5 : ByteArray := prog_8_method_32_code
def yX6_both5 : MethodName := ⟨RX6, "both5", "()I"⟩
abbrev cX6_either5 : ByteArray := prog_8_method_33_code
def yX6_either5 : MethodName := ⟨RX6, "either5", "()I"⟩
abbrev cX6_atom4 : ByteArray := prog_8_method_34_code
def yX6_atom4 : MethodName := ⟨RX6, "atom4", "()I"⟩
abbrev cX6_term4 : ByteArray := prog_8_method_35_code
def yX6_term4 : MethodName := ⟨RX6, "term4", "()I"⟩
abbrev cX6_added4 : ByteArray := prog_8_method_36_code
def yX6_added4 : MethodName := ⟨RX6, "added4", "()I"⟩
abbrev cX6_not4 : ByteArray := prog_8_method_37_code
def yX6_not4 : MethodName := ⟨RX6, "not4", "()I"⟩
abbrev cX6_both4 : ByteArray := prog_8_method_38_code
def yX6_both4 : MethodName := ⟨RX6, "both4", "()I"⟩
abbrev cX6_either4 : ByteArray := prog_8_method_39_code
def yX6_either4 : MethodName := ⟨RX6, "either4", "()I"⟩
abbrev cX6_atom3 : ByteArray := prog_8_method_40_code
def yX6_atom3 : MethodName := ⟨RX6, "atom3", "()I"⟩
abbrev cX6_term3 : ByteArray := prog_8_method_41_code
def yX6_term3 : MethodName := ⟨RX6, "term3", "()I"⟩
abbrev cX6_added3 : ByteArray := prog_8_method_42_code
def yX6_added3 : MethodName := ⟨RX6, "added3", "()I"⟩
abbrev cX6_not3 : ByteArray := prog_8_method_43_code
def yX6_not3 : MethodName := ⟨RX6, "not3", "()I"⟩
abbrev cX6_both3 : ByteArray := prog_8_method_44_code
def yX6_both3 : MethodName := ⟨RX6, "both3", "()I"⟩
abbrev cX6_either3 : ByteArray := prog_8_method_45_code
def yX6_either3 : MethodName := ⟨RX6, "either3", "()I"⟩
abbrev cX6_atom2 : ByteArray := prog_8_method_46_code
def yX6_atom2 : MethodName := ⟨RX6, "atom2", "()I"⟩
abbrev cX6_term2 : ByteArray := prog_8_method_47_code
def yX6_term2 : MethodName := ⟨RX6, "term2", "()I"⟩
abbrev cX6_added2 : ByteArray := prog_8_method_48_code
def yX6_added2 : MethodName := ⟨RX6, "added2", "()I"⟩
abbrev cX6_not2 : ByteArray := prog_8_method_49_code
def yX6_not2 : MethodName := ⟨RX6, "not2", "()I"⟩
abbrev cX6_both2 : ByteArray := prog_8_method_50_code
def yX6_both2 : MethodName := ⟨RX6, "both2", "()I"⟩
abbrev cX6_either2 : ByteArray := prog_8_method_51_code
def yX6_either2 : MethodName := ⟨RX6, "either2", "()I"⟩
abbrev cX6_atom1 : ByteArray := prog_8_method_52_code
def yX6_atom1 : MethodName := ⟨RX6, "atom1", "()I"⟩
abbrev cX6_term1 : ByteArray := prog_8_method_53_code
def yX6_term1 : MethodName := ⟨RX6, "term1", "()I"⟩
abbrev cX6_added1 : ByteArray := prog_8_method_54_code
def yX6_added1 : MethodName := ⟨RX6, "added1", "()I"⟩
abbrev cX6_not1 : ByteArray := prog_8_method_55_code
def yX6_not1 : MethodName := ⟨RX6, "not1", "()I"⟩
abbrev cX6_both1 : ByteArray := prog_8_method_56_code
def yX6_both1 : MethodName := ⟨RX6, "both1", "()I"⟩
abbrev cX6_either1 : ByteArray := prog_8_method_57_code
def yX6_either1 : MethodName := ⟨RX6, "either1", "()I"⟩
abbrev cX6_atom0 : ByteArray := prog_8_method_58_code
def yX6_atom0 : MethodName := ⟨RX6, "atom0", "()I"⟩
abbrev cX6_term0 : ByteArray := prog_8_method_59_code
def yX6_term0 : MethodName := ⟨RX6, "term0", "()I"⟩
abbrev cX6_added0 : ByteArray := prog_8_method_60_code
def yX6_added0 : MethodName := ⟨RX6, "added0", "()I"⟩
abbrev cX6_not0 : ByteArray := prog_8_method_61_code
def yX6_not0 : MethodName := ⟨RX6, "not0", "()I"⟩
abbrev cX6_both0 : ByteArray := prog_8_method_62_code
def yX6_both0 : MethodName := ⟨RX6, "both0", "()I"⟩
abbrev cX6_either0 : ByteArray := prog_8_method_63_code
def yX6_either0 : MethodName := ⟨RX6, "either0", "()I"⟩
abbrev cX6_part : ByteArray := prog_8_method_64_code
def yX6_part : MethodName := ⟨RX6, "part", "(Z)I"⟩
abbrev cX6_read : ByteArray := prog_8_method_65_code
def yX6_read : MethodName := ⟨RX6, "read", "(II)I"⟩
abbrev cX6_text : ByteArray := prog_8_method_66_code
def yX6_text : MethodName := ⟨RX6, "text", "()I"⟩
abbrev cX6_force : ByteArray := prog_8_method_67_code
def yX6_force : MethodName := ⟨RX6, "force", "(I)I"⟩
abbrev cX6_greatest : ByteArray := prog_8_method_68_code
def yX6_greatest : MethodName := ⟨RX6, "greatest", "(J)I"⟩
abbrev cX6_says : ByteArray := prog_8_method_69_code
def yX6_says : MethodName := ⟨RX6, "says", "(II)I"⟩
abbrev cX6_holdsOf : ByteArray := prog_8_method_70_code
def yX6_holdsOf : MethodName := ⟨RX6, "holdsOf", "(I)I"⟩
abbrev cX6_fadesOf : ByteArray := prog_8_method_71_code
def yX6_fadesOf : MethodName := ⟨RX6, "fadesOf", "(I)I"⟩
abbrev cX6_costsOf : ByteArray := prog_8_method_72_code
def yX6_costsOf : MethodName := ⟨RX6, "costsOf", "(I)I"⟩
abbrev cX6_beside : ByteArray := prog_8_method_73_code
def yX6_beside : MethodName := ⟨RX6, "beside", "(J)J"⟩
abbrev cX6_comeTo : ByteArray := prog_8_method_74_code
def yX6_comeTo : MethodName := ⟨RX6, "comeTo", "(JJI)J"⟩
abbrev cX6_falls : ByteArray := prog_8_method_75_code
def yX6_falls : MethodName := ⟨RX6, "falls", "()I"⟩
abbrev cX6_felled : ByteArray := prog_8_method_76_code
def yX6_felled : MethodName := ⟨RX6, "felled", "(I)I"⟩
abbrev cX6_fell : ByteArray := prog_8_method_77_code
def yX6_fell : MethodName := ⟨RX6, "fell", "(I)I"⟩
abbrev cX6_partAt : ByteArray := prog_8_method_78_code
def yX6_partAt : MethodName := ⟨RX6, "partAt", "(II)J"⟩
abbrev cX6_can : ByteArray := prog_8_method_79_code
def yX6_can : MethodName := ⟨RX6, "can", "(JJ)Z"⟩
abbrev cX6_raise : ByteArray := prog_8_method_80_code
def yX6_raise : MethodName := ⟨RX6, "raise", "(III)I"⟩
abbrev cX6_room : ByteArray := prog_8_method_81_code
def yX6_room : MethodName := ⟨RX6, "room", "(I)J"⟩
abbrev cX6_passes : ByteArray := prog_8_method_82_code
def yX6_passes : MethodName := ⟨RX6, "passes", "()I"⟩
abbrev cX6_year : ByteArray := prog_8_method_83_code
def yX6_year : MethodName := ⟨RX6, "year", "()I"⟩
abbrev cX6_laysAside : ByteArray := prog_8_method_84_code
def yX6_laysAside : MethodName := ⟨RX6, "laysAside", "()V"⟩
abbrev cX6_laysBack : ByteArray := prog_8_method_85_code
def yX6_laysBack : MethodName := ⟨RX6, "laysBack", "()V"⟩
abbrev cX6_go : ByteArray := prog_8_method_86_code
def yX6_go : MethodName := ⟨RX6, "go", "(I)V"⟩
abbrev cX6_run : ByteArray := prog_8_method_87_code
def yX6_run : MethodName := ⟨RX6, "run", "(III)I"⟩
abbrev cX6_later : ByteArray := prog_8_method_88_code
def yX6_later : MethodName := ⟨RX6, "later", "(I)J"⟩
abbrev cX6_walk : ByteArray := prog_8_method_89_code
def yX6_walk : MethodName := ⟨RX6, "walk", "(II)I"⟩
abbrev cX6_round : ByteArray := prog_8_method_90_code
def yX6_round : MethodName := ⟨RX6, "round", "(II)J"⟩
abbrev cX6_byOne : ByteArray := prog_8_method_91_code
def yX6_byOne : MethodName := ⟨RX6, "byOne", "(IJ)Z"⟩
abbrev cX6_byTwo : ByteArray := prog_8_method_92_code
def yX6_byTwo : MethodName := ⟨RX6, "byTwo", "(IJ)Z"⟩
abbrev cX6_reach : ByteArray := prog_8_method_93_code
def yX6_reach : MethodName := ⟨RX6, "reach", "(I)I"⟩
abbrev cX6_key : ByteArray := prog_8_method_94_code
def yX6_key : MethodName := ⟨RX6, "key", "(I)I"⟩
abbrev cX6_putBehind : ByteArray := prog_8_method_95_code
def yX6_putBehind : MethodName := ⟨RX6, "putBehind", "(IJI)I"⟩
abbrev cX6_add : ByteArray := prog_8_method_96_code
def yX6_add : MethodName := ⟨RX6, "add", "(III)I"⟩
abbrev cX6_lowest : ByteArray := prog_8_method_97_code
def yX6_lowest : MethodName := ⟨RX6, "lowest", "(JJI)J"⟩
abbrev cX6_share : ByteArray := prog_8_method_98_code
def yX6_share : MethodName := ⟨RX6, "share", "(II)J"⟩
abbrev cX6_firstOther : ByteArray := prog_8_method_99_code
def yX6_firstOther : MethodName := ⟨RX6, "firstOther", "(II)I"⟩
abbrev cX6_likeSet : ByteArray := prog_8_method_100_code
def yX6_likeSet : MethodName := ⟨RX6, "likeSet", "(I)I"⟩
abbrev cX6_tells : ByteArray := prog_8_method_101_code
def yX6_tells : MethodName := ⟨RX6, "tells", "(III)I"⟩
abbrev cX6_film : ByteArray := prog_8_method_102_code
def yX6_film : MethodName := ⟨RX6, "film", "(III)I"⟩
abbrev cX6_putDrawn : ByteArray := prog_8_method_103_code
def yX6_putDrawn : MethodName := ⟨RX6, "putDrawn", "(II)I"⟩
abbrev cX6_drawn : ByteArray := prog_8_method_104_code
def yX6_drawn : MethodName := ⟨RX6, "drawn", "(II)I"⟩
abbrev cX6_chance : ByteArray := prog_8_method_105_code
def yX6_chance : MethodName := ⟨RX6, "chance", "(IIII)J"⟩
abbrev cX6_image : ByteArray := prog_8_method_106_code
def yX6_image : MethodName := ⟨RX6, "image", "()I"⟩
abbrev cX6_back : ByteArray := prog_8_method_107_code
def yX6_back : MethodName := ⟨RX6, "back", "()I"⟩
abbrev cX6_count : ByteArray := prog_8_method_108_code
def yX6_count : MethodName := ⟨RX6, "count", "(I)I"⟩
abbrev cX6_isSheet : ByteArray := prog_8_method_109_code
def yX6_isSheet : MethodName := ⟨RX6, "isSheet", "(I)Z"⟩
abbrev cX6_sheet : ByteArray := prog_8_method_110_code
def yX6_sheet : MethodName := ⟨RX6, "sheet", "(III)I"⟩
abbrev cX6_cell : ByteArray := prog_8_method_111_code
def yX6_cell : MethodName := ⟨RX6, "cell", "(III)I"⟩
abbrev cX6_copy : ByteArray := prog_8_method_112_code
def yX6_copy : MethodName := ⟨RX6, "copy", "(IIIII)I"⟩
abbrev cX6_bag : ByteArray := prog_8_method_113_code
def yX6_bag : MethodName := ⟨RX6, "bag", "(IIII)I"⟩
abbrev cX6_over : ByteArray := prog_8_method_114_code
def yX6_over : MethodName := ⟨RX6, "over", "(I)I"⟩
abbrev cX6_taken : ByteArray := prog_8_method_115_code
def yX6_taken : MethodName := ⟨RX6, "taken", "(II)I"⟩
def RJx145de : String := "java/io/Serializable"
def TJx145de : u_T := fun k => match k with
  | _ => ("", "", "", false)
def tyJx145de : Nat → FieldType := fun k => match k with
  | _ => .int
abbrev wsJx145de0 : List Cond := u_ws RJx145de TJx145de 0
def RJx9f9b0 : String := "java/lang/CharSequence"
def TJx9f9b0 : u_T := fun k => match k with
  | _ => ("", "", "", false)
def tyJx9f9b0 : Nat → FieldType := fun k => match k with
  | _ => .int
abbrev wsJx9f9b00 : List Cond := u_ws RJx9f9b0 TJx9f9b0 0
def RJ11 : String := "java/lang/Character"
def TJ11 : u_T := fun k => match k with
  | _ => ("", "", "", false)
def tyJ11 : Nat → FieldType := fun k => match k with
  | _ => .int
abbrev wsJ110 : List Cond := u_ws RJ11 TJ11 0
abbrev cJ11_isValidCodePoint_9a6ad : ByteArray := prog_9_method_11_code
def yJ11_isValidCodePoint_9a6ad : MethodName := ⟨RJ11, "isValidCodePoint", "(I)Z"⟩
abbrev cJ11_highSurrogate_5068e : ByteArray := prog_9_method_28_code
def yJ11_highSurrogate_5068e : MethodName := ⟨RJ11, "highSurrogate", "(I)C"⟩
abbrev cJ11_lowSurrogate_5068e : ByteArray := prog_9_method_29_code
def yJ11_lowSurrogate_5068e : MethodName := ⟨RJ11, "lowSurrogate", "(I)C"⟩
def RJx8e188 : String := "java/lang/Cloneable"
def TJx8e188 : u_T := fun k => match k with
  | _ => ("", "", "", false)
def tyJx8e188 : Nat → FieldType := fun k => match k with
  | _ => .int
abbrev wsJx8e1880 : List Cond := u_ws RJx8e188 TJx8e188 0
def RJxb160c : String := "java/lang/Comparable"
def TJxb160c : u_T := fun k => match k with
  | _ => ("", "", "", false)
def tyJxb160c : Nat → FieldType := fun k => match k with
  | _ => .int
abbrev wsJxb160c0 : List Cond := u_ws RJxb160c TJxb160c 0
def RJ6 : String := "java/lang/Integer"
def TJ6 : u_T := fun k => match k with
  | _ => ("", "", "", false)
def tyJ6 : Nat → FieldType := fun k => match k with
  | _ => .int
abbrev wsJ60 : List Cond := u_ws RJ6 TJ6 0
abbrev cJ6_numberOfLeadingZeros_0f7a4 : ByteArray := prog_11_method_47_code
def yJ6_numberOfLeadingZeros_0f7a4 : MethodName := ⟨RJ6, "numberOfLeadingZeros", "(I)I"⟩
def RJ13 : String := "java/lang/Long"
def TJ13 : u_T := fun k => match k with
  | _ => ("", "", "", false)
def tyJ13 : Nat → FieldType := fun k => match k with
  | _ => .int
abbrev wsJ130 : List Cond := u_ws RJ13 TJ13 0
abbrev cJ13_numberOfLeadingZeros_95d88 : ByteArray := prog_12_method_48_code
def yJ13_numberOfLeadingZeros_95d88 : MethodName := ⟨RJ13, "numberOfLeadingZeros", "(J)I"⟩
abbrev cJ13_bitCount_95d88 : ByteArray := prog_12_method_50_code
def yJ13_bitCount_95d88 : MethodName := ⟨RJ13, "bitCount", "(J)I"⟩
def RJ9 : String := "java/lang/Math"
def TJ9 : u_T := fun k => match k with
  | _ => ("", "", "", false)
def tyJ9 : Nat → FieldType := fun k => match k with
  | _ => .int
abbrev wsJ90 : List Cond := u_ws RJ9 TJ9 0
abbrev cJ9_max_7cf53 : ByteArray := prog_13_method_65_code
def yJ9_max_7cf53 : MethodName := ⟨RJ9, "max", "(II)I"⟩
abbrev cJ9_min_7cf53 : ByteArray := prog_13_method_69_code
def yJ9_min_7cf53 : MethodName := ⟨RJ9, "min", "(II)I"⟩
def RJxd2413 : String := "java/lang/Number"
def TJxd2413 : u_T := fun k => match k with
  | _ => ("", "", "", false)
def tyJxd2413 : Nat → FieldType := fun k => match k with
  | _ => .int
abbrev wsJxd24130 : List Cond := u_ws RJxd2413 TJxd2413 0
def RJ0 : String := "java/lang/String"
def TJ0 : u_T := fun k => match k with
  | _ => ("", "", "", false)
def tyJ0 : Nat → FieldType := fun k => match k with
  | _ => .int
abbrev wsJ00 : List Cond := u_ws RJ0 TJ0 0
abbrev cJ0_length_8abf5 : ByteArray := prog_15_method_54_code
def yJ0_length_8abf5 : MethodName := ⟨RJ0, "length", "()I"⟩
abbrev cJ0_charAt_5068e : ByteArray := prog_15_method_56_code
def yJ0_charAt_5068e : MethodName := ⟨RJ0, "charAt", "(I)C"⟩
abbrev cJ0_indexOf_0f7a4 : ByteArray := prog_15_method_79_code
def yJ0_indexOf_0f7a4 : MethodName := ⟨RJ0, "indexOf", "(I)I"⟩
abbrev cJ0_indexOf_7cf53 : ByteArray := prog_15_method_80_code
def yJ0_indexOf_7cf53 : MethodName := ⟨RJ0, "indexOf", "(II)I"⟩
abbrev cJ0_coder_7d493 : ByteArray := prog_15_method_152_code
def yJ0_coder_7d493 : MethodName := ⟨RJ0, "coder", "()B"⟩
abbrev cJ0_isLatin1_aae02 : ByteArray := prog_15_method_154_code
def yJ0_isLatin1_aae02 : MethodName := ⟨RJ0, "isLatin1", "()Z"⟩
abbrev cJ0_checkIndex_df160 : ByteArray := prog_15_method_155_code
def yJ0_checkIndex_df160 : MethodName := ⟨RJ0, "checkIndex", "(II)V"⟩
abbrev cJ0_checkBoundsBeginEnd_23922 : ByteArray := prog_15_method_158_code
def yJ0_checkBoundsBeginEnd_23922 : MethodName := ⟨RJ0, "checkBoundsBeginEnd", "(III)V"⟩
def RJ1 : String := "java/lang/StringLatin1"
def TJ1 : u_T := fun k => match k with
  | _ => ("", "", "", false)
def tyJ1 : Nat → FieldType := fun k => match k with
  | _ => .int
abbrev wsJ10 : List Cond := u_ws RJ1 TJ1 0
abbrev cJ1_charAt_3b067 : ByteArray := prog_16_method_2_code
def yJ1_charAt_3b067 : MethodName := ⟨RJ1, "charAt", "([BI)C"⟩
abbrev cJ1_canEncode_9a6ad : ByteArray := prog_16_method_4_code
def yJ1_canEncode_9a6ad : MethodName := ⟨RJ1, "canEncode", "(I)Z"⟩
abbrev cJ1_indexOf_4cfef : ByteArray := prog_16_method_22_code
def yJ1_indexOf_4cfef : MethodName := ⟨RJ1, "indexOf", "([BIII)I"⟩
abbrev cJ1_indexOfChar_4cfef : ByteArray := prog_16_method_23_code
def yJ1_indexOfChar_4cfef : MethodName := ⟨RJ1, "indexOfChar", "([BIII)I"⟩
def RJ2 : String := "java/lang/StringUTF16"
def TJ2 : u_T := fun k => match k with
  | _ => ("", "", "", false)
def tyJ2 : Nat → FieldType := fun k => match k with
  | _ => .int
abbrev wsJ20 : List Cond := u_ws RJ2 TJ2 0
abbrev cJ2_getChar_3b067 : ByteArray := prog_17_method_5_code
def yJ2_getChar_3b067 : MethodName := ⟨RJ2, "getChar", "([BI)C"⟩
abbrev cJ2_length_9d52b : ByteArray := prog_17_method_6_code
def yJ2_length_9d52b : MethodName := ⟨RJ2, "length", "([B)I"⟩
abbrev cJ2_indexOf_4cfef : ByteArray := prog_17_method_40_code
def yJ2_indexOf_4cfef : MethodName := ⟨RJ2, "indexOf", "([BIII)I"⟩
abbrev cJ2_indexOfChar_4cfef : ByteArray := prog_17_method_47_code
def yJ2_indexOfChar_4cfef : MethodName := ⟨RJ2, "indexOfChar", "([BIII)I"⟩
abbrev cJ2_indexOfCharUnsafe_4cfef : ByteArray := prog_17_method_48_code
def yJ2_indexOfCharUnsafe_4cfef : MethodName := ⟨RJ2, "indexOfCharUnsafe", "([BIII)I"⟩
abbrev cJ2_indexOfSupplementary_4cfef : ByteArray := prog_17_method_49_code
def yJ2_indexOfSupplementary_4cfef : MethodName := ⟨RJ2, "indexOfSupplementary", "([BIII)I"⟩
abbrev cJ2_charAt_3b067 : ByteArray := prog_17_method_83_code
def yJ2_charAt_3b067 : MethodName := ⟨RJ2, "charAt", "([BI)C"⟩
abbrev cJ2_checkIndex_2214a : ByteArray := prog_17_method_91_code
def yJ2_checkIndex_2214a : MethodName := ⟨RJ2, "checkIndex", "(I[B)V"⟩
abbrev cJ2_checkBoundsBeginEnd_d044e : ByteArray := prog_17_method_93_code
def yJ2_checkBoundsBeginEnd_d044e : MethodName := ⟨RJ2, "checkBoundsBeginEnd", "(II[B)V"⟩
def RJ10 : String := "java/lang/System"
def TJ10 : u_T := fun k => match k with
  | _ => ("", "", "", false)
def tyJ10 : Nat → FieldType := fun k => match k with
  | _ => .int
abbrev wsJ100 : List Cond := u_ws RJ10 TJ10 0
def RJxfd54e : String := "java/lang/constant/Constable"
def TJxfd54e : u_T := fun k => match k with
  | _ => ("", "", "", false)
def tyJxfd54e : Nat → FieldType := fun k => match k with
  | _ => .int
abbrev wsJxfd54e0 : List Cond := u_ws RJxfd54e TJxfd54e 0
def RJx3cf43 : String := "java/lang/constant/ConstantDesc"
def TJx3cf43 : u_T := fun k => match k with
  | _ => ("", "", "", false)
def tyJx3cf43 : Nat → FieldType := fun k => match k with
  | _ => .int
abbrev wsJx3cf430 : List Cond := u_ws RJx3cf43 TJx3cf43 0
def RJ7 : String := "java/util/Arrays"
def TJ7 : u_T := fun k => match k with
  | _ => ("", "", "", false)
def tyJ7 : Nat → FieldType := fun k => match k with
  | _ => .int
abbrev wsJ70 : List Cond := u_ws RJ7 TJ7 0
abbrev cJ7_fill_53178 : ByteArray := prog_19_method_103_code
def yJ7_fill_53178 : MethodName := ⟨RJ7, "fill", "([II)V"⟩
abbrev cJ7_copyOf_59c91 : ByteArray := prog_19_method_123_code
def yJ7_copyOf_59c91 : MethodName := ⟨RJ7, "copyOf", "([II)[I"⟩
def RJ3 : String := "jdk/internal/util/Preconditions"
def TJ3 : u_T := fun k => match k with
  | _ => ("", "", "", false)
def tyJ3 : Nat → FieldType := fun k => match k with
  | _ => .int
abbrev wsJ30 : List Cond := u_ws RJ3 TJ3 0
abbrev cJ3_checkIndex_8e157 : ByteArray := prog_20_method_11_code
def yJ3_checkIndex_8e157 : MethodName := ⟨RJ3, "checkIndex", "(IILjava/util/function/BiFunction;)I"⟩
abbrev cJ3_checkFromToIndex_8c36e : ByteArray := prog_20_method_12_code
def yJ3_checkFromToIndex_8c36e : MethodName := ⟨RJ3, "checkFromToIndex", "(IIILjava/util/function/BiFunction;)I"⟩
def RL : String := "MightHaveBeenPutUpLaw"
abbrev cL_law : ByteArray := code
def yL_law : MethodName := ⟨RL, "law", "([I)Z"⟩
abbrev vwCl : List vw_C := [(RX0, TX0, 11), (RX1, TX1, 3), (RX2, TX2, 2), (RX4, TX4, 12), (RX5, TX5, 8), (RX6, TX6, 41)]
end
section
def gT : List Cond := lw_tbl.filter goodWord
theorem tm {w : Cond} (i : Nat) (h : tables_1[i]? = some w) (hg : goodWord w = true) : w ∈ gT := List.mem_filter.mpr ⟨List.mem_append_right _ (List.mem_of_getElem? h), hg⟩
theorem tp {w : Cond} (i : Nat) (h : (k2_sels lw_privs)[i]? = some w) (hg : goodWord w = true) : w ∈ gT := List.mem_filter.mpr ⟨List.mem_append_left _ (List.mem_of_getElem? h), hg⟩
theorem kn_L : Cond.initialized RL ∈ gT := tm 0 (by decide +kernel) (by decide +kernel)
theorem kn_X5 : Cond.initialized RX5 ∈ gT := tm 1 (by decide +kernel) (by decide +kernel)
theorem kn_X4 : Cond.initialized RX4 ∈ gT := tm 2 (by decide +kernel) (by decide +kernel)
theorem kn_X0 : Cond.initialized RX0 ∈ gT := tm 3 (by decide +kernel) (by decide +kernel)
theorem kn_X2 : Cond.initialized RX2 ∈ gT := tm 4 (by decide +kernel) (by decide +kernel)
theorem kn_X1 : Cond.initialized RX1 ∈ gT := tm 5 (by decide +kernel) (by decide +kernel)
theorem kn_X6 : Cond.initialized RX6 ∈ gT := tm 6 (by decide +kernel) (by decide +kernel)
theorem kn_X3 : Cond.initialized RX3 ∈ gT := tm 7 (by decide +kernel) (by decide +kernel)
theorem kn_Jxd2413 : Cond.initialized RJxd2413 ∈ gT := tm 8 (by decide +kernel) (by decide +kernel)
theorem kn_J13 : Cond.initialized RJ13 ∈ gT := tm 9 (by decide +kernel) (by decide +kernel)
theorem kn_J6 : Cond.initialized RJ6 ∈ gT := tm 10 (by decide +kernel) (by decide +kernel)
theorem kn_J9 : Cond.initialized RJ9 ∈ gT := tm 11 (by decide +kernel) (by decide +kernel)
theorem kn_J0 : Cond.initialized RJ0 ∈ gT := tm 12 (by decide +kernel) (by decide +kernel)
theorem kn_J1 : Cond.initialized RJ1 ∈ gT := tm 13 (by decide +kernel) (by decide +kernel)
theorem kn_J3 : Cond.initialized RJ3 ∈ gT := tm 14 (by decide +kernel) (by decide +kernel)
theorem kn_J2 : Cond.initialized RJ2 ∈ gT := tm 15 (by decide +kernel) (by decide +kernel)
theorem kn_J11 : Cond.initialized RJ11 ∈ gT := tm 16 (by decide +kernel) (by decide +kernel)
theorem kn_J7 : Cond.initialized RJ7 ∈ gT := tm 17 (by decide +kernel) (by decide +kernel)
theorem kn_J10 : Cond.initialized RJ10 ∈ gT := tm 18 (by decide +kernel) (by decide +kernel)
theorem kl_L_7 : Cond.classLink RL 7 RX5 ∈ gT := tm 19 (by decide +kernel) (by decide +kernel)
theorem kt_X5 : Cond.instantiable RX5 8 ∈ gT := tm 20 (by decide +kernel) (by decide +kernel)
theorem km_L_9 : Cond.methodLink RL 9 yX5_init ∈ gT := tm 21 (by decide +kernel) (by decide +kernel)
theorem ki_X5_init : Cond.instanceMethod yX5_init ∈ gT := tm 22 (by decide +kernel) (by decide +kernel)
theorem kc_X5_init : Cond.code yX5_init cX5_init 2 none ∈ gT := tm 23 (by decide +kernel) (by decide +kernel)
theorem km_X5_1 : Cond.methodLink RX5 1 ⟨"java/lang/Object", "<init>", "()V"⟩ ∈ gT := tm 24 (by decide +kernel) (by decide +kernel)
theorem kl_X5_9 : Cond.classLink RX5 9 RX2 ∈ gT := tm 27 (by decide +kernel) (by decide +kernel)
theorem kl_X5_15 : Cond.classLink RX5 15 RX4 ∈ gT := tm 29 (by decide +kernel) (by decide +kernel)
theorem kt_X4 : Cond.instantiable RX4 12 ∈ gT := tm 30 (by decide +kernel) (by decide +kernel)
theorem km_X5_17 : Cond.methodLink RX5 17 yX4_init ∈ gT := tm 31 (by decide +kernel) (by decide +kernel)
theorem ki_X4_init : Cond.instanceMethod yX4_init ∈ gT := tm 32 (by decide +kernel) (by decide +kernel)
theorem kc_X4_init : Cond.code yX4_init cX4_init 2 none ∈ gT := tm 33 (by decide +kernel) (by decide +kernel)
theorem km_X4_3 : Cond.methodLink RX4 3 ⟨"java/lang/Object", "<init>", "()V"⟩ ∈ gT := tm 34 (by decide +kernel) (by decide +kernel)
theorem kk_X4_25 : Cond.constantLong RX4 25 (255) ∈ gT := tm 35 (by decide +kernel) (by decide +kernel)
theorem kf_X4_9 : Cond.fieldLink RX4 9 RX4 (TX4 0).2.1 (TX4 0).2.2.1 ∈ gT := tm 36 (by decide +kernel) (by decide +kernel)
theorem kf_X5_81 : Cond.fieldLink RX5 81 RX4 (TX4 0).2.1 (TX4 0).2.2.1 ∈ gT := tm 37 (by decide +kernel) (by decide +kernel)
theorem kf_X4_15 : Cond.fieldLink RX4 15 RX4 (TX4 1).2.1 (TX4 1).2.2.1 ∈ gT := tm 38 (by decide +kernel) (by decide +kernel)
theorem kf_X5_55 : Cond.fieldLink RX5 55 RX4 (TX4 1).2.1 (TX4 1).2.2.1 ∈ gT := tm 39 (by decide +kernel) (by decide +kernel)
theorem kf_X4_18 : Cond.fieldLink RX4 18 RX4 (TX4 2).2.1 (TX4 2).2.2.1 ∈ gT := tm 40 (by decide +kernel) (by decide +kernel)
theorem kf_X5_63 : Cond.fieldLink RX5 63 RX4 (TX4 2).2.1 (TX4 2).2.2.1 ∈ gT := tm 41 (by decide +kernel) (by decide +kernel)
theorem kf_X4_21 : Cond.fieldLink RX4 21 RX4 (TX4 3).2.1 (TX4 3).2.2.1 ∈ gT := tm 42 (by decide +kernel) (by decide +kernel)
theorem kf_X5_84 : Cond.fieldLink RX5 84 RX4 (TX4 3).2.1 (TX4 3).2.2.1 ∈ gT := tm 43 (by decide +kernel) (by decide +kernel)
theorem kf_X4_43 : Cond.fieldLink RX4 43 RX4 (TX4 4).2.1 (TX4 4).2.2.1 ∈ gT := tm 44 (by decide +kernel) (by decide +kernel)
theorem kf_X5_78 : Cond.fieldLink RX5 78 RX4 (TX4 4).2.1 (TX4 4).2.2.1 ∈ gT := tm 45 (by decide +kernel) (by decide +kernel)
theorem kf_X4_47 : Cond.fieldLink RX4 47 RX4 (TX4 5).2.1 (TX4 5).2.2.1 ∈ gT := tm 46 (by decide +kernel) (by decide +kernel)
theorem kf_X5_88 : Cond.fieldLink RX5 88 RX4 (TX4 5).2.1 (TX4 5).2.2.1 ∈ gT := tm 47 (by decide +kernel) (by decide +kernel)
theorem kf_X4_50 : Cond.fieldLink RX4 50 RX4 (TX4 6).2.1 (TX4 6).2.2.1 ∈ gT := tm 48 (by decide +kernel) (by decide +kernel)
theorem kf_X5_170 : Cond.fieldLink RX5 170 RX4 (TX4 6).2.1 (TX4 6).2.2.1 ∈ gT := tm 49 (by decide +kernel) (by decide +kernel)
theorem kf_X4_53 : Cond.fieldLink RX4 53 RX4 (TX4 7).2.1 (TX4 7).2.2.1 ∈ gT := tm 50 (by decide +kernel) (by decide +kernel)
theorem kf_X5_128 : Cond.fieldLink RX5 128 RX4 (TX4 7).2.1 (TX4 7).2.2.1 ∈ gT := tm 51 (by decide +kernel) (by decide +kernel)
theorem kf_X4_27 : Cond.fieldLink RX4 27 RX4 (TX4 8).2.1 (TX4 8).2.2.1 ∈ gT := tm 52 (by decide +kernel) (by decide +kernel)
theorem kf_X5_103 : Cond.fieldLink RX5 103 RX4 (TX4 8).2.1 (TX4 8).2.2.1 ∈ gT := tm 53 (by decide +kernel) (by decide +kernel)
theorem kf_X4_39 : Cond.fieldLink RX4 39 RX4 (TX4 9).2.1 (TX4 9).2.2.1 ∈ gT := tm 54 (by decide +kernel) (by decide +kernel)
theorem kf_X4_33 : Cond.fieldLink RX4 33 RX4 (TX4 10).2.1 (TX4 10).2.2.1 ∈ gT := tm 55 (by decide +kernel) (by decide +kernel)
theorem kf_X4_36 : Cond.fieldLink RX4 36 RX4 (TX4 11).2.1 (TX4 11).2.2.1 ∈ gT := tm 56 (by decide +kernel) (by decide +kernel)
theorem ka_82 : Cond.arrayClass .int ∈ gT := tm 82 (by decide +kernel) (by decide +kernel)
theorem ka_83 : Cond.arrayClass .long ∈ gT := tm 83 (by decide +kernel) (by decide +kernel)
theorem kl_X5_30 : Cond.classLink RX5 30 RX0 ∈ gT := tm 84 (by decide +kernel) (by decide +kernel)
theorem kt_X0 : Cond.instantiable RX0 11 ∈ gT := tm 85 (by decide +kernel) (by decide +kernel)
theorem ki_X0_init : Cond.instanceMethod yX0_init ∈ gT := tm 87 (by decide +kernel) (by decide +kernel)
theorem kc_X0_init : Cond.code yX0_init cX0_init 1 none ∈ gT := tm 88 (by decide +kernel) (by decide +kernel)
theorem km_X0_3 : Cond.methodLink RX0 3 ⟨"java/lang/Object", "<init>", "()V"⟩ ∈ gT := tm 89 (by decide +kernel) (by decide +kernel)
theorem kf_X0_21 : Cond.fieldLink RX0 21 RX0 (TX0 0).2.1 (TX0 0).2.2.1 ∈ gT := tm 90 (by decide +kernel) (by decide +kernel)
theorem kf_X5_227 : Cond.fieldLink RX5 227 RX0 (TX0 0).2.1 (TX0 0).2.2.1 ∈ gT := tm 91 (by decide +kernel) (by decide +kernel)
theorem kf_X0_9 : Cond.fieldLink RX0 9 RX0 (TX0 1).2.1 (TX0 1).2.2.1 ∈ gT := tm 92 (by decide +kernel) (by decide +kernel)
theorem kf_X0_15 : Cond.fieldLink RX0 15 RX0 (TX0 2).2.1 (TX0 2).2.2.1 ∈ gT := tm 93 (by decide +kernel) (by decide +kernel)
theorem kf_X0_18 : Cond.fieldLink RX0 18 RX0 (TX0 3).2.1 (TX0 3).2.2.1 ∈ gT := tm 94 (by decide +kernel) (by decide +kernel)
theorem kf_X0_25 : Cond.fieldLink RX0 25 RX0 (TX0 4).2.1 (TX0 4).2.2.1 ∈ gT := tm 95 (by decide +kernel) (by decide +kernel)
theorem kf_X0_28 : Cond.fieldLink RX0 28 RX0 (TX0 5).2.1 (TX0 5).2.2.1 ∈ gT := tm 96 (by decide +kernel) (by decide +kernel)
theorem kf_X0_61 : Cond.fieldLink RX0 61 RX0 (TX0 6).2.1 (TX0 6).2.2.1 ∈ gT := tm 97 (by decide +kernel) (by decide +kernel)
theorem kf_X0_93 : Cond.fieldLink RX0 93 RX0 (TX0 7).2.1 (TX0 7).2.2.1 ∈ gT := tm 98 (by decide +kernel) (by decide +kernel)
theorem kf_X0_83 : Cond.fieldLink RX0 83 RX0 (TX0 8).2.1 (TX0 8).2.2.1 ∈ gT := tm 99 (by decide +kernel) (by decide +kernel)
theorem kf_X0_31 : Cond.fieldLink RX0 31 RX0 (TX0 9).2.1 (TX0 9).2.2.1 ∈ gT := tm 100 (by decide +kernel) (by decide +kernel)
theorem kf_X0_34 : Cond.fieldLink RX0 34 RX0 (TX0 10).2.1 (TX0 10).2.2.1 ∈ gT := tm 101 (by decide +kernel) (by decide +kernel)
theorem kl_X5_37 : Cond.classLink RX5 37 RX1 ∈ gT := tm 125 (by decide +kernel) (by decide +kernel)
theorem kt_X2 : Cond.instantiable RX2 2 ∈ gT := tm 127 (by decide +kernel) (by decide +kernel)
theorem km_X5_43 : Cond.methodLink RX5 43 yX2_init ∈ gT := tm 128 (by decide +kernel) (by decide +kernel)
theorem ki_X2_init : Cond.instanceMethod yX2_init ∈ gT := tm 129 (by decide +kernel) (by decide +kernel)
theorem kc_X2_init : Cond.code yX2_init cX2_init 3 none ∈ gT := tm 130 (by decide +kernel) (by decide +kernel)
theorem km_X2_1 : Cond.methodLink RX2 1 ⟨"java/lang/Object", "<init>", "()V"⟩ ∈ gT := tm 131 (by decide +kernel) (by decide +kernel)
theorem kf_X2_7 : Cond.fieldLink RX2 7 RX2 (TX2 0).2.1 (TX2 0).2.2.1 ∈ gT := tm 132 (by decide +kernel) (by decide +kernel)
theorem kf_X2_13 : Cond.fieldLink RX2 13 RX2 (TX2 1).2.1 (TX2 1).2.2.1 ∈ gT := tm 133 (by decide +kernel) (by decide +kernel)
theorem kt_X1 : Cond.instantiable RX1 3 ∈ gT := tm 139 (by decide +kernel) (by decide +kernel)
theorem ki_X1_init : Cond.instanceMethod yX1_init ∈ gT := tm 141 (by decide +kernel) (by decide +kernel)
theorem kc_X1_init : Cond.code yX1_init cX1_init 1 none ∈ gT := tm 142 (by decide +kernel) (by decide +kernel)
theorem km_X1_3 : Cond.methodLink RX1 3 ⟨"java/lang/Object", "<init>", "()V"⟩ ∈ gT := tm 143 (by decide +kernel) (by decide +kernel)
theorem kf_X1_9 : Cond.fieldLink RX1 9 RX1 (TX1 0).2.1 (TX1 0).2.2.1 ∈ gT := tm 144 (by decide +kernel) (by decide +kernel)
theorem kf_X5_234 : Cond.fieldLink RX5 234 RX1 (TX1 0).2.1 (TX1 0).2.2.1 ∈ gT := tm 145 (by decide +kernel) (by decide +kernel)
theorem kf_X1_15 : Cond.fieldLink RX1 15 RX1 (TX1 1).2.1 (TX1 1).2.2.1 ∈ gT := tm 146 (by decide +kernel) (by decide +kernel)
theorem kf_X5_228 : Cond.fieldLink RX5 228 RX1 (TX1 1).2.1 (TX1 1).2.2.1 ∈ gT := tm 147 (by decide +kernel) (by decide +kernel)
theorem kf_X1_19 : Cond.fieldLink RX1 19 RX1 (TX1 2).2.1 (TX1 2).2.2.1 ∈ gT := tm 148 (by decide +kernel) (by decide +kernel)
theorem kf_X5_203 : Cond.fieldLink RX5 203 RX1 (TX1 2).2.1 (TX1 2).2.2.1 ∈ gT := tm 149 (by decide +kernel) (by decide +kernel)
theorem kf_X5_11 : Cond.fieldLink RX5 11 RX5 (TX5 0).2.1 (TX5 0).2.2.1 ∈ gT := tm 157 (by decide +kernel) (by decide +kernel)
theorem kf_X5_20 : Cond.fieldLink RX5 20 RX5 (TX5 1).2.1 (TX5 1).2.2.1 ∈ gT := tm 158 (by decide +kernel) (by decide +kernel)
theorem kf_X5_24 : Cond.fieldLink RX5 24 RX5 (TX5 2).2.1 (TX5 2).2.2.1 ∈ gT := tm 159 (by decide +kernel) (by decide +kernel)
theorem kf_X5_27 : Cond.fieldLink RX5 27 RX5 (TX5 3).2.1 (TX5 3).2.2.1 ∈ gT := tm 160 (by decide +kernel) (by decide +kernel)
theorem kf_X5_33 : Cond.fieldLink RX5 33 RX5 (TX5 4).2.1 (TX5 4).2.2.1 ∈ gT := tm 161 (by decide +kernel) (by decide +kernel)
theorem kf_X5_39 : Cond.fieldLink RX5 39 RX5 (TX5 5).2.1 (TX5 5).2.2.1 ∈ gT := tm 162 (by decide +kernel) (by decide +kernel)
theorem kf_X5_46 : Cond.fieldLink RX5 46 RX5 (TX5 6).2.1 (TX5 6).2.2.1 ∈ gT := tm 163 (by decide +kernel) (by decide +kernel)
theorem kf_X5_223 : Cond.fieldLink RX5 223 RX5 (TX5 7).2.1 (TX5 7).2.2.1 ∈ gT := tm 164 (by decide +kernel) (by decide +kernel)
theorem km_L_13 : Cond.methodLink RL 13 yX5_set ∈ gT := tm 182 (by decide +kernel) (by decide +kernel)
theorem ki_X5_set : Cond.instanceMethod yX5_set ∈ gT := tm 183 (by decide +kernel) (by decide +kernel)
theorem kv_X5_set : Cond.selects RX5 yX5_set yX5_set ∈ gT := tm 184 (by decide +kernel) (by decide +kernel)
theorem kc_X5_set : Cond.code yX5_set cX5_set 4 (some .int) ∈ gT := tm 185 (by decide +kernel) (by decide +kernel)
theorem km_X5_51 : Cond.methodLink RX5 51 yX5_changeYear ∈ gT := tm 186 (by decide +kernel) (by decide +kernel)
theorem ki_X5_changeYear : Cond.instanceMethod yX5_changeYear ∈ gT := tm 188 (by decide +kernel) (by decide +kernel)
theorem kc_X5_changeYear : Cond.code yX5_changeYear cX5_changeYear 3 (some .int) ∈ gT := tm 189 (by decide +kernel) (by decide +kernel)
theorem km_X5_74 : Cond.methodLink RX5 74 yX5_within ∈ gT := tm 190 (by decide +kernel) (by decide +kernel)
theorem ks_X5_within : Cond.static yX5_within ∈ gT := tm 191 (by decide +kernel) (by decide +kernel)
theorem kc_X5_within : Cond.code yX5_within cX5_within 2 (some .boolean) ∈ gT := tm 192 (by decide +kernel) (by decide +kernel)
theorem km_X5_59 : Cond.methodLink RX5 59 yX5_changeOfOne ∈ gT := tm 193 (by decide +kernel) (by decide +kernel)
theorem ki_X5_changeOfOne : Cond.instanceMethod yX5_changeOfOne ∈ gT := tm 195 (by decide +kernel) (by decide +kernel)
theorem kc_X5_changeOfOne : Cond.code yX5_changeOfOne cX5_changeOfOne 6 (some .int) ∈ gT := tm 196 (by decide +kernel) (by decide +kernel)
theorem km_X5_97 : Cond.methodLink RX5 97 yX5_isOne ∈ gT := tm 197 (by decide +kernel) (by decide +kernel)
theorem ki_X5_isOne : Cond.instanceMethod yX5_isOne ∈ gT := tm 199 (by decide +kernel) (by decide +kernel)
theorem kc_X5_isOne : Cond.code yX5_isOne cX5_isOne 2 (some .boolean) ∈ gT := tm 200 (by decide +kernel) (by decide +kernel)
theorem km_X5_66 : Cond.methodLink RX5 66 yX5_changeHouse ∈ gT := tm 201 (by decide +kernel) (by decide +kernel)
theorem ki_X5_changeHouse : Cond.instanceMethod yX5_changeHouse ∈ gT := tm 203 (by decide +kernel) (by decide +kernel)
theorem kc_X5_changeHouse : Cond.code yX5_changeHouse cX5_changeHouse 6 (some .int) ∈ gT := tm 204 (by decide +kernel) (by decide +kernel)
theorem km_X5_91 : Cond.methodLink RX5 91 yX5_isCell ∈ gT := tm 205 (by decide +kernel) (by decide +kernel)
theorem ks_X5_isCell : Cond.static yX5_isCell ∈ gT := tm 206 (by decide +kernel) (by decide +kernel)
theorem kc_X5_isCell : Cond.code yX5_isCell cX5_isCell 1 (some .boolean) ∈ gT := tm 207 (by decide +kernel) (by decide +kernel)
theorem km_X5_154 : Cond.methodLink RX5 154 yX4_allUp ∈ gT := tm 208 (by decide +kernel) (by decide +kernel)
theorem ki_X4_allUp : Cond.instanceMethod yX4_allUp ∈ gT := tm 209 (by decide +kernel) (by decide +kernel)
theorem kv_X4_allUp : Cond.selects RX4 yX4_allUp yX4_allUp ∈ gT := tm 210 (by decide +kernel) (by decide +kernel)
theorem kc_X4_allUp : Cond.code yX4_allUp cX4_allUp 4 (some .long) ∈ gT := tm 211 (by decide +kernel) (by decide +kernel)
theorem km_X5_140 : Cond.methodLink RX5 140 yX3_has ∈ gT := tm 212 (by decide +kernel) (by decide +kernel)
theorem ks_X3_has : Cond.static yX3_has ∈ gT := tm 213 (by decide +kernel) (by decide +kernel)
theorem kc_X3_has : Cond.code yX3_has cX3_has 3 (some .boolean) ∈ gT := tm 214 (by decide +kernel) (by decide +kernel)
theorem kk_X5_252 : Cond.constantLong RX5 252 (-1) ∈ gT := tm 215 (by decide +kernel) (by decide +kernel)
theorem km_X5_254 : Cond.methodLink RX5 254 yX4_dropLoose ∈ gT := tm 216 (by decide +kernel) (by decide +kernel)
theorem ki_X4_dropLoose : Cond.instanceMethod yX4_dropLoose ∈ gT := tm 217 (by decide +kernel) (by decide +kernel)
theorem kv_X4_dropLoose : Cond.selects RX4 yX4_dropLoose yX4_dropLoose ∈ gT := tm 218 (by decide +kernel) (by decide +kernel)
theorem kc_X4_dropLoose : Cond.code yX4_dropLoose cX4_dropLoose 4 none ∈ gT := tm 219 (by decide +kernel) (by decide +kernel)
theorem km_X4_72 : Cond.methodLink RX4 72 yX4_stands ∈ gT := tm 220 (by decide +kernel) (by decide +kernel)
theorem ki_X4_stands : Cond.instanceMethod yX4_stands ∈ gT := tm 221 (by decide +kernel) (by decide +kernel)
theorem kv_X4_stands : Cond.selects RX4 yX4_stands yX4_stands ∈ gT := tm 222 (by decide +kernel) (by decide +kernel)
theorem kc_X4_stands : Cond.code yX4_stands cX4_stands 1 (some .long) ∈ gT := tm 223 (by decide +kernel) (by decide +kernel)
theorem km_X4_56 : Cond.methodLink RX4 56 yX4_allUp ∈ gT := tm 224 (by decide +kernel) (by decide +kernel)
theorem km_X4_75 : Cond.methodLink RX4 75 yX3_held ∈ gT := tm 225 (by decide +kernel) (by decide +kernel)
theorem ks_X3_held : Cond.static yX3_held ∈ gT := tm 226 (by decide +kernel) (by decide +kernel)
theorem kc_X3_held : Cond.code yX3_held cX3_held 9 (some .long) ∈ gT := tm 227 (by decide +kernel) (by decide +kernel)
theorem km_X3_15 : Cond.methodLink RX3 15 yX3_beside ∈ gT := tm 228 (by decide +kernel) (by decide +kernel)
theorem ks_X3_beside : Cond.static yX3_beside ∈ gT := tm 229 (by decide +kernel) (by decide +kernel)
theorem kc_X3_beside : Cond.code yX3_beside cX3_beside 2 (some .long) ∈ gT := tm 230 (by decide +kernel) (by decide +kernel)
theorem kk_X3_11 : Cond.constantLong RX3 11 (9187201950435737471) ∈ gT := tm 231 (by decide +kernel) (by decide +kernel)
theorem kk_X3_13 : Cond.constantLong RX3 13 (-72340172838076674) ∈ gT := tm 232 (by decide +kernel) (by decide +kernel)
theorem km_L_18 : Cond.methodLink RL 18 yX5_regret ∈ gT := tm 233 (by decide +kernel) (by decide +kernel)
theorem ki_X5_regret : Cond.instanceMethod yX5_regret ∈ gT := tm 234 (by decide +kernel) (by decide +kernel)
theorem kv_X5_regret : Cond.selects RX5 yX5_regret yX5_regret ∈ gT := tm 235 (by decide +kernel) (by decide +kernel)
theorem kc_X5_regret : Cond.code yX5_regret cX5_regret 5 (some .int) ∈ gT := tm 236 (by decide +kernel) (by decide +kernel)
theorem km_X5_70 : Cond.methodLink RX5 70 yX5_isKind ∈ gT := tm 237 (by decide +kernel) (by decide +kernel)
theorem ks_X5_isKind : Cond.static yX5_isKind ∈ gT := tm 238 (by decide +kernel) (by decide +kernel)
theorem kc_X5_isKind : Cond.code yX5_isKind cX5_isKind 1 (some .boolean) ∈ gT := tm 239 (by decide +kernel) (by decide +kernel)
theorem km_L_22 : Cond.methodLink RL 22 yX5_told ∈ gT := tm 240 (by decide +kernel) (by decide +kernel)
theorem ki_X5_told : Cond.instanceMethod yX5_told ∈ gT := tm 241 (by decide +kernel) (by decide +kernel)
theorem kv_X5_told : Cond.selects RX5 yX5_told yX5_told ∈ gT := tm 242 (by decide +kernel) (by decide +kernel)
theorem kc_X5_told : Cond.code yX5_told cX5_told 3 (some .int) ∈ gT := tm 243 (by decide +kernel) (by decide +kernel)
theorem km_X5_94 : Cond.methodLink RX5 94 yX4_whose ∈ gT := tm 244 (by decide +kernel) (by decide +kernel)
theorem ki_X4_whose : Cond.instanceMethod yX4_whose ∈ gT := tm 245 (by decide +kernel) (by decide +kernel)
theorem kv_X4_whose : Cond.selects RX4 yX4_whose yX4_whose ∈ gT := tm 246 (by decide +kernel) (by decide +kernel)
theorem kc_X4_whose : Cond.code yX4_whose cX4_whose 3 (some .int) ∈ gT := tm 247 (by decide +kernel) (by decide +kernel)
theorem km_X4_66 : Cond.methodLink RX4 66 yX3_has ∈ gT := tm 248 (by decide +kernel) (by decide +kernel)
theorem km_X5_100 : Cond.methodLink RX5 100 yX5_toldOfOne ∈ gT := tm 249 (by decide +kernel) (by decide +kernel)
theorem ki_X5_toldOfOne : Cond.instanceMethod yX5_toldOfOne ∈ gT := tm 251 (by decide +kernel) (by decide +kernel)
theorem kc_X5_toldOfOne : Cond.code yX5_toldOfOne cX5_toldOfOne 3 (some .int) ∈ gT := tm 252 (by decide +kernel) (by decide +kernel)
theorem km_X5_257 : Cond.methodLink RX5 257 yX4_holds ∈ gT := tm 253 (by decide +kernel) (by decide +kernel)
theorem ki_X4_holds : Cond.instanceMethod yX4_holds ∈ gT := tm 254 (by decide +kernel) (by decide +kernel)
theorem kv_X4_holds : Cond.selects RX4 yX4_holds yX4_holds ∈ gT := tm 255 (by decide +kernel) (by decide +kernel)
theorem kc_X4_holds : Cond.code yX4_holds cX4_holds 5 (some .int) ∈ gT := tm 256 (by decide +kernel) (by decide +kernel)
theorem km_X4_121 : Cond.methodLink RX4 121 yX4_tell ∈ gT := tm 257 (by decide +kernel) (by decide +kernel)
theorem ki_X4_tell : Cond.instanceMethod yX4_tell ∈ gT := tm 259 (by decide +kernel) (by decide +kernel)
theorem kc_X4_tell : Cond.code yX4_tell cX4_tell 6 (some .int) ∈ gT := tm 260 (by decide +kernel) (by decide +kernel)
theorem km_X4_60 : Cond.methodLink RX4 60 yJ13_bitCount_95d88 ∈ gT := tm 261 (by decide +kernel) (by decide +kernel)
theorem ks_J13_bitCount_95d88 : Cond.static yJ13_bitCount_95d88 ∈ gT := tm 262 (by decide +kernel) (by decide +kernel)
theorem kc_J13_bitCount_95d88 : Cond.code yJ13_bitCount_95d88 cJ13_bitCount_95d88 2 (some .int) ∈ gT := tm 263 (by decide +kernel) (by decide +kernel)
theorem kk_J13_314 : Cond.constantLong RJ13 314 (6148914691236517205) ∈ gT := tm 264 (by decide +kernel) (by decide +kernel)
theorem kk_J13_316 : Cond.constantLong RJ13 316 (3689348814741910323) ∈ gT := tm 265 (by decide +kernel) (by decide +kernel)
theorem kk_J13_318 : Cond.constantLong RJ13 318 (1085102592571150095) ∈ gT := tm 266 (by decide +kernel) (by decide +kernel)
theorem km_X4_107 : Cond.methodLink RX4 107 yX4_highestCell ∈ gT := tm 267 (by decide +kernel) (by decide +kernel)
theorem ki_X4_highestCell : Cond.instanceMethod yX4_highestCell ∈ gT := tm 269 (by decide +kernel) (by decide +kernel)
theorem kc_X4_highestCell : Cond.code yX4_highestCell cX4_highestCell 2 (some .int) ∈ gT := tm 270 (by decide +kernel) (by decide +kernel)
theorem km_X4_84 : Cond.methodLink RX4 84 yJ13_numberOfLeadingZeros_95d88 ∈ gT := tm 271 (by decide +kernel) (by decide +kernel)
theorem ks_J13_numberOfLeadingZeros_95d88 : Cond.static yJ13_numberOfLeadingZeros_95d88 ∈ gT := tm 272 (by decide +kernel) (by decide +kernel)
theorem kc_J13_numberOfLeadingZeros_95d88 : Cond.code yJ13_numberOfLeadingZeros_95d88 cJ13_numberOfLeadingZeros_95d88 3 (some .int) ∈ gT := tm 273 (by decide +kernel) (by decide +kernel)
theorem km_J13_308 : Cond.methodLink RJ13 308 yJ6_numberOfLeadingZeros_0f7a4 ∈ gT := tm 274 (by decide +kernel) (by decide +kernel)
theorem ks_J6_numberOfLeadingZeros_0f7a4 : Cond.static yJ6_numberOfLeadingZeros_0f7a4 ∈ gT := tm 275 (by decide +kernel) (by decide +kernel)
theorem kc_J6_numberOfLeadingZeros_0f7a4 : Cond.code yJ6_numberOfLeadingZeros_0f7a4 cJ6_numberOfLeadingZeros_0f7a4 2 (some .int) ∈ gT := tm 276 (by decide +kernel) (by decide +kernel)
theorem kk_J6_264 : Cond.constant RJ6 264 (65536) ∈ gT := tm 277 (by decide +kernel) (by decide +kernel)
theorem km_X4_126 : Cond.methodLink RX4 126 yX2_value ∈ gT := tm 278 (by decide +kernel) (by decide +kernel)
theorem ki_X2_value : Cond.instanceMethod yX2_value ∈ gT := tm 279 (by decide +kernel) (by decide +kernel)
theorem kv_X2_value : Cond.selects RX2 yX2_value yX2_value ∈ gT := tm 280 (by decide +kernel) (by decide +kernel)
theorem kc_X2_value : Cond.code yX2_value cX2_value 9 (some .int) ∈ gT := tm 281 (by decide +kernel) (by decide +kernel)
theorem km_X2_16 : Cond.methodLink RX2 16 yX0_isName ∈ gT := tm 282 (by decide +kernel) (by decide +kernel)
theorem ks_X0_isName : Cond.static yX0_isName ∈ gT := tm 283 (by decide +kernel) (by decide +kernel)
theorem kc_X0_isName : Cond.code yX0_isName cX0_isName 1 (some .boolean) ∈ gT := tm 284 (by decide +kernel) (by decide +kernel)
theorem km_X2_22 : Cond.methodLink RX2 22 yX2_joined ∈ gT := tm 285 (by decide +kernel) (by decide +kernel)
theorem ks_X2_joined : Cond.static yX2_joined ∈ gT := tm 286 (by decide +kernel) (by decide +kernel)
theorem kc_X2_joined : Cond.code yX2_joined cX2_joined 3 (some .int) ∈ gT := tm 287 (by decide +kernel) (by decide +kernel)
theorem km_X4_101 : Cond.methodLink RX4 101 yJ9_min_7cf53 ∈ gT := tm 288 (by decide +kernel) (by decide +kernel)
theorem ks_J9_min_7cf53 : Cond.static yJ9_min_7cf53 ∈ gT := tm 289 (by decide +kernel) (by decide +kernel)
theorem kc_J9_min_7cf53 : Cond.code yJ9_min_7cf53 cJ9_min_7cf53 2 (some .int) ∈ gT := tm 290 (by decide +kernel) (by decide +kernel)
theorem km_X4_94 : Cond.methodLink RX4 94 yJ9_max_7cf53 ∈ gT := tm 291 (by decide +kernel) (by decide +kernel)
theorem ks_J9_max_7cf53 : Cond.static yJ9_max_7cf53 ∈ gT := tm 292 (by decide +kernel) (by decide +kernel)
theorem kc_J9_max_7cf53 : Cond.code yJ9_max_7cf53 cJ9_max_7cf53 2 (some .int) ∈ gT := tm 293 (by decide +kernel) (by decide +kernel)
theorem km_X5_260 : Cond.methodLink RX5 260 yX4_fades ∈ gT := tm 294 (by decide +kernel) (by decide +kernel)
theorem ki_X4_fades : Cond.instanceMethod yX4_fades ∈ gT := tm 295 (by decide +kernel) (by decide +kernel)
theorem kv_X4_fades : Cond.selects RX4 yX4_fades yX4_fades ∈ gT := tm 296 (by decide +kernel) (by decide +kernel)
theorem kc_X4_fades : Cond.code yX4_fades cX4_fades 5 (some .int) ∈ gT := tm 297 (by decide +kernel) (by decide +kernel)
theorem km_X5_263 : Cond.methodLink RX5 263 yX4_costs ∈ gT := tm 298 (by decide +kernel) (by decide +kernel)
theorem ki_X4_costs : Cond.instanceMethod yX4_costs ∈ gT := tm 299 (by decide +kernel) (by decide +kernel)
theorem kv_X4_costs : Cond.selects RX4 yX4_costs yX4_costs ∈ gT := tm 300 (by decide +kernel) (by decide +kernel)
theorem kc_X4_costs : Cond.code yX4_costs cX4_costs 5 (some .int) ∈ gT := tm 301 (by decide +kernel) (by decide +kernel)
theorem km_X5_148 : Cond.methodLink RX5 148 yJ13_bitCount_95d88 ∈ gT := tm 302 (by decide +kernel) (by decide +kernel)
theorem km_L_27 : Cond.methodLink RL 27 yX5_wall ∈ gT := tm 303 (by decide +kernel) (by decide +kernel)
theorem ki_X5_wall : Cond.instanceMethod yX5_wall ∈ gT := tm 304 (by decide +kernel) (by decide +kernel)
theorem kv_X5_wall : Cond.selects RX5 yX5_wall yX5_wall ∈ gT := tm 305 (by decide +kernel) (by decide +kernel)
theorem kc_X5_wall : Cond.code yX5_wall cX5_wall 2 (some .long) ∈ gT := tm 306 (by decide +kernel) (by decide +kernel)
theorem km_X5_107 : Cond.methodLink RX5 107 yX4_stands ∈ gT := tm 307 (by decide +kernel) (by decide +kernel)
theorem kk_X5_111 : Cond.constantLong RX5 111 (-4611686018427387904) ∈ gT := tm 308 (by decide +kernel) (by decide +kernel)
theorem km_L_32 : Cond.methodLink RL 32 yX5_feed ∈ gT := tm 309 (by decide +kernel) (by decide +kernel)
theorem ki_X5_feed : Cond.instanceMethod yX5_feed ∈ gT := tm 310 (by decide +kernel) (by decide +kernel)
theorem kv_X5_feed : Cond.selects RX5 yX5_feed yX5_feed ∈ gT := tm 311 (by decide +kernel) (by decide +kernel)
theorem kc_X5_feed : Cond.code yX5_feed cX5_feed 2 (some .int) ∈ gT := tm 312 (by decide +kernel) (by decide +kernel)
theorem km_X5_113 : Cond.methodLink RX5 113 yX0_hasRoom ∈ gT := tm 313 (by decide +kernel) (by decide +kernel)
theorem ki_X0_hasRoom : Cond.instanceMethod yX0_hasRoom ∈ gT := tm 314 (by decide +kernel) (by decide +kernel)
theorem kv_X0_hasRoom : Cond.selects RX0 yX0_hasRoom yX0_hasRoom ∈ gT := tm 315 (by decide +kernel) (by decide +kernel)
theorem kc_X0_hasRoom : Cond.code yX0_hasRoom cX0_hasRoom 1 (some .boolean) ∈ gT := tm 316 (by decide +kernel) (by decide +kernel)
theorem km_X5_117 : Cond.methodLink RX5 117 yX0_take ∈ gT := tm 317 (by decide +kernel) (by decide +kernel)
theorem ki_X0_take : Cond.instanceMethod yX0_take ∈ gT := tm 318 (by decide +kernel) (by decide +kernel)
theorem kv_X0_take : Cond.selects RX0 yX0_take yX0_take ∈ gT := tm 319 (by decide +kernel) (by decide +kernel)
theorem kc_X0_take : Cond.code yX0_take cX0_take 2 (some .int) ∈ gT := tm 320 (by decide +kernel) (by decide +kernel)
theorem km_L_37 : Cond.methodLink RL 37 yX5_text ∈ gT := tm 321 (by decide +kernel) (by decide +kernel)
theorem ki_X5_text : Cond.instanceMethod yX5_text ∈ gT := tm 322 (by decide +kernel) (by decide +kernel)
theorem kv_X5_text : Cond.selects RX5 yX5_text yX5_text ∈ gT := tm 323 (by decide +kernel) (by decide +kernel)
theorem kc_X5_text : Cond.code yX5_text cX5_text 3 (some .int) ∈ gT := tm 324 (by decide +kernel) (by decide +kernel)
theorem km_X5_120 : Cond.methodLink RX5 120 yX0_read ∈ gT := tm 325 (by decide +kernel) (by decide +kernel)
theorem ki_X0_read : Cond.instanceMethod yX0_read ∈ gT := tm 326 (by decide +kernel) (by decide +kernel)
theorem kv_X0_read : Cond.selects RX0 yX0_read yX0_read ∈ gT := tm 327 (by decide +kernel) (by decide +kernel)
theorem kc_X0_read : Cond.code yX0_read cX0_read 2 (some .int) ∈ gT := tm 328 (by decide +kernel) (by decide +kernel)
theorem km_X0_37 : Cond.methodLink RX0 37 yX0_step ∈ gT := tm 329 (by decide +kernel) (by decide +kernel)
theorem ki_X0_step : Cond.instanceMethod yX0_step ∈ gT := tm 331 (by decide +kernel) (by decide +kernel)
theorem kc_X0_step : Cond.code yX0_step cX0_step 2 none ∈ gT := tm 332 (by decide +kernel) (by decide +kernel)
theorem km_X0_96 : Cond.methodLink RX0 96 yX0_isBlank ∈ gT := tm 333 (by decide +kernel) (by decide +kernel)
theorem ks_X0_isBlank : Cond.static yX0_isBlank ∈ gT := tm 334 (by decide +kernel) (by decide +kernel)
theorem kc_X0_isBlank : Cond.code yX0_isBlank cX0_isBlank 1 (some .boolean) ∈ gT := tm 335 (by decide +kernel) (by decide +kernel)
theorem km_X0_99 : Cond.methodLink RX0 99 yX0_isLetter ∈ gT := tm 336 (by decide +kernel) (by decide +kernel)
theorem ks_X0_isLetter : Cond.static yX0_isLetter ∈ gT := tm 337 (by decide +kernel) (by decide +kernel)
theorem kc_X0_isLetter : Cond.code yX0_isLetter cX0_isLetter 1 (some .boolean) ∈ gT := tm 338 (by decide +kernel) (by decide +kernel)
theorem km_X0_102 : Cond.methodLink RX0 102 yX0_wordToken ∈ gT := tm 339 (by decide +kernel) (by decide +kernel)
theorem ki_X0_wordToken : Cond.instanceMethod yX0_wordToken ∈ gT := tm 341 (by decide +kernel) (by decide +kernel)
theorem kc_X0_wordToken : Cond.code yX0_wordToken cX0_wordToken 2 (some .int) ∈ gT := tm 342 (by decide +kernel) (by decide +kernel)
theorem km_X0_120 : Cond.methodLink RX0 120 yX0_spells ∈ gT := tm 343 (by decide +kernel) (by decide +kernel)
theorem ki_X0_spells : Cond.instanceMethod yX0_spells ∈ gT := tm 345 (by decide +kernel) (by decide +kernel)
theorem kc_X0_spells : Cond.code yX0_spells cX0_spells 6 (some .boolean) ∈ gT := tm 346 (by decide +kernel) (by decide +kernel)
theorem km_X0_126 : Cond.methodLink RX0 126 yJ0_charAt_5068e ∈ gT := tm 348 (by decide +kernel) (by decide +kernel)
theorem ki_J0_charAt_5068e : Cond.instanceMethod yJ0_charAt_5068e ∈ gT := tm 349 (by decide +kernel) (by decide +kernel)
theorem kv_J0_charAt_5068e : Cond.selects RJ0 yJ0_charAt_5068e yJ0_charAt_5068e ∈ gT := tm 350 (by decide +kernel) (by decide +kernel)
theorem kc_J0_charAt_5068e : Cond.code yJ0_charAt_5068e cJ0_charAt_5068e 2 (some .char) ∈ gT := tm 351 (by decide +kernel) (by decide +kernel)
theorem km_J0_492 : Cond.methodLink RJ0 492 yJ0_isLatin1_aae02 ∈ gT := tm 352 (by decide +kernel) (by decide +kernel)
theorem ki_J0_isLatin1_aae02 : Cond.instanceMethod yJ0_isLatin1_aae02 ∈ gT := tm 353 (by decide +kernel) (by decide +kernel)
theorem kv_J0_isLatin1_aae02 : Cond.selects RJ0 yJ0_isLatin1_aae02 yJ0_isLatin1_aae02 ∈ gT := tm 354 (by decide +kernel) (by decide +kernel)
theorem kc_J0_isLatin1_aae02 : Cond.code yJ0_isLatin1_aae02 cJ0_isLatin1_aae02 1 (some .boolean) ∈ gT := tm 355 (by decide +kernel) (by decide +kernel)
theorem kf_J0_38 : Cond.fieldLink RJ0 38 RJ0 "COMPACT_STRINGS" "Z" ∈ gT := tm 356 (by decide +kernel) (by decide +kernel)
theorem km_J0_495 : Cond.methodLink RJ0 495 yJ1_charAt_3b067 ∈ gT := tm 358 (by decide +kernel) (by decide +kernel)
theorem ks_J1_charAt_3b067 : Cond.static yJ1_charAt_3b067 ∈ gT := tm 359 (by decide +kernel) (by decide +kernel)
theorem kc_J1_charAt_3b067 : Cond.code yJ1_charAt_3b067 cJ1_charAt_3b067 2 (some .char) ∈ gT := tm 360 (by decide +kernel) (by decide +kernel)
theorem km_J1_9 : Cond.methodLink RJ1 9 yJ0_checkIndex_df160 ∈ gT := tm 361 (by decide +kernel) (by decide +kernel)
theorem ks_J0_checkIndex_df160 : Cond.static yJ0_checkIndex_df160 ∈ gT := tm 362 (by decide +kernel) (by decide +kernel)
theorem kc_J0_checkIndex_df160 : Cond.code yJ0_checkIndex_df160 cJ0_checkIndex_df160 2 none ∈ gT := tm 363 (by decide +kernel) (by decide +kernel)
theorem kf_J0_1053 : Cond.fieldLink RJ0 1053 RJ3 "SIOOBE_FORMATTER" "Ljava/util/function/BiFunction;" ∈ gT := tm 364 (by decide +kernel) (by decide +kernel)
theorem km_J0_1059 : Cond.methodLink RJ0 1059 yJ3_checkIndex_8e157 ∈ gT := tm 366 (by decide +kernel) (by decide +kernel)
theorem ks_J3_checkIndex_8e157 : Cond.static yJ3_checkIndex_8e157 ∈ gT := tm 367 (by decide +kernel) (by decide +kernel)
theorem kc_J3_checkIndex_8e157 : Cond.code yJ3_checkIndex_8e157 cJ3_checkIndex_8e157 3 (some .int) ∈ gT := tm 368 (by decide +kernel) (by decide +kernel)
theorem km_J0_498 : Cond.methodLink RJ0 498 yJ2_charAt_3b067 ∈ gT := tm 369 (by decide +kernel) (by decide +kernel)
theorem ks_J2_charAt_3b067 : Cond.static yJ2_charAt_3b067 ∈ gT := tm 370 (by decide +kernel) (by decide +kernel)
theorem kc_J2_charAt_3b067 : Cond.code yJ2_charAt_3b067 cJ2_charAt_3b067 2 (some .char) ∈ gT := tm 371 (by decide +kernel) (by decide +kernel)
theorem km_J2_67 : Cond.methodLink RJ2 67 yJ2_checkIndex_2214a ∈ gT := tm 372 (by decide +kernel) (by decide +kernel)
theorem ks_J2_checkIndex_2214a : Cond.static yJ2_checkIndex_2214a ∈ gT := tm 373 (by decide +kernel) (by decide +kernel)
theorem kc_J2_checkIndex_2214a : Cond.code yJ2_checkIndex_2214a cJ2_checkIndex_2214a 2 none ∈ gT := tm 374 (by decide +kernel) (by decide +kernel)
theorem km_J2_48 : Cond.methodLink RJ2 48 yJ2_length_9d52b ∈ gT := tm 375 (by decide +kernel) (by decide +kernel)
theorem ks_J2_length_9d52b : Cond.static yJ2_length_9d52b ∈ gT := tm 376 (by decide +kernel) (by decide +kernel)
theorem kc_J2_length_9d52b : Cond.code yJ2_length_9d52b cJ2_length_9d52b 1 (some .int) ∈ gT := tm 377 (by decide +kernel) (by decide +kernel)
theorem km_J2_414 : Cond.methodLink RJ2 414 yJ0_checkIndex_df160 ∈ gT := tm 378 (by decide +kernel) (by decide +kernel)
theorem km_J2_71 : Cond.methodLink RJ2 71 yJ2_getChar_3b067 ∈ gT := tm 379 (by decide +kernel) (by decide +kernel)
theorem ks_J2_getChar_3b067 : Cond.static yJ2_getChar_3b067 ∈ gT := tm 380 (by decide +kernel) (by decide +kernel)
theorem kc_J2_getChar_3b067 : Cond.code yJ2_getChar_3b067 cJ2_getChar_3b067 2 (some .char) ∈ gT := tm 381 (by decide +kernel) (by decide +kernel)
theorem kf_J2_44 : Cond.fieldLink RJ2 44 RJ2 "$assertionsDisabled" "Z" ∈ gT := tm 382 (by decide +kernel) (by decide +kernel)
theorem kf_J2_59 : Cond.fieldLink RJ2 59 RJ2 "HI_BYTE_SHIFT" "I" ∈ gT := tm 384 (by decide +kernel) (by decide +kernel)
theorem kf_J2_63 : Cond.fieldLink RJ2 63 RJ2 "LO_BYTE_SHIFT" "I" ∈ gT := tm 386 (by decide +kernel) (by decide +kernel)
theorem km_X0_106 : Cond.methodLink RX0 106 yX0_isDigit ∈ gT := tm 388 (by decide +kernel) (by decide +kernel)
theorem ks_X0_isDigit : Cond.static yX0_isDigit ∈ gT := tm 389 (by decide +kernel) (by decide +kernel)
theorem kc_X0_isDigit : Cond.code yX0_isDigit cX0_isDigit 1 (some .boolean) ∈ gT := tm 390 (by decide +kernel) (by decide +kernel)
theorem km_X0_109 : Cond.methodLink RX0 109 yX0_numberToken ∈ gT := tm 391 (by decide +kernel) (by decide +kernel)
theorem ki_X0_numberToken : Cond.instanceMethod yX0_numberToken ∈ gT := tm 393 (by decide +kernel) (by decide +kernel)
theorem kc_X0_numberToken : Cond.code yX0_numberToken cX0_numberToken 3 (some .int) ∈ gT := tm 394 (by decide +kernel) (by decide +kernel)
theorem km_X0_114 : Cond.methodLink RX0 114 yJ0_indexOf_0f7a4 ∈ gT := tm 396 (by decide +kernel) (by decide +kernel)
theorem ki_J0_indexOf_0f7a4 : Cond.instanceMethod yJ0_indexOf_0f7a4 ∈ gT := tm 397 (by decide +kernel) (by decide +kernel)
theorem kv_J0_indexOf_0f7a4 : Cond.selects RJ0 yJ0_indexOf_0f7a4 yJ0_indexOf_0f7a4 ∈ gT := tm 398 (by decide +kernel) (by decide +kernel)
theorem kc_J0_indexOf_0f7a4 : Cond.code yJ0_indexOf_0f7a4 cJ0_indexOf_0f7a4 2 (some .int) ∈ gT := tm 399 (by decide +kernel) (by decide +kernel)
theorem km_J0_633 : Cond.methodLink RJ0 633 yJ0_indexOf_7cf53 ∈ gT := tm 400 (by decide +kernel) (by decide +kernel)
theorem ki_J0_indexOf_7cf53 : Cond.instanceMethod yJ0_indexOf_7cf53 ∈ gT := tm 401 (by decide +kernel) (by decide +kernel)
theorem kv_J0_indexOf_7cf53 : Cond.selects RJ0 yJ0_indexOf_7cf53 yJ0_indexOf_7cf53 ∈ gT := tm 402 (by decide +kernel) (by decide +kernel)
theorem kc_J0_indexOf_7cf53 : Cond.code yJ0_indexOf_7cf53 cJ0_indexOf_7cf53 3 (some .int) ∈ gT := tm 403 (by decide +kernel) (by decide +kernel)
theorem km_J0_505 : Cond.methodLink RJ0 505 yJ0_length_8abf5 ∈ gT := tm 404 (by decide +kernel) (by decide +kernel)
theorem ki_J0_length_8abf5 : Cond.instanceMethod yJ0_length_8abf5 ∈ gT := tm 405 (by decide +kernel) (by decide +kernel)
theorem kv_J0_length_8abf5 : Cond.selects RJ0 yJ0_length_8abf5 yJ0_length_8abf5 ∈ gT := tm 406 (by decide +kernel) (by decide +kernel)
theorem kc_J0_length_8abf5 : Cond.code yJ0_length_8abf5 cJ0_length_8abf5 1 (some .int) ∈ gT := tm 407 (by decide +kernel) (by decide +kernel)
theorem km_J0_335 : Cond.methodLink RJ0 335 yJ0_coder_7d493 ∈ gT := tm 408 (by decide +kernel) (by decide +kernel)
theorem ki_J0_coder_7d493 : Cond.instanceMethod yJ0_coder_7d493 ∈ gT := tm 409 (by decide +kernel) (by decide +kernel)
theorem kv_J0_coder_7d493 : Cond.selects RJ0 yJ0_coder_7d493 yJ0_coder_7d493 ∈ gT := tm 410 (by decide +kernel) (by decide +kernel)
theorem kc_J0_coder_7d493 : Cond.code yJ0_coder_7d493 cJ0_coder_7d493 1 (some .byte) ∈ gT := tm 411 (by decide +kernel) (by decide +kernel)
theorem km_J0_637 : Cond.methodLink RJ0 637 yJ1_indexOf_4cfef ∈ gT := tm 412 (by decide +kernel) (by decide +kernel)
theorem ks_J1_indexOf_4cfef : Cond.static yJ1_indexOf_4cfef ∈ gT := tm 413 (by decide +kernel) (by decide +kernel)
theorem kc_J1_indexOf_4cfef : Cond.code yJ1_indexOf_4cfef cJ1_indexOf_4cfef 4 (some .int) ∈ gT := tm 414 (by decide +kernel) (by decide +kernel)
theorem km_J1_88 : Cond.methodLink RJ1 88 yJ1_canEncode_9a6ad ∈ gT := tm 415 (by decide +kernel) (by decide +kernel)
theorem ks_J1_canEncode_9a6ad : Cond.static yJ1_canEncode_9a6ad ∈ gT := tm 416 (by decide +kernel) (by decide +kernel)
theorem kc_J1_canEncode_9a6ad : Cond.code yJ1_canEncode_9a6ad cJ1_canEncode_9a6ad 1 (some .boolean) ∈ gT := tm 417 (by decide +kernel) (by decide +kernel)
theorem km_J1_92 : Cond.methodLink RJ1 92 yJ9_max_7cf53 ∈ gT := tm 418 (by decide +kernel) (by decide +kernel)
theorem km_J1_38 : Cond.methodLink RJ1 38 yJ9_min_7cf53 ∈ gT := tm 419 (by decide +kernel) (by decide +kernel)
theorem km_J1_95 : Cond.methodLink RJ1 95 yJ1_indexOfChar_4cfef ∈ gT := tm 420 (by decide +kernel) (by decide +kernel)
theorem ks_J1_indexOfChar_4cfef : Cond.static yJ1_indexOfChar_4cfef ∈ gT := tm 421 (by decide +kernel) (by decide +kernel)
theorem kc_J1_indexOfChar_4cfef : Cond.code yJ1_indexOfChar_4cfef cJ1_indexOfChar_4cfef 6 (some .int) ∈ gT := tm 422 (by decide +kernel) (by decide +kernel)
theorem km_J0_640 : Cond.methodLink RJ0 640 yJ2_indexOf_4cfef ∈ gT := tm 423 (by decide +kernel) (by decide +kernel)
theorem ks_J2_indexOf_4cfef : Cond.static yJ2_indexOf_4cfef ∈ gT := tm 424 (by decide +kernel) (by decide +kernel)
theorem kc_J2_indexOf_4cfef : Cond.code yJ2_indexOf_4cfef cJ2_indexOf_4cfef 4 (some .int) ∈ gT := tm 425 (by decide +kernel) (by decide +kernel)
theorem km_J2_224 : Cond.methodLink RJ2 224 yJ9_max_7cf53 ∈ gT := tm 426 (by decide +kernel) (by decide +kernel)
theorem km_J2_183 : Cond.methodLink RJ2 183 yJ9_min_7cf53 ∈ gT := tm 427 (by decide +kernel) (by decide +kernel)
theorem kk_J2_227 : Cond.constant RJ2 227 (65536) ∈ gT := tm 428 (by decide +kernel) (by decide +kernel)
theorem km_J2_228 : Cond.methodLink RJ2 228 yJ2_indexOfChar_4cfef ∈ gT := tm 429 (by decide +kernel) (by decide +kernel)
theorem ks_J2_indexOfChar_4cfef : Cond.static yJ2_indexOfChar_4cfef ∈ gT := tm 430 (by decide +kernel) (by decide +kernel)
theorem kc_J2_indexOfChar_4cfef : Cond.code yJ2_indexOfChar_4cfef cJ2_indexOfChar_4cfef 4 (some .int) ∈ gT := tm 431 (by decide +kernel) (by decide +kernel)
theorem km_J2_96 : Cond.methodLink RJ2 96 yJ2_checkBoundsBeginEnd_d044e ∈ gT := tm 432 (by decide +kernel) (by decide +kernel)
theorem ks_J2_checkBoundsBeginEnd_d044e : Cond.static yJ2_checkBoundsBeginEnd_d044e ∈ gT := tm 433 (by decide +kernel) (by decide +kernel)
theorem kc_J2_checkBoundsBeginEnd_d044e : Cond.code yJ2_checkBoundsBeginEnd_d044e cJ2_checkBoundsBeginEnd_d044e 3 none ∈ gT := tm 434 (by decide +kernel) (by decide +kernel)
theorem km_J2_241 : Cond.methodLink RJ2 241 yJ0_checkBoundsBeginEnd_23922 ∈ gT := tm 435 (by decide +kernel) (by decide +kernel)
theorem ks_J0_checkBoundsBeginEnd_23922 : Cond.static yJ0_checkBoundsBeginEnd_23922 ∈ gT := tm 436 (by decide +kernel) (by decide +kernel)
theorem kc_J0_checkBoundsBeginEnd_23922 : Cond.code yJ0_checkBoundsBeginEnd_23922 cJ0_checkBoundsBeginEnd_23922 3 none ∈ gT := tm 437 (by decide +kernel) (by decide +kernel)
theorem km_J0_1062 : Cond.methodLink RJ0 1062 yJ3_checkFromToIndex_8c36e ∈ gT := tm 438 (by decide +kernel) (by decide +kernel)
theorem ks_J3_checkFromToIndex_8c36e : Cond.static yJ3_checkFromToIndex_8c36e ∈ gT := tm 439 (by decide +kernel) (by decide +kernel)
theorem kc_J3_checkFromToIndex_8c36e : Cond.code yJ3_checkFromToIndex_8c36e cJ3_checkFromToIndex_8c36e 4 (some .int) ∈ gT := tm 440 (by decide +kernel) (by decide +kernel)
theorem km_J2_244 : Cond.methodLink RJ2 244 yJ2_indexOfCharUnsafe_4cfef ∈ gT := tm 441 (by decide +kernel) (by decide +kernel)
theorem ks_J2_indexOfCharUnsafe_4cfef : Cond.static yJ2_indexOfCharUnsafe_4cfef ∈ gT := tm 442 (by decide +kernel) (by decide +kernel)
theorem kc_J2_indexOfCharUnsafe_4cfef : Cond.code yJ2_indexOfCharUnsafe_4cfef cJ2_indexOfCharUnsafe_4cfef 5 (some .int) ∈ gT := tm 443 (by decide +kernel) (by decide +kernel)
theorem km_J2_232 : Cond.methodLink RJ2 232 yJ2_indexOfSupplementary_4cfef ∈ gT := tm 444 (by decide +kernel) (by decide +kernel)
theorem ks_J2_indexOfSupplementary_4cfef : Cond.static yJ2_indexOfSupplementary_4cfef ∈ gT := tm 445 (by decide +kernel) (by decide +kernel)
theorem kc_J2_indexOfSupplementary_4cfef : Cond.code yJ2_indexOfSupplementary_4cfef cJ2_indexOfSupplementary_4cfef 7 (some .int) ∈ gT := tm 446 (by decide +kernel) (by decide +kernel)
theorem km_J2_164 : Cond.methodLink RJ2 164 yJ11_isValidCodePoint_9a6ad ∈ gT := tm 447 (by decide +kernel) (by decide +kernel)
theorem ks_J11_isValidCodePoint_9a6ad : Cond.static yJ11_isValidCodePoint_9a6ad ∈ gT := tm 448 (by decide +kernel) (by decide +kernel)
theorem kc_J11_isValidCodePoint_9a6ad : Cond.code yJ11_isValidCodePoint_9a6ad cJ11_isValidCodePoint_9a6ad 2 (some .boolean) ∈ gT := tm 449 (by decide +kernel) (by decide +kernel)
theorem km_J2_157 : Cond.methodLink RJ2 157 yJ11_highSurrogate_5068e ∈ gT := tm 450 (by decide +kernel) (by decide +kernel)
theorem ks_J11_highSurrogate_5068e : Cond.static yJ11_highSurrogate_5068e ∈ gT := tm 451 (by decide +kernel) (by decide +kernel)
theorem kc_J11_highSurrogate_5068e : Cond.code yJ11_highSurrogate_5068e cJ11_highSurrogate_5068e 1 (some .char) ∈ gT := tm 452 (by decide +kernel) (by decide +kernel)
theorem kk_J11_110 : Cond.constant RJ11 110 (55232) ∈ gT := tm 453 (by decide +kernel) (by decide +kernel)
theorem km_J2_161 : Cond.methodLink RJ2 161 yJ11_lowSurrogate_5068e ∈ gT := tm 454 (by decide +kernel) (by decide +kernel)
theorem ks_J11_lowSurrogate_5068e : Cond.static yJ11_lowSurrogate_5068e ∈ gT := tm 455 (by decide +kernel) (by decide +kernel)
theorem kc_J11_lowSurrogate_5068e : Cond.code yJ11_lowSurrogate_5068e cJ11_lowSurrogate_5068e 1 (some .char) ∈ gT := tm 456 (by decide +kernel) (by decide +kernel)
theorem kk_J11_76 : Cond.constant RJ11 76 (56320) ∈ gT := tm 457 (by decide +kernel) (by decide +kernel)
theorem km_X0_40 : Cond.methodLink RX0 40 yX0_expect ∈ gT := tm 458 (by decide +kernel) (by decide +kernel)
theorem ki_X0_expect : Cond.instanceMethod yX0_expect ∈ gT := tm 460 (by decide +kernel) (by decide +kernel)
theorem kc_X0_expect : Cond.code yX0_expect cX0_expect 2 none ∈ gT := tm 461 (by decide +kernel) (by decide +kernel)
theorem km_X0_90 : Cond.methodLink RX0 90 yX0_refuse ∈ gT := tm 462 (by decide +kernel) (by decide +kernel)
theorem ki_X0_refuse : Cond.instanceMethod yX0_refuse ∈ gT := tm 464 (by decide +kernel) (by decide +kernel)
theorem kc_X0_refuse : Cond.code yX0_refuse cX0_refuse 1 none ∈ gT := tm 465 (by decide +kernel) (by decide +kernel)
theorem km_X0_44 : Cond.methodLink RX0 44 yX0_readEither ∈ gT := tm 466 (by decide +kernel) (by decide +kernel)
theorem ki_X0_readEither : Cond.instanceMethod yX0_readEither ∈ gT := tm 468 (by decide +kernel) (by decide +kernel)
theorem kc_X0_readEither : Cond.code yX0_readEither cX0_readEither 2 none ∈ gT := tm 469 (by decide +kernel) (by decide +kernel)
theorem km_X0_58 : Cond.methodLink RX0 58 yX0_readBoth ∈ gT := tm 470 (by decide +kernel) (by decide +kernel)
theorem ki_X0_readBoth : Cond.instanceMethod yX0_readBoth ∈ gT := tm 472 (by decide +kernel) (by decide +kernel)
theorem kc_X0_readBoth : Cond.code yX0_readBoth cX0_readBoth 2 none ∈ gT := tm 473 (by decide +kernel) (by decide +kernel)
theorem km_X0_67 : Cond.methodLink RX0 67 yX0_readNot ∈ gT := tm 474 (by decide +kernel) (by decide +kernel)
theorem ki_X0_readNot : Cond.instanceMethod yX0_readNot ∈ gT := tm 476 (by decide +kernel) (by decide +kernel)
theorem kc_X0_readNot : Cond.code yX0_readNot cX0_readNot 2 none ∈ gT := tm 477 (by decide +kernel) (by decide +kernel)
theorem km_X0_70 : Cond.methodLink RX0 70 yX0_opens ∈ gT := tm 478 (by decide +kernel) (by decide +kernel)
theorem ki_X0_opens : Cond.instanceMethod yX0_opens ∈ gT := tm 480 (by decide +kernel) (by decide +kernel)
theorem kc_X0_opens : Cond.code yX0_opens cX0_opens 1 (some .boolean) ∈ gT := tm 481 (by decide +kernel) (by decide +kernel)
theorem km_X0_64 : Cond.methodLink RX0 64 yX0_write ∈ gT := tm 482 (by decide +kernel) (by decide +kernel)
theorem ki_X0_write : Cond.instanceMethod yX0_write ∈ gT := tm 484 (by decide +kernel) (by decide +kernel)
theorem kc_X0_write : Cond.code yX0_write cX0_write 2 none ∈ gT := tm 485 (by decide +kernel) (by decide +kernel)
theorem km_X0_74 : Cond.methodLink RX0 74 yX0_readSum ∈ gT := tm 486 (by decide +kernel) (by decide +kernel)
theorem ki_X0_readSum : Cond.instanceMethod yX0_readSum ∈ gT := tm 488 (by decide +kernel) (by decide +kernel)
theorem kc_X0_readSum : Cond.code yX0_readSum cX0_readSum 3 none ∈ gT := tm 489 (by decide +kernel) (by decide +kernel)
theorem km_X0_77 : Cond.methodLink RX0 77 yX0_readTerm ∈ gT := tm 490 (by decide +kernel) (by decide +kernel)
theorem ki_X0_readTerm : Cond.instanceMethod yX0_readTerm ∈ gT := tm 492 (by decide +kernel) (by decide +kernel)
theorem kc_X0_readTerm : Cond.code yX0_readTerm cX0_readTerm 2 none ∈ gT := tm 493 (by decide +kernel) (by decide +kernel)
theorem km_X0_80 : Cond.methodLink RX0 80 yX0_readOne ∈ gT := tm 494 (by decide +kernel) (by decide +kernel)
theorem ki_X0_readOne : Cond.instanceMethod yX0_readOne ∈ gT := tm 496 (by decide +kernel) (by decide +kernel)
theorem kc_X0_readOne : Cond.code yX0_readOne cX0_readOne 1 none ∈ gT := tm 497 (by decide +kernel) (by decide +kernel)
theorem km_X0_86 : Cond.methodLink RX0 86 yX0_isName ∈ gT := tm 498 (by decide +kernel) (by decide +kernel)
theorem km_X5_124 : Cond.methodLink RX5 124 yX0_made ∈ gT := tm 499 (by decide +kernel) (by decide +kernel)
theorem ki_X0_made : Cond.instanceMethod yX0_made ∈ gT := tm 500 (by decide +kernel) (by decide +kernel)
theorem kv_X0_made : Cond.selects RX0 yX0_made yX0_made ∈ gT := tm 501 (by decide +kernel) (by decide +kernel)
theorem kc_X0_made : Cond.code yX0_made cX0_made 1 (some (.object "MightHaveBeenPutUp$Text")) ∈ gT := tm 502 (by decide +kernel) (by decide +kernel)
theorem kl_X0_47 : Cond.classLink RX0 47 RX2 ∈ gT := tm 503 (by decide +kernel) (by decide +kernel)
theorem km_X0_49 : Cond.methodLink RX0 49 yJ7_copyOf_59c91 ∈ gT := tm 504 (by decide +kernel) (by decide +kernel)
theorem ks_J7_copyOf_59c91 : Cond.static yJ7_copyOf_59c91 ∈ gT := tm 505 (by decide +kernel) (by decide +kernel)
theorem kc_J7_copyOf_59c91 : Cond.code yJ7_copyOf_59c91 cJ7_copyOf_59c91 3 (some (.array .int)) ∈ gT := tm 506 (by decide +kernel) (by decide +kernel)
theorem km_J7_316 : Cond.methodLink RJ7 316 ⟨"[I", "clone", "()Ljava/lang/Object;"⟩ ∈ gT := tm 507 (by decide +kernel) (by decide +kernel)
theorem kl_J7_317 : Cond.classLink RJ7 317 "[I" ∈ gT := tm 513 (by decide +kernel) (by decide +kernel)
theorem km_J7_304 : Cond.methodLink RJ7 304 yJ9_min_7cf53 ∈ gT := tm 514 (by decide +kernel) (by decide +kernel)
theorem km_J7_150 : Cond.methodLink RJ7 150 ⟨RJ10, "arraycopy", "(Ljava/lang/Object;ILjava/lang/Object;II)V"⟩ ∈ gT := tm 515 (by decide +kernel) (by decide +kernel)
theorem km_X0_55 : Cond.methodLink RX0 55 yX2_init ∈ gT := tm 518 (by decide +kernel) (by decide +kernel)
theorem ka_519 : Cond.arrayClass .byte ∈ gT := tm 519 (by decide +kernel) (by decide +kernel)
theorem km_L_42 : Cond.methodLink RL 42 yX5_force ∈ gT := tm 520 (by decide +kernel) (by decide +kernel)
theorem ki_X5_force : Cond.instanceMethod yX5_force ∈ gT := tm 521 (by decide +kernel) (by decide +kernel)
theorem kv_X5_force : Cond.selects RX5 yX5_force yX5_force ∈ gT := tm 522 (by decide +kernel) (by decide +kernel)
theorem kc_X5_force : Cond.code yX5_force cX5_force 3 (some .int) ∈ gT := tm 523 (by decide +kernel) (by decide +kernel)
theorem km_L_46 : Cond.methodLink RL 46 yX5_raise ∈ gT := tm 524 (by decide +kernel) (by decide +kernel)
theorem ki_X5_raise : Cond.instanceMethod yX5_raise ∈ gT := tm 525 (by decide +kernel) (by decide +kernel)
theorem kv_X5_raise : Cond.selects RX5 yX5_raise yX5_raise ∈ gT := tm 526 (by decide +kernel) (by decide +kernel)
theorem kc_X5_raise : Cond.code yX5_raise cX5_raise 4 (some .int) ∈ gT := tm 527 (by decide +kernel) (by decide +kernel)
theorem km_X5_131 : Cond.methodLink RX5 131 yX5_isPart ∈ gT := tm 528 (by decide +kernel) (by decide +kernel)
theorem ks_X5_isPart : Cond.static yX5_isPart ∈ gT := tm 529 (by decide +kernel) (by decide +kernel)
theorem kc_X5_isPart : Cond.code yX5_isPart cX5_isPart 1 (some .boolean) ∈ gT := tm 530 (by decide +kernel) (by decide +kernel)
theorem km_X5_134 : Cond.methodLink RX5 134 yX3_places ∈ gT := tm 531 (by decide +kernel) (by decide +kernel)
theorem ks_X3_places : Cond.static yX3_places ∈ gT := tm 532 (by decide +kernel) (by decide +kernel)
theorem kc_X3_places : Cond.code yX3_places cX3_places 3 (some .long) ∈ gT := tm 533 (by decide +kernel) (by decide +kernel)
theorem kf_X3_23 : Cond.fieldLink RX3 23 RX3 "ON_WALL" "[J" ∈ gT := tm 534 (by decide +kernel) (by decide +kernel)
theorem km_X3_27 : Cond.methodLink RX3 27 yX3_touching ∈ gT := tm 536 (by decide +kernel) (by decide +kernel)
theorem ks_X3_touching : Cond.static yX3_touching ∈ gT := tm 537 (by decide +kernel) (by decide +kernel)
theorem kc_X3_touching : Cond.code yX3_touching cX3_touching 6 (some .long) ∈ gT := tm 538 (by decide +kernel) (by decide +kernel)
theorem kf_X3_19 : Cond.fieldLink RX3 19 RX3 "OFFSETS" "[I" ∈ gT := tm 539 (by decide +kernel) (by decide +kernel)
theorem kk_X3_31 : Cond.constantLong RX3 31 (-1) ∈ gT := tm 541 (by decide +kernel) (by decide +kernel)
theorem km_X5_144 : Cond.methodLink RX5 144 yX3_cellsOf ∈ gT := tm 542 (by decide +kernel) (by decide +kernel)
theorem ks_X3_cellsOf : Cond.static yX3_cellsOf ∈ gT := tm 543 (by decide +kernel) (by decide +kernel)
theorem kc_X3_cellsOf : Cond.code yX3_cellsOf cX3_cellsOf 5 (some .long) ∈ gT := tm 544 (by decide +kernel) (by decide +kernel)
theorem km_L_50 : Cond.methodLink RL 50 yX5_fell ∈ gT := tm 545 (by decide +kernel) (by decide +kernel)
theorem ki_X5_fell : Cond.instanceMethod yX5_fell ∈ gT := tm 546 (by decide +kernel) (by decide +kernel)
theorem kv_X5_fell : Cond.selects RX5 yX5_fell yX5_fell ∈ gT := tm 547 (by decide +kernel) (by decide +kernel)
theorem kc_X5_fell : Cond.code yX5_fell cX5_fell 3 (some .int) ∈ gT := tm 548 (by decide +kernel) (by decide +kernel)
theorem km_X5_157 : Cond.methodLink RX5 157 yX4_countUp ∈ gT := tm 549 (by decide +kernel) (by decide +kernel)
theorem ki_X4_countUp : Cond.instanceMethod yX4_countUp ∈ gT := tm 550 (by decide +kernel) (by decide +kernel)
theorem kv_X4_countUp : Cond.selects RX4 yX4_countUp yX4_countUp ∈ gT := tm 551 (by decide +kernel) (by decide +kernel)
theorem kc_X4_countUp : Cond.code yX4_countUp cX4_countUp 1 (some .int) ∈ gT := tm 552 (by decide +kernel) (by decide +kernel)
theorem km_X5_160 : Cond.methodLink RX5 160 yX4_dropCell ∈ gT := tm 553 (by decide +kernel) (by decide +kernel)
theorem ki_X4_dropCell : Cond.instanceMethod yX4_dropCell ∈ gT := tm 554 (by decide +kernel) (by decide +kernel)
theorem kv_X4_dropCell : Cond.selects RX4 yX4_dropCell yX4_dropCell ∈ gT := tm 555 (by decide +kernel) (by decide +kernel)
theorem kc_X4_dropCell : Cond.code yX4_dropCell cX4_dropCell 3 none ∈ gT := tm 556 (by decide +kernel) (by decide +kernel)
theorem kk_X4_79 : Cond.constantLong RX4 79 (-1) ∈ gT := tm 557 (by decide +kernel) (by decide +kernel)
theorem km_X4_81 : Cond.methodLink RX4 81 yX4_dropLoose ∈ gT := tm 558 (by decide +kernel) (by decide +kernel)
theorem km_L_54 : Cond.methodLink RL 54 yX5_room ∈ gT := tm 559 (by decide +kernel) (by decide +kernel)
theorem ki_X5_room : Cond.instanceMethod yX5_room ∈ gT := tm 560 (by decide +kernel) (by decide +kernel)
theorem kv_X5_room : Cond.selects RX5 yX5_room yX5_room ∈ gT := tm 561 (by decide +kernel) (by decide +kernel)
theorem kc_X5_room : Cond.code yX5_room cX5_room 2 (some .long) ∈ gT := tm 562 (by decide +kernel) (by decide +kernel)
theorem km_L_58 : Cond.methodLink RL 58 yX5_year ∈ gT := tm 563 (by decide +kernel) (by decide +kernel)
theorem ki_X5_year : Cond.instanceMethod yX5_year ∈ gT := tm 564 (by decide +kernel) (by decide +kernel)
theorem kv_X5_year : Cond.selects RX5 yX5_year yX5_year ∈ gT := tm 565 (by decide +kernel) (by decide +kernel)
theorem kc_X5_year : Cond.code yX5_year cX5_year 2 (some .int) ∈ gT := tm 566 (by decide +kernel) (by decide +kernel)
theorem km_X5_164 : Cond.methodLink RX5 164 yX4_passYear ∈ gT := tm 567 (by decide +kernel) (by decide +kernel)
theorem ki_X4_passYear : Cond.instanceMethod yX4_passYear ∈ gT := tm 568 (by decide +kernel) (by decide +kernel)
theorem kv_X4_passYear : Cond.selects RX4 yX4_passYear yX4_passYear ∈ gT := tm 569 (by decide +kernel) (by decide +kernel)
theorem kc_X4_passYear : Cond.code yX4_passYear cX4_passYear 5 none ∈ gT := tm 570 (by decide +kernel) (by decide +kernel)
theorem km_X4_87 : Cond.methodLink RX4 87 yX4_fades ∈ gT := tm 571 (by decide +kernel) (by decide +kernel)
theorem km_X4_91 : Cond.methodLink RX4 91 yX4_costs ∈ gT := tm 572 (by decide +kernel) (by decide +kernel)
theorem kk_X4_100 : Cond.constant RX4 100 (99999) ∈ gT := tm 573 (by decide +kernel) (by decide +kernel)
theorem km_X4_104 : Cond.methodLink RX4 104 yX4_holds ∈ gT := tm 574 (by decide +kernel) (by decide +kernel)
theorem km_X4_110 : Cond.methodLink RX4 110 yX4_dropCell ∈ gT := tm 575 (by decide +kernel) (by decide +kernel)
theorem km_L_62 : Cond.methodLink RL 62 yX5_run ∈ gT := tm 576 (by decide +kernel) (by decide +kernel)
theorem ki_X5_run : Cond.instanceMethod yX5_run ∈ gT := tm 577 (by decide +kernel) (by decide +kernel)
theorem kv_X5_run : Cond.selects RX5 yX5_run yX5_run ∈ gT := tm 578 (by decide +kernel) (by decide +kernel)
theorem kc_X5_run : Cond.code yX5_run cX5_run 4 (some .int) ∈ gT := tm 579 (by decide +kernel) (by decide +kernel)
theorem km_X5_167 : Cond.methodLink RX5 167 yX5_think ∈ gT := tm 580 (by decide +kernel) (by decide +kernel)
theorem ki_X5_think : Cond.instanceMethod yX5_think ∈ gT := tm 582 (by decide +kernel) (by decide +kernel)
theorem kc_X5_think : Cond.code yX5_think cX5_think 3 none ∈ gT := tm 583 (by decide +kernel) (by decide +kernel)
theorem km_X5_186 : Cond.methodLink RX5 186 yX4_become ∈ gT := tm 584 (by decide +kernel) (by decide +kernel)
theorem ki_X4_become : Cond.instanceMethod yX4_become ∈ gT := tm 585 (by decide +kernel) (by decide +kernel)
theorem kv_X4_become : Cond.selects RX4 yX4_become yX4_become ∈ gT := tm 586 (by decide +kernel) (by decide +kernel)
theorem kc_X4_become : Cond.code yX4_become cX4_become 3 none ∈ gT := tm 587 (by decide +kernel) (by decide +kernel)
theorem km_L_66 : Cond.methodLink RL 66 yX5_later ∈ gT := tm 588 (by decide +kernel) (by decide +kernel)
theorem ki_X5_later : Cond.instanceMethod yX5_later ∈ gT := tm 589 (by decide +kernel) (by decide +kernel)
theorem kv_X5_later : Cond.selects RX5 yX5_later yX5_later ∈ gT := tm 590 (by decide +kernel) (by decide +kernel)
theorem kc_X5_later : Cond.code yX5_later cX5_later 2 (some .long) ∈ gT := tm 591 (by decide +kernel) (by decide +kernel)
theorem km_L_70 : Cond.methodLink RL 70 yX5_walk ∈ gT := tm 592 (by decide +kernel) (by decide +kernel)
theorem ki_X5_walk : Cond.instanceMethod yX5_walk ∈ gT := tm 593 (by decide +kernel) (by decide +kernel)
theorem kv_X5_walk : Cond.selects RX5 yX5_walk yX5_walk ∈ gT := tm 594 (by decide +kernel) (by decide +kernel)
theorem kc_X5_walk : Cond.code yX5_walk cX5_walk 8 (some .int) ∈ gT := tm 595 (by decide +kernel) (by decide +kernel)
theorem km_X5_173 : Cond.methodLink RX5 173 yX3_beside ∈ gT := tm 596 (by decide +kernel) (by decide +kernel)
theorem km_L_74 : Cond.methodLink RL 74 yX5_round ∈ gT := tm 597 (by decide +kernel) (by decide +kernel)
theorem ki_X5_round : Cond.instanceMethod yX5_round ∈ gT := tm 598 (by decide +kernel) (by decide +kernel)
theorem kv_X5_round : Cond.selects RX5 yX5_round yX5_round ∈ gT := tm 599 (by decide +kernel) (by decide +kernel)
theorem kc_X5_round : Cond.code yX5_round cX5_round 8 (some .long) ∈ gT := tm 600 (by decide +kernel) (by decide +kernel)
theorem km_L_79 : Cond.methodLink RL 79 yX5_reach ∈ gT := tm 601 (by decide +kernel) (by decide +kernel)
theorem ki_X5_reach : Cond.instanceMethod yX5_reach ∈ gT := tm 602 (by decide +kernel) (by decide +kernel)
theorem kv_X5_reach : Cond.selects RX5 yX5_reach yX5_reach ∈ gT := tm 603 (by decide +kernel) (by decide +kernel)
theorem kc_X5_reach : Cond.code yX5_reach cX5_reach 4 (some .int) ∈ gT := tm 604 (by decide +kernel) (by decide +kernel)
theorem km_X5_177 : Cond.methodLink RX5 177 yX3_reachedByOne ∈ gT := tm 605 (by decide +kernel) (by decide +kernel)
theorem ks_X3_reachedByOne : Cond.static yX3_reachedByOne ∈ gT := tm 606 (by decide +kernel) (by decide +kernel)
theorem kc_X3_reachedByOne : Cond.code yX3_reachedByOne cX3_reachedByOne 5 (some .boolean) ∈ gT := tm 607 (by decide +kernel) (by decide +kernel)
theorem km_X3_33 : Cond.methodLink RX3 33 yX3_places ∈ gT := tm 608 (by decide +kernel) (by decide +kernel)
theorem km_X3_36 : Cond.methodLink RX3 36 yX3_has ∈ gT := tm 609 (by decide +kernel) (by decide +kernel)
theorem km_X5_180 : Cond.methodLink RX5 180 yX3_reachedByTwo ∈ gT := tm 610 (by decide +kernel) (by decide +kernel)
theorem ks_X3_reachedByTwo : Cond.static yX3_reachedByTwo ∈ gT := tm 611 (by decide +kernel) (by decide +kernel)
theorem kc_X3_reachedByTwo : Cond.code yX3_reachedByTwo cX3_reachedByTwo 6 (some .boolean) ∈ gT := tm 612 (by decide +kernel) (by decide +kernel)
theorem km_X3_40 : Cond.methodLink RX3 40 yX3_cellsOf ∈ gT := tm 613 (by decide +kernel) (by decide +kernel)
theorem km_X3_44 : Cond.methodLink RX3 44 yX3_isMadeRoom ∈ gT := tm 614 (by decide +kernel) (by decide +kernel)
theorem ks_X3_isMadeRoom : Cond.static yX3_isMadeRoom ∈ gT := tm 615 (by decide +kernel) (by decide +kernel)
theorem kc_X3_isMadeRoom : Cond.code yX3_isMadeRoom cX3_isMadeRoom 7 (some .boolean) ∈ gT := tm 616 (by decide +kernel) (by decide +kernel)
theorem km_L_83 : Cond.methodLink RL 83 yX5_key ∈ gT := tm 617 (by decide +kernel) (by decide +kernel)
theorem ki_X5_key : Cond.instanceMethod yX5_key ∈ gT := tm 618 (by decide +kernel) (by decide +kernel)
theorem kv_X5_key : Cond.selects RX5 yX5_key yX5_key ∈ gT := tm 619 (by decide +kernel) (by decide +kernel)
theorem kc_X5_key : Cond.code yX5_key cX5_key 8 (some .int) ∈ gT := tm 620 (by decide +kernel) (by decide +kernel)
theorem km_X5_183 : Cond.methodLink RX5 183 yX4_fallWithout ∈ gT := tm 621 (by decide +kernel) (by decide +kernel)
theorem ki_X4_fallWithout : Cond.instanceMethod yX4_fallWithout ∈ gT := tm 622 (by decide +kernel) (by decide +kernel)
theorem kv_X4_fallWithout : Cond.selects RX4 yX4_fallWithout yX4_fallWithout ∈ gT := tm 623 (by decide +kernel) (by decide +kernel)
theorem kc_X4_fallWithout : Cond.code yX4_fallWithout cX4_fallWithout 4 (some .int) ∈ gT := tm 624 (by decide +kernel) (by decide +kernel)
theorem km_L_87 : Cond.methodLink RL 87 yX5_add ∈ gT := tm 625 (by decide +kernel) (by decide +kernel)
theorem ki_X5_add : Cond.instanceMethod yX5_add ∈ gT := tm 626 (by decide +kernel) (by decide +kernel)
theorem kv_X5_add : Cond.selects RX5 yX5_add yX5_add ∈ gT := tm 627 (by decide +kernel) (by decide +kernel)
theorem kc_X5_add : Cond.code yX5_add cX5_add 11 (some .int) ∈ gT := tm 628 (by decide +kernel) (by decide +kernel)
theorem km_X5_190 : Cond.methodLink RX5 190 yX4_countBehind ∈ gT := tm 629 (by decide +kernel) (by decide +kernel)
theorem ki_X4_countBehind : Cond.instanceMethod yX4_countBehind ∈ gT := tm 630 (by decide +kernel) (by decide +kernel)
theorem kv_X4_countBehind : Cond.selects RX4 yX4_countBehind yX4_countBehind ∈ gT := tm 631 (by decide +kernel) (by decide +kernel)
theorem kc_X4_countBehind : Cond.code yX4_countBehind cX4_countBehind 5 (some .int) ∈ gT := tm 632 (by decide +kernel) (by decide +kernel)
theorem km_X4_114 : Cond.methodLink RX4 114 yX4_countUp ∈ gT := tm 633 (by decide +kernel) (by decide +kernel)
theorem km_X4_118 : Cond.methodLink RX4 118 yX4_passYear ∈ gT := tm 634 (by decide +kernel) (by decide +kernel)
theorem km_L_91 : Cond.methodLink RL 91 yX5_share ∈ gT := tm 635 (by decide +kernel) (by decide +kernel)
theorem ki_X5_share : Cond.instanceMethod yX5_share ∈ gT := tm 636 (by decide +kernel) (by decide +kernel)
theorem kv_X5_share : Cond.selects RX5 yX5_share yX5_share ∈ gT := tm 637 (by decide +kernel) (by decide +kernel)
theorem kc_X5_share : Cond.code yX5_share cX5_share 4 (some .long) ∈ gT := tm 638 (by decide +kernel) (by decide +kernel)
theorem km_X5_193 : Cond.methodLink RX5 193 yX5_lowest ∈ gT := tm 639 (by decide +kernel) (by decide +kernel)
theorem ks_X5_lowest : Cond.static yX5_lowest ∈ gT := tm 640 (by decide +kernel) (by decide +kernel)
theorem kc_X5_lowest : Cond.code yX5_lowest cX5_lowest 5 (some .int) ∈ gT := tm 641 (by decide +kernel) (by decide +kernel)
theorem km_L_95 : Cond.methodLink RL 95 yX5_tells ∈ gT := tm 642 (by decide +kernel) (by decide +kernel)
theorem ki_X5_tells : Cond.instanceMethod yX5_tells ∈ gT := tm 643 (by decide +kernel) (by decide +kernel)
theorem kv_X5_tells : Cond.selects RX5 yX5_tells yX5_tells ∈ gT := tm 644 (by decide +kernel) (by decide +kernel)
theorem kc_X5_tells : Cond.code yX5_tells cX5_tells 5 (some .int) ∈ gT := tm 645 (by decide +kernel) (by decide +kernel)
theorem km_X5_197 : Cond.methodLink RX5 197 yX5_isSheet ∈ gT := tm 646 (by decide +kernel) (by decide +kernel)
theorem ks_X5_isSheet : Cond.static yX5_isSheet ∈ gT := tm 647 (by decide +kernel) (by decide +kernel)
theorem kc_X5_isSheet : Cond.code yX5_isSheet cX5_isSheet 1 (some .boolean) ∈ gT := tm 648 (by decide +kernel) (by decide +kernel)
theorem km_X5_200 : Cond.methodLink RX5 200 yX1_isMissing ∈ gT := tm 649 (by decide +kernel) (by decide +kernel)
theorem ki_X1_isMissing : Cond.instanceMethod yX1_isMissing ∈ gT := tm 650 (by decide +kernel) (by decide +kernel)
theorem kv_X1_isMissing : Cond.selects RX1 yX1_isMissing yX1_isMissing ∈ gT := tm 651 (by decide +kernel) (by decide +kernel)
theorem kc_X1_isMissing : Cond.code yX1_isMissing cX1_isMissing 1 (some .boolean) ∈ gT := tm 652 (by decide +kernel) (by decide +kernel)
theorem km_X5_206 : Cond.methodLink RX5 206 yX5_firstOtherwise ∈ gT := tm 653 (by decide +kernel) (by decide +kernel)
theorem ki_X5_firstOtherwise : Cond.instanceMethod yX5_firstOtherwise ∈ gT := tm 655 (by decide +kernel) (by decide +kernel)
theorem kc_X5_firstOtherwise : Cond.code yX5_firstOtherwise cX5_firstOtherwise 4 (some .int) ∈ gT := tm 656 (by decide +kernel) (by decide +kernel)
theorem km_X5_210 : Cond.methodLink RX5 210 yX5_supposedTold ∈ gT := tm 657 (by decide +kernel) (by decide +kernel)
theorem ki_X5_supposedTold : Cond.instanceMethod yX5_supposedTold ∈ gT := tm 659 (by decide +kernel) (by decide +kernel)
theorem kc_X5_supposedTold : Cond.code yX5_supposedTold cX5_supposedTold 8 (some .int) ∈ gT := tm 660 (by decide +kernel) (by decide +kernel)
theorem km_X5_267 : Cond.methodLink RX5 267 yX5_suppositions ∈ gT := tm 661 (by decide +kernel) (by decide +kernel)
theorem ki_X5_suppositions : Cond.instanceMethod yX5_suppositions ∈ gT := tm 663 (by decide +kernel) (by decide +kernel)
theorem kc_X5_suppositions : Cond.code yX5_suppositions cX5_suppositions 2 (some .int) ∈ gT := tm 664 (by decide +kernel) (by decide +kernel)
theorem km_X5_270 : Cond.methodLink RX5 270 yX5_suppose ∈ gT := tm 665 (by decide +kernel) (by decide +kernel)
theorem ki_X5_suppose : Cond.instanceMethod yX5_suppose ∈ gT := tm 667 (by decide +kernel) (by decide +kernel)
theorem kc_X5_suppose : Cond.code yX5_suppose cX5_suppose 4 none ∈ gT := tm 668 (by decide +kernel) (by decide +kernel)
theorem km_L_99 : Cond.methodLink RL 99 yX5_film ∈ gT := tm 669 (by decide +kernel) (by decide +kernel)
theorem ki_X5_film : Cond.instanceMethod yX5_film ∈ gT := tm 670 (by decide +kernel) (by decide +kernel)
theorem kv_X5_film : Cond.selects RX5 yX5_film yX5_film ∈ gT := tm 671 (by decide +kernel) (by decide +kernel)
theorem kc_X5_film : Cond.code yX5_film cX5_film 6 (some .int) ∈ gT := tm 672 (by decide +kernel) (by decide +kernel)
theorem km_X5_214 : Cond.methodLink RX5 214 yX1_become ∈ gT := tm 673 (by decide +kernel) (by decide +kernel)
theorem ki_X1_become : Cond.instanceMethod yX1_become ∈ gT := tm 674 (by decide +kernel) (by decide +kernel)
theorem kv_X1_become : Cond.selects RX1 yX1_become yX1_become ∈ gT := tm 675 (by decide +kernel) (by decide +kernel)
theorem kc_X1_become : Cond.code yX1_become cX1_become 3 none ∈ gT := tm 676 (by decide +kernel) (by decide +kernel)
theorem km_X1_22 : Cond.methodLink RX1 22 yJ7_fill_53178 ∈ gT := tm 677 (by decide +kernel) (by decide +kernel)
theorem ks_J7_fill_53178 : Cond.static yJ7_fill_53178 ∈ gT := tm 678 (by decide +kernel) (by decide +kernel)
theorem kc_J7_fill_53178 : Cond.code yJ7_fill_53178 cJ7_fill_53178 4 none ∈ gT := tm 679 (by decide +kernel) (by decide +kernel)
theorem km_X5_217 : Cond.methodLink RX5 217 yX1_put ∈ gT := tm 680 (by decide +kernel) (by decide +kernel)
theorem ki_X1_put : Cond.instanceMethod yX1_put ∈ gT := tm 681 (by decide +kernel) (by decide +kernel)
theorem kv_X1_put : Cond.selects RX1 yX1_put yX1_put ∈ gT := tm 682 (by decide +kernel) (by decide +kernel)
theorem kc_X1_put : Cond.code yX1_put cX1_put 3 none ∈ gT := tm 683 (by decide +kernel) (by decide +kernel)
theorem km_L_103 : Cond.methodLink RL 103 yX5_drawn ∈ gT := tm 684 (by decide +kernel) (by decide +kernel)
theorem ki_X5_drawn : Cond.instanceMethod yX5_drawn ∈ gT := tm 685 (by decide +kernel) (by decide +kernel)
theorem kv_X5_drawn : Cond.selects RX5 yX5_drawn yX5_drawn ∈ gT := tm 686 (by decide +kernel) (by decide +kernel)
theorem kc_X5_drawn : Cond.code yX5_drawn cX5_drawn 3 (some .int) ∈ gT := tm 687 (by decide +kernel) (by decide +kernel)
theorem km_X5_220 : Cond.methodLink RX5 220 yX5_countDrawn ∈ gT := tm 688 (by decide +kernel) (by decide +kernel)
theorem ki_X5_countDrawn : Cond.instanceMethod yX5_countDrawn ∈ gT := tm 690 (by decide +kernel) (by decide +kernel)
theorem kc_X5_countDrawn : Cond.code yX5_countDrawn cX5_countDrawn 5 (some .int) ∈ gT := tm 691 (by decide +kernel) (by decide +kernel)
theorem kk_X5_266 : Cond.constant RX5 266 (1103515245) ∈ gT := tm 692 (by decide +kernel) (by decide +kernel)
theorem km_L_107 : Cond.methodLink RL 107 yX5_chance ∈ gT := tm 693 (by decide +kernel) (by decide +kernel)
theorem ki_X5_chance : Cond.instanceMethod yX5_chance ∈ gT := tm 694 (by decide +kernel) (by decide +kernel)
theorem kv_X5_chance : Cond.selects RX5 yX5_chance yX5_chance ∈ gT := tm 695 (by decide +kernel) (by decide +kernel)
theorem kc_X5_chance : Cond.code yX5_chance cX5_chance 7 (some .long) ∈ gT := tm 696 (by decide +kernel) (by decide +kernel)
theorem km_L_112 : Cond.methodLink RL 112 yX5_image ∈ gT := tm 697 (by decide +kernel) (by decide +kernel)
theorem ki_X5_image : Cond.instanceMethod yX5_image ∈ gT := tm 698 (by decide +kernel) (by decide +kernel)
theorem kv_X5_image : Cond.selects RX5 yX5_image yX5_image ∈ gT := tm 699 (by decide +kernel) (by decide +kernel)
theorem kc_X5_image : Cond.code yX5_image cX5_image 1 (some .int) ∈ gT := tm 700 (by decide +kernel) (by decide +kernel)
theorem km_L_116 : Cond.methodLink RL 116 yX5_back ∈ gT := tm 701 (by decide +kernel) (by decide +kernel)
theorem ki_X5_back : Cond.instanceMethod yX5_back ∈ gT := tm 702 (by decide +kernel) (by decide +kernel)
theorem kv_X5_back : Cond.selects RX5 yX5_back yX5_back ∈ gT := tm 703 (by decide +kernel) (by decide +kernel)
theorem kc_X5_back : Cond.code yX5_back cX5_back 1 (some .int) ∈ gT := tm 704 (by decide +kernel) (by decide +kernel)
theorem km_L_120 : Cond.methodLink RL 120 yX5_count ∈ gT := tm 705 (by decide +kernel) (by decide +kernel)
theorem ki_X5_count : Cond.instanceMethod yX5_count ∈ gT := tm 706 (by decide +kernel) (by decide +kernel)
theorem kv_X5_count : Cond.selects RX5 yX5_count yX5_count ∈ gT := tm 707 (by decide +kernel) (by decide +kernel)
theorem kc_X5_count : Cond.code yX5_count cX5_count 2 (some .int) ∈ gT := tm 708 (by decide +kernel) (by decide +kernel)
theorem km_L_124 : Cond.methodLink RL 124 yX5_sheet ∈ gT := tm 709 (by decide +kernel) (by decide +kernel)
theorem ki_X5_sheet : Cond.instanceMethod yX5_sheet ∈ gT := tm 710 (by decide +kernel) (by decide +kernel)
theorem kv_X5_sheet : Cond.selects RX5 yX5_sheet yX5_sheet ∈ gT := tm 711 (by decide +kernel) (by decide +kernel)
theorem kc_X5_sheet : Cond.code yX5_sheet cX5_sheet 4 (some .int) ∈ gT := tm 712 (by decide +kernel) (by decide +kernel)
theorem km_L_128 : Cond.methodLink RL 128 yX5_cell ∈ gT := tm 713 (by decide +kernel) (by decide +kernel)
theorem ki_X5_cell : Cond.instanceMethod yX5_cell ∈ gT := tm 714 (by decide +kernel) (by decide +kernel)
theorem kv_X5_cell : Cond.selects RX5 yX5_cell yX5_cell ∈ gT := tm 715 (by decide +kernel) (by decide +kernel)
theorem kc_X5_cell : Cond.code yX5_cell cX5_cell 5 (some .int) ∈ gT := tm 716 (by decide +kernel) (by decide +kernel)
theorem km_L_132 : Cond.methodLink RL 132 yX5_copy ∈ gT := tm 717 (by decide +kernel) (by decide +kernel)
theorem ki_X5_copy : Cond.instanceMethod yX5_copy ∈ gT := tm 718 (by decide +kernel) (by decide +kernel)
theorem kv_X5_copy : Cond.selects RX5 yX5_copy yX5_copy ∈ gT := tm 719 (by decide +kernel) (by decide +kernel)
theorem kc_X5_copy : Cond.code yX5_copy cX5_copy 8 (some .int) ∈ gT := tm 720 (by decide +kernel) (by decide +kernel)
theorem km_X5_231 : Cond.methodLink RX5 231 yX1_hasRange ∈ gT := tm 721 (by decide +kernel) (by decide +kernel)
theorem ki_X1_hasRange : Cond.instanceMethod yX1_hasRange ∈ gT := tm 722 (by decide +kernel) (by decide +kernel)
theorem kv_X1_hasRange : Cond.selects RX1 yX1_hasRange yX1_hasRange ∈ gT := tm 723 (by decide +kernel) (by decide +kernel)
theorem kc_X1_hasRange : Cond.code yX1_hasRange cX1_hasRange 3 (some .boolean) ∈ gT := tm 724 (by decide +kernel) (by decide +kernel)
theorem km_X5_237 : Cond.methodLink RX5 237 ⟨RJ10, "arraycopy", "(Ljava/lang/Object;ILjava/lang/Object;II)V"⟩ ∈ gT := tm 725 (by decide +kernel) (by decide +kernel)
theorem km_L_137 : Cond.methodLink RL 137 yX5_bag ∈ gT := tm 726 (by decide +kernel) (by decide +kernel)
theorem ki_X5_bag : Cond.instanceMethod yX5_bag ∈ gT := tm 727 (by decide +kernel) (by decide +kernel)
theorem kv_X5_bag : Cond.selects RX5 yX5_bag yX5_bag ∈ gT := tm 728 (by decide +kernel) (by decide +kernel)
theorem kc_X5_bag : Cond.code yX5_bag cX5_bag 9 (some .int) ∈ gT := tm 729 (by decide +kernel) (by decide +kernel)
theorem km_X5_243 : Cond.methodLink RX5 243 yX5_regret ∈ gT := tm 730 (by decide +kernel) (by decide +kernel)
theorem km_L_142 : Cond.methodLink RL 142 yX5_taken ∈ gT := tm 731 (by decide +kernel) (by decide +kernel)
theorem ki_X5_taken : Cond.instanceMethod yX5_taken ∈ gT := tm 732 (by decide +kernel) (by decide +kernel)
theorem kv_X5_taken : Cond.selects RX5 yX5_taken yX5_taken ∈ gT := tm 733 (by decide +kernel) (by decide +kernel)
theorem kc_X5_taken : Cond.code yX5_taken cX5_taken 3 (some .int) ∈ gT := tm 734 (by decide +kernel) (by decide +kernel)
theorem km_X5_246 : Cond.methodLink RX5 246 yX5_isUnder ∈ gT := tm 735 (by decide +kernel) (by decide +kernel)
theorem ks_X5_isUnder : Cond.static yX5_isUnder ∈ gT := tm 736 (by decide +kernel) (by decide +kernel)
theorem kc_X5_isUnder : Cond.code yX5_isUnder cX5_isUnder 4 (some .boolean) ∈ gT := tm 737 (by decide +kernel) (by decide +kernel)
theorem kf_X5_249 : Cond.fieldLink RX5 249 RX5 "KIND_ABOVE" "[I" ∈ gT := tm 738 (by decide +kernel) (by decide +kernel)
theorem kl_L_10 : Cond.classLink RL 10 RX6 ∈ gT := tm 740 (by decide +kernel) (by decide +kernel)
theorem kt_X6 : Cond.instantiable RX6 41 ∈ gT := tm 741 (by decide +kernel) (by decide +kernel)
theorem km_L_12 : Cond.methodLink RL 12 yX6_init ∈ gT := tm 742 (by decide +kernel) (by decide +kernel)
theorem ki_X6_init : Cond.instanceMethod yX6_init ∈ gT := tm 743 (by decide +kernel) (by decide +kernel)
theorem kc_X6_init : Cond.code yX6_init cX6_init 1 none ∈ gT := tm 744 (by decide +kernel) (by decide +kernel)
theorem km_X6_7 : Cond.methodLink RX6 7 ⟨"java/lang/Object", "<init>", "()V"⟩ ∈ gT := tm 745 (by decide +kernel) (by decide +kernel)
theorem kk_X6_23 : Cond.constantLong RX6 23 (255) ∈ gT := tm 746 (by decide +kernel) (by decide +kernel)
theorem km_X6_64 : Cond.methodLink RX6 64 yX6_spell ∈ gT := tm 747 (by decide +kernel) (by decide +kernel)
theorem ki_X6_spell : Cond.instanceMethod yX6_spell ∈ gT := tm 749 (by decide +kernel) (by decide +kernel)
theorem kc_X6_spell : Cond.code yX6_spell cX6_spell 10 none ∈ gT := tm 750 (by decide +kernel) (by decide +kernel)
theorem kf_X6_13 : Cond.fieldLink RX6 13 RX6 (TX6 1).2.1 (TX6 1).2.2.1 ∈ gT := tm 751 (by decide +kernel) (by decide +kernel)
theorem kf_X6_17 : Cond.fieldLink RX6 17 RX6 (TX6 2).2.1 (TX6 2).2.2.1 ∈ gT := tm 752 (by decide +kernel) (by decide +kernel)
theorem kf_X6_68 : Cond.fieldLink RX6 68 RX6 (TX6 3).2.1 (TX6 3).2.2.1 ∈ gT := tm 753 (by decide +kernel) (by decide +kernel)
theorem kf_X6_118 : Cond.fieldLink RX6 118 RX6 (TX6 4).2.1 (TX6 4).2.2.1 ∈ gT := tm 754 (by decide +kernel) (by decide +kernel)
theorem kf_X6_20 : Cond.fieldLink RX6 20 RX6 (TX6 5).2.1 (TX6 5).2.2.1 ∈ gT := tm 755 (by decide +kernel) (by decide +kernel)
theorem kf_X6_150 : Cond.fieldLink RX6 150 RX6 (TX6 6).2.1 (TX6 6).2.2.1 ∈ gT := tm 756 (by decide +kernel) (by decide +kernel)
theorem kf_X6_115 : Cond.fieldLink RX6 115 RX6 (TX6 7).2.1 (TX6 7).2.2.1 ∈ gT := tm 757 (by decide +kernel) (by decide +kernel)
theorem kf_X6_358 : Cond.fieldLink RX6 358 RX6 (TX6 8).2.1 (TX6 8).2.2.1 ∈ gT := tm 758 (by decide +kernel) (by decide +kernel)
theorem kf_X6_25 : Cond.fieldLink RX6 25 RX6 (TX6 9).2.1 (TX6 9).2.2.1 ∈ gT := tm 759 (by decide +kernel) (by decide +kernel)
theorem kf_X6_29 : Cond.fieldLink RX6 29 RX6 (TX6 10).2.1 (TX6 10).2.2.1 ∈ gT := tm 760 (by decide +kernel) (by decide +kernel)
theorem kf_X6_32 : Cond.fieldLink RX6 32 RX6 (TX6 11).2.1 (TX6 11).2.2.1 ∈ gT := tm 761 (by decide +kernel) (by decide +kernel)
theorem kf_X6_71 : Cond.fieldLink RX6 71 RX6 (TX6 12).2.1 (TX6 12).2.2.1 ∈ gT := tm 762 (by decide +kernel) (by decide +kernel)
theorem kf_X6_208 : Cond.fieldLink RX6 208 RX6 (TX6 13).2.1 (TX6 13).2.2.1 ∈ gT := tm 763 (by decide +kernel) (by decide +kernel)
theorem kf_X6_211 : Cond.fieldLink RX6 211 RX6 (TX6 14).2.1 (TX6 14).2.2.1 ∈ gT := tm 764 (by decide +kernel) (by decide +kernel)
theorem kf_X6_214 : Cond.fieldLink RX6 214 RX6 (TX6 15).2.1 (TX6 15).2.2.1 ∈ gT := tm 765 (by decide +kernel) (by decide +kernel)
theorem kf_X6_217 : Cond.fieldLink RX6 217 RX6 (TX6 16).2.1 (TX6 16).2.2.1 ∈ gT := tm 766 (by decide +kernel) (by decide +kernel)
theorem kf_X6_220 : Cond.fieldLink RX6 220 RX6 (TX6 17).2.1 (TX6 17).2.2.1 ∈ gT := tm 767 (by decide +kernel) (by decide +kernel)
theorem kf_X6_223 : Cond.fieldLink RX6 223 RX6 (TX6 18).2.1 (TX6 18).2.2.1 ∈ gT := tm 768 (by decide +kernel) (by decide +kernel)
theorem kf_X6_156 : Cond.fieldLink RX6 156 RX6 (TX6 19).2.1 (TX6 19).2.2.1 ∈ gT := tm 769 (by decide +kernel) (by decide +kernel)
theorem kf_X6_153 : Cond.fieldLink RX6 153 RX6 (TX6 20).2.1 (TX6 20).2.2.1 ∈ gT := tm 770 (by decide +kernel) (by decide +kernel)
theorem kf_X6_159 : Cond.fieldLink RX6 159 RX6 (TX6 21).2.1 (TX6 21).2.2.1 ∈ gT := tm 771 (by decide +kernel) (by decide +kernel)
theorem kf_X6_168 : Cond.fieldLink RX6 168 RX6 (TX6 22).2.1 (TX6 22).2.2.1 ∈ gT := tm 772 (by decide +kernel) (by decide +kernel)
theorem kf_X6_165 : Cond.fieldLink RX6 165 RX6 (TX6 23).2.1 (TX6 23).2.2.1 ∈ gT := tm 773 (by decide +kernel) (by decide +kernel)
theorem kf_X6_179 : Cond.fieldLink RX6 179 RX6 (TX6 24).2.1 (TX6 24).2.2.1 ∈ gT := tm 774 (by decide +kernel) (by decide +kernel)
theorem kf_X6_195 : Cond.fieldLink RX6 195 RX6 (TX6 25).2.1 (TX6 25).2.2.1 ∈ gT := tm 775 (by decide +kernel) (by decide +kernel)
theorem kf_X6_184 : Cond.fieldLink RX6 184 RX6 (TX6 26).2.1 (TX6 26).2.2.1 ∈ gT := tm 776 (by decide +kernel) (by decide +kernel)
theorem kf_X6_188 : Cond.fieldLink RX6 188 RX6 (TX6 27).2.1 (TX6 27).2.2.1 ∈ gT := tm 777 (by decide +kernel) (by decide +kernel)
theorem kf_X6_36 : Cond.fieldLink RX6 36 RX6 (TX6 28).2.1 (TX6 28).2.2.1 ∈ gT := tm 778 (by decide +kernel) (by decide +kernel)
theorem kf_X6_39 : Cond.fieldLink RX6 39 RX6 (TX6 29).2.1 (TX6 29).2.2.1 ∈ gT := tm 779 (by decide +kernel) (by decide +kernel)
theorem kf_X6_42 : Cond.fieldLink RX6 42 RX6 (TX6 30).2.1 (TX6 30).2.2.1 ∈ gT := tm 780 (by decide +kernel) (by decide +kernel)
theorem kf_X6_45 : Cond.fieldLink RX6 45 RX6 (TX6 31).2.1 (TX6 31).2.2.1 ∈ gT := tm 781 (by decide +kernel) (by decide +kernel)
theorem kf_X6_48 : Cond.fieldLink RX6 48 RX6 (TX6 32).2.1 (TX6 32).2.2.1 ∈ gT := tm 782 (by decide +kernel) (by decide +kernel)
theorem kf_X6_451 : Cond.fieldLink RX6 451 RX6 (TX6 33).2.1 (TX6 33).2.2.1 ∈ gT := tm 783 (by decide +kernel) (by decide +kernel)
theorem kf_X6_454 : Cond.fieldLink RX6 454 RX6 (TX6 34).2.1 (TX6 34).2.2.1 ∈ gT := tm 784 (by decide +kernel) (by decide +kernel)
theorem kf_X6_457 : Cond.fieldLink RX6 457 RX6 (TX6 35).2.1 (TX6 35).2.2.1 ∈ gT := tm 785 (by decide +kernel) (by decide +kernel)
theorem kf_X6_460 : Cond.fieldLink RX6 460 RX6 (TX6 36).2.1 (TX6 36).2.2.1 ∈ gT := tm 786 (by decide +kernel) (by decide +kernel)
theorem kf_X6_51 : Cond.fieldLink RX6 51 RX6 (TX6 37).2.1 (TX6 37).2.2.1 ∈ gT := tm 787 (by decide +kernel) (by decide +kernel)
theorem kf_X6_55 : Cond.fieldLink RX6 55 RX6 (TX6 38).2.1 (TX6 38).2.2.1 ∈ gT := tm 788 (by decide +kernel) (by decide +kernel)
theorem kf_X6_58 : Cond.fieldLink RX6 58 RX6 (TX6 39).2.1 (TX6 39).2.2.1 ∈ gT := tm 789 (by decide +kernel) (by decide +kernel)
theorem kf_X6_61 : Cond.fieldLink RX6 61 RX6 (TX6 40).2.1 (TX6 40).2.2.1 ∈ gT := tm 790 (by decide +kernel) (by decide +kernel)
theorem ka_874 : Cond.arrayClass .boolean ∈ gT := tm 874 (by decide +kernel) (by decide +kernel)
theorem km_L_17 : Cond.methodLink RL 17 yX6_set ∈ gT := tm 875 (by decide +kernel) (by decide +kernel)
theorem ki_X6_set : Cond.instanceMethod yX6_set ∈ gT := tm 876 (by decide +kernel) (by decide +kernel)
theorem kv_X6_set : Cond.selects RX6 yX6_set yX6_set ∈ gT := tm 877 (by decide +kernel) (by decide +kernel)
theorem kc_X6_set : Cond.code yX6_set cX6_set 5 (some .int) ∈ gT := tm 878 (by decide +kernel) (by decide +kernel)
theorem kk_X6_84 : Cond.constantLong RX6 84 (3) ∈ gT := tm 879 (by decide +kernel) (by decide +kernel)
theorem km_X6_74 : Cond.methodLink RX6 74 yX6_in ∈ gT := tm 880 (by decide +kernel) (by decide +kernel)
theorem ks_X6_in : Cond.static yX6_in ∈ gT := tm 881 (by decide +kernel) (by decide +kernel)
theorem kc_X6_in : Cond.code yX6_in cX6_in 6 (some .boolean) ∈ gT := tm 882 (by decide +kernel) (by decide +kernel)
theorem km_X6_86 : Cond.methodLink RX6 86 yX6_mostOf ∈ gT := tm 883 (by decide +kernel) (by decide +kernel)
theorem ks_X6_mostOf : Cond.static yX6_mostOf ∈ gT := tm 884 (by decide +kernel) (by decide +kernel)
theorem kc_X6_mostOf : Cond.code yX6_mostOf cX6_mostOf 1 (some .int) ∈ gT := tm 885 (by decide +kernel) (by decide +kernel)
theorem km_X6_90 : Cond.methodLink RX6 90 yX6_isOne ∈ gT := tm 886 (by decide +kernel) (by decide +kernel)
theorem ki_X6_isOne : Cond.instanceMethod yX6_isOne ∈ gT := tm 888 (by decide +kernel) (by decide +kernel)
theorem kc_X6_isOne : Cond.code yX6_isOne cX6_isOne 2 (some .boolean) ∈ gT := tm 889 (by decide +kernel) (by decide +kernel)
theorem km_X6_94 : Cond.methodLink RX6 94 yX6_isCell ∈ gT := tm 890 (by decide +kernel) (by decide +kernel)
theorem ks_X6_isCell : Cond.static yX6_isCell ∈ gT := tm 891 (by decide +kernel) (by decide +kernel)
theorem kc_X6_isCell : Cond.code yX6_isCell cX6_isCell 1 (some .boolean) ∈ gT := tm 892 (by decide +kernel) (by decide +kernel)
theorem kk_X6_78 : Cond.constantLong RX6 78 (63) ∈ gT := tm 893 (by decide +kernel) (by decide +kernel)
theorem km_X6_80 : Cond.methodLink RX6 80 yX6_putAll ∈ gT := tm 894 (by decide +kernel) (by decide +kernel)
theorem ki_X6_putAll : Cond.instanceMethod yX6_putAll ∈ gT := tm 896 (by decide +kernel) (by decide +kernel)
theorem kc_X6_putAll : Cond.code yX6_putAll cX6_putAll 4 (some .long) ∈ gT := tm 897 (by decide +kernel) (by decide +kernel)
theorem km_X6_97 : Cond.methodLink RX6 97 yX6_has ∈ gT := tm 898 (by decide +kernel) (by decide +kernel)
theorem ks_X6_has : Cond.static yX6_has ∈ gT := tm 899 (by decide +kernel) (by decide +kernel)
theorem kc_X6_has : Cond.code yX6_has cX6_has 3 (some .boolean) ∈ gT := tm 900 (by decide +kernel) (by decide +kernel)
theorem km_X6_101 : Cond.methodLink RX6 101 yX6_told ∈ gT := tm 901 (by decide +kernel) (by decide +kernel)
theorem ki_X6_told : Cond.instanceMethod yX6_told ∈ gT := tm 902 (by decide +kernel) (by decide +kernel)
theorem kv_X6_told : Cond.selects RX6 yX6_told yX6_told ∈ gT := tm 903 (by decide +kernel) (by decide +kernel)
theorem kc_X6_told : Cond.code yX6_told cX6_told 3 (some .int) ∈ gT := tm 904 (by decide +kernel) (by decide +kernel)
theorem kk_X6_127 : Cond.constantLong RX6 127 (8) ∈ gT := tm 905 (by decide +kernel) (by decide +kernel)
theorem km_X6_129 : Cond.methodLink RX6 129 yX6_holdsOf ∈ gT := tm 906 (by decide +kernel) (by decide +kernel)
theorem ki_X6_holdsOf : Cond.instanceMethod yX6_holdsOf ∈ gT := tm 908 (by decide +kernel) (by decide +kernel)
theorem kc_X6_holdsOf : Cond.code yX6_holdsOf cX6_holdsOf 6 (some .int) ∈ gT := tm 909 (by decide +kernel) (by decide +kernel)
theorem km_X6_365 : Cond.methodLink RX6 365 yX6_says ∈ gT := tm 910 (by decide +kernel) (by decide +kernel)
theorem ki_X6_says : Cond.instanceMethod yX6_says ∈ gT := tm 912 (by decide +kernel) (by decide +kernel)
theorem kc_X6_says : Cond.code yX6_says cX6_says 3 (some .int) ∈ gT := tm 913 (by decide +kernel) (by decide +kernel)
theorem km_X6_138 : Cond.methodLink RX6 138 yX6_bitsOf ∈ gT := tm 914 (by decide +kernel) (by decide +kernel)
theorem ks_X6_bitsOf : Cond.static yX6_bitsOf ∈ gT := tm 915 (by decide +kernel) (by decide +kernel)
theorem kc_X6_bitsOf : Cond.code yX6_bitsOf cX6_bitsOf 5 (some .int) ∈ gT := tm 916 (by decide +kernel) (by decide +kernel)
theorem km_X6_355 : Cond.methodLink RX6 355 yX6_greatest ∈ gT := tm 917 (by decide +kernel) (by decide +kernel)
theorem ks_X6_greatest : Cond.static yX6_greatest ∈ gT := tm 918 (by decide +kernel) (by decide +kernel)
theorem kc_X6_greatest : Cond.code yX6_greatest cX6_greatest 4 (some .int) ∈ gT := tm 919 (by decide +kernel) (by decide +kernel)
theorem km_X6_352 : Cond.methodLink RX6 352 yX6_read ∈ gT := tm 920 (by decide +kernel) (by decide +kernel)
theorem ki_X6_read : Cond.instanceMethod yX6_read ∈ gT := tm 922 (by decide +kernel) (by decide +kernel)
theorem kc_X6_read : Cond.code yX6_read cX6_read 6 (some .int) ∈ gT := tm 923 (by decide +kernel) (by decide +kernel)
theorem km_X6_201 : Cond.methodLink RX6 201 yX6_next ∈ gT := tm 924 (by decide +kernel) (by decide +kernel)
theorem ki_X6_next : Cond.instanceMethod yX6_next ∈ gT := tm 926 (by decide +kernel) (by decide +kernel)
theorem kc_X6_next : Cond.code yX6_next cX6_next 3 none ∈ gT := tm 927 (by decide +kernel) (by decide +kernel)
theorem km_X6_162 : Cond.methodLink RX6 162 yX6_byteAt ∈ gT := tm 928 (by decide +kernel) (by decide +kernel)
theorem ki_X6_byteAt : Cond.instanceMethod yX6_byteAt ∈ gT := tm 930 (by decide +kernel) (by decide +kernel)
theorem kc_X6_byteAt : Cond.code yX6_byteAt cX6_byteAt 2 (some .int) ∈ gT := tm 931 (by decide +kernel) (by decide +kernel)
theorem kk_X6_171 : Cond.constantLong RX6 171 (97) ∈ gT := tm 932 (by decide +kernel) (by decide +kernel)
theorem kk_X6_173 : Cond.constantLong RX6 173 (122) ∈ gT := tm 933 (by decide +kernel) (by decide +kernel)
theorem kk_X6_175 : Cond.constantLong RX6 175 (48) ∈ gT := tm 934 (by decide +kernel) (by decide +kernel)
theorem kk_X6_177 : Cond.constantLong RX6 177 (57) ∈ gT := tm 935 (by decide +kernel) (by decide +kernel)
theorem kk_X6_182 : Cond.constantLong RX6 182 (10) ∈ gT := tm 936 (by decide +kernel) (by decide +kernel)
theorem km_X6_204 : Cond.methodLink RX6 204 yX6_isWord ∈ gT := tm 937 (by decide +kernel) (by decide +kernel)
theorem ki_X6_isWord : Cond.instanceMethod yX6_isWord ∈ gT := tm 939 (by decide +kernel) (by decide +kernel)
theorem kc_X6_isWord : Cond.code yX6_isWord cX6_isWord 9 (some .boolean) ∈ gT := tm 940 (by decide +kernel) (by decide +kernel)
theorem km_X6_191 : Cond.methodLink RX6 191 yX6_isLetter ∈ gT := tm 941 (by decide +kernel) (by decide +kernel)
theorem ki_X6_isLetter : Cond.instanceMethod yX6_isLetter ∈ gT := tm 943 (by decide +kernel) (by decide +kernel)
theorem kc_X6_isLetter : Cond.code yX6_isLetter cX6_isLetter 3 (some .boolean) ∈ gT := tm 944 (by decide +kernel) (by decide +kernel)
theorem km_X6_348 : Cond.methodLink RX6 348 yX6_part ∈ gT := tm 945 (by decide +kernel) (by decide +kernel)
theorem ki_X6_part : Cond.instanceMethod yX6_part ∈ gT := tm 947 (by decide +kernel) (by decide +kernel)
theorem kc_X6_part : Cond.code yX6_part cX6_part 3 (some .int) ∈ gT := tm 948 (by decide +kernel) (by decide +kernel)
theorem km_X6_198 : Cond.methodLink RX6 198 yX6_fail ∈ gT := tm 949 (by decide +kernel) (by decide +kernel)
theorem ki_X6_fail : Cond.instanceMethod yX6_fail ∈ gT := tm 951 (by decide +kernel) (by decide +kernel)
theorem kc_X6_fail : Cond.code yX6_fail cX6_fail 1 none ∈ gT := tm 952 (by decide +kernel) (by decide +kernel)
theorem km_X6_345 : Cond.methodLink RX6 345 yX6_either0 ∈ gT := tm 953 (by decide +kernel) (by decide +kernel)
theorem ki_X6_either0 : Cond.instanceMethod yX6_either0 ∈ gT := tm 955 (by decide +kernel) (by decide +kernel)
theorem kc_X6_either0 : Cond.code yX6_either0 cX6_either0 3 (some .int) ∈ gT := tm 956 (by decide +kernel) (by decide +kernel)
theorem km_X6_342 : Cond.methodLink RX6 342 yX6_both0 ∈ gT := tm 957 (by decide +kernel) (by decide +kernel)
theorem ki_X6_both0 : Cond.instanceMethod yX6_both0 ∈ gT := tm 959 (by decide +kernel) (by decide +kernel)
theorem kc_X6_both0 : Cond.code yX6_both0 cX6_both0 3 (some .int) ∈ gT := tm 960 (by decide +kernel) (by decide +kernel)
theorem km_X6_339 : Cond.methodLink RX6 339 yX6_not0 ∈ gT := tm 961 (by decide +kernel) (by decide +kernel)
theorem ki_X6_not0 : Cond.instanceMethod yX6_not0 ∈ gT := tm 963 (by decide +kernel) (by decide +kernel)
theorem kc_X6_not0 : Cond.code yX6_not0 cX6_not0 4 (some .int) ∈ gT := tm 964 (by decide +kernel) (by decide +kernel)
theorem km_X6_229 : Cond.methodLink RX6 229 yX6_opens ∈ gT := tm 965 (by decide +kernel) (by decide +kernel)
theorem ki_X6_opens : Cond.instanceMethod yX6_opens ∈ gT := tm 967 (by decide +kernel) (by decide +kernel)
theorem kc_X6_opens : Cond.code yX6_opens cX6_opens 1 (some .boolean) ∈ gT := tm 968 (by decide +kernel) (by decide +kernel)
theorem km_X6_321 : Cond.methodLink RX6 321 yX6_not1 ∈ gT := tm 969 (by decide +kernel) (by decide +kernel)
theorem ki_X6_not1 : Cond.instanceMethod yX6_not1 ∈ gT := tm 971 (by decide +kernel) (by decide +kernel)
theorem kc_X6_not1 : Cond.code yX6_not1 cX6_not1 4 (some .int) ∈ gT := tm 972 (by decide +kernel) (by decide +kernel)
theorem km_X6_303 : Cond.methodLink RX6 303 yX6_not2 ∈ gT := tm 973 (by decide +kernel) (by decide +kernel)
theorem ki_X6_not2 : Cond.instanceMethod yX6_not2 ∈ gT := tm 975 (by decide +kernel) (by decide +kernel)
theorem kc_X6_not2 : Cond.code yX6_not2 cX6_not2 4 (some .int) ∈ gT := tm 976 (by decide +kernel) (by decide +kernel)
theorem km_X6_285 : Cond.methodLink RX6 285 yX6_not3 ∈ gT := tm 977 (by decide +kernel) (by decide +kernel)
theorem ki_X6_not3 : Cond.instanceMethod yX6_not3 ∈ gT := tm 979 (by decide +kernel) (by decide +kernel)
theorem kc_X6_not3 : Cond.code yX6_not3 cX6_not3 4 (some .int) ∈ gT := tm 980 (by decide +kernel) (by decide +kernel)
theorem km_X6_267 : Cond.methodLink RX6 267 yX6_not4 ∈ gT := tm 981 (by decide +kernel) (by decide +kernel)
theorem ki_X6_not4 : Cond.instanceMethod yX6_not4 ∈ gT := tm 983 (by decide +kernel) (by decide +kernel)
theorem kc_X6_not4 : Cond.code yX6_not4 cX6_not4 4 (some .int) ∈ gT := tm 984 (by decide +kernel) (by decide +kernel)
theorem km_X6_249 : Cond.methodLink RX6 249 yX6_not5 ∈ gT := tm 985 (by decide +kernel) (by decide +kernel)
theorem ki_X6_not5 : Cond.instanceMethod yX6_not5 ∈ gT := tm 987 (by decide +kernel) (by decide +kernel)
theorem kc_X6_not5 : Cond.code yX6_not5 cX6_not5 4 (some .int) ∈ gT := tm 988 (by decide +kernel) (by decide +kernel)
theorem km_X6_244 : Cond.methodLink RX6 244 yX6_added5 ∈ gT := tm 989 (by decide +kernel) (by decide +kernel)
theorem ki_X6_added5 : Cond.instanceMethod yX6_added5 ∈ gT := tm 991 (by decide +kernel) (by decide +kernel)
theorem kc_X6_added5 : Cond.code yX6_added5 cX6_added5 4 (some .int) ∈ gT := tm 992 (by decide +kernel) (by decide +kernel)
theorem km_X6_239 : Cond.methodLink RX6 239 yX6_term5 ∈ gT := tm 993 (by decide +kernel) (by decide +kernel)
theorem ki_X6_term5 : Cond.instanceMethod yX6_term5 ∈ gT := tm 995 (by decide +kernel) (by decide +kernel)
theorem kc_X6_term5 : Cond.code yX6_term5 cX6_term5 2 (some .int) ∈ gT := tm 996 (by decide +kernel) (by decide +kernel)
theorem km_X6_236 : Cond.methodLink RX6 236 yX6_atom5 ∈ gT := tm 997 (by decide +kernel) (by decide +kernel)
theorem ki_X6_atom5 : Cond.instanceMethod yX6_atom5 ∈ gT := tm 999 (by decide +kernel) (by decide +kernel)
theorem kc_X6_atom5 : Cond.code yX6_atom5 cX6_atom5 2 (some .int) ∈ gT := tm 1000 (by decide +kernel) (by decide +kernel)
theorem km_X6_226 : Cond.methodLink RX6 226 yX6_isSign ∈ gT := tm 1001 (by decide +kernel) (by decide +kernel)
theorem ki_X6_isSign : Cond.instanceMethod yX6_isSign ∈ gT := tm 1003 (by decide +kernel) (by decide +kernel)
theorem kc_X6_isSign : Cond.code yX6_isSign cX6_isSign 2 (some .boolean) ∈ gT := tm 1004 (by decide +kernel) (by decide +kernel)
theorem km_X6_233 : Cond.methodLink RX6 233 yX6_name ∈ gT := tm 1005 (by decide +kernel) (by decide +kernel)
theorem ki_X6_name : Cond.instanceMethod yX6_name ∈ gT := tm 1007 (by decide +kernel) (by decide +kernel)
theorem kc_X6_name : Cond.code yX6_name cX6_name 1 (some .int) ∈ gT := tm 1008 (by decide +kernel) (by decide +kernel)
theorem kk_X6_242 : Cond.constantLong RX6 242 (43) ∈ gT := tm 1009 (by decide +kernel) (by decide +kernel)
theorem kk_X6_247 : Cond.constantLong RX6 247 (60) ∈ gT := tm 1010 (by decide +kernel) (by decide +kernel)
theorem km_X6_264 : Cond.methodLink RX6 264 yX6_added4 ∈ gT := tm 1011 (by decide +kernel) (by decide +kernel)
theorem ki_X6_added4 : Cond.instanceMethod yX6_added4 ∈ gT := tm 1013 (by decide +kernel) (by decide +kernel)
theorem kc_X6_added4 : Cond.code yX6_added4 cX6_added4 4 (some .int) ∈ gT := tm 1014 (by decide +kernel) (by decide +kernel)
theorem km_X6_261 : Cond.methodLink RX6 261 yX6_term4 ∈ gT := tm 1015 (by decide +kernel) (by decide +kernel)
theorem ki_X6_term4 : Cond.instanceMethod yX6_term4 ∈ gT := tm 1017 (by decide +kernel) (by decide +kernel)
theorem kc_X6_term4 : Cond.code yX6_term4 cX6_term4 2 (some .int) ∈ gT := tm 1018 (by decide +kernel) (by decide +kernel)
theorem km_X6_258 : Cond.methodLink RX6 258 yX6_atom4 ∈ gT := tm 1019 (by decide +kernel) (by decide +kernel)
theorem ki_X6_atom4 : Cond.instanceMethod yX6_atom4 ∈ gT := tm 1021 (by decide +kernel) (by decide +kernel)
theorem kc_X6_atom4 : Cond.code yX6_atom4 cX6_atom4 2 (some .int) ∈ gT := tm 1022 (by decide +kernel) (by decide +kernel)
theorem km_X6_255 : Cond.methodLink RX6 255 yX6_either5 ∈ gT := tm 1023 (by decide +kernel) (by decide +kernel)
theorem ki_X6_either5 : Cond.instanceMethod yX6_either5 ∈ gT := tm 1025 (by decide +kernel) (by decide +kernel)
theorem kc_X6_either5 : Cond.code yX6_either5 cX6_either5 3 (some .int) ∈ gT := tm 1026 (by decide +kernel) (by decide +kernel)
theorem km_X6_252 : Cond.methodLink RX6 252 yX6_both5 ∈ gT := tm 1027 (by decide +kernel) (by decide +kernel)
theorem ki_X6_both5 : Cond.instanceMethod yX6_both5 ∈ gT := tm 1029 (by decide +kernel) (by decide +kernel)
theorem kc_X6_both5 : Cond.code yX6_both5 cX6_both5 3 (some .int) ∈ gT := tm 1030 (by decide +kernel) (by decide +kernel)
theorem km_X6_282 : Cond.methodLink RX6 282 yX6_added3 ∈ gT := tm 1031 (by decide +kernel) (by decide +kernel)
theorem ki_X6_added3 : Cond.instanceMethod yX6_added3 ∈ gT := tm 1033 (by decide +kernel) (by decide +kernel)
theorem kc_X6_added3 : Cond.code yX6_added3 cX6_added3 4 (some .int) ∈ gT := tm 1034 (by decide +kernel) (by decide +kernel)
theorem km_X6_279 : Cond.methodLink RX6 279 yX6_term3 ∈ gT := tm 1035 (by decide +kernel) (by decide +kernel)
theorem ki_X6_term3 : Cond.instanceMethod yX6_term3 ∈ gT := tm 1037 (by decide +kernel) (by decide +kernel)
theorem kc_X6_term3 : Cond.code yX6_term3 cX6_term3 2 (some .int) ∈ gT := tm 1038 (by decide +kernel) (by decide +kernel)
theorem km_X6_276 : Cond.methodLink RX6 276 yX6_atom3 ∈ gT := tm 1039 (by decide +kernel) (by decide +kernel)
theorem ki_X6_atom3 : Cond.instanceMethod yX6_atom3 ∈ gT := tm 1041 (by decide +kernel) (by decide +kernel)
theorem kc_X6_atom3 : Cond.code yX6_atom3 cX6_atom3 2 (some .int) ∈ gT := tm 1042 (by decide +kernel) (by decide +kernel)
theorem km_X6_273 : Cond.methodLink RX6 273 yX6_either4 ∈ gT := tm 1043 (by decide +kernel) (by decide +kernel)
theorem ki_X6_either4 : Cond.instanceMethod yX6_either4 ∈ gT := tm 1045 (by decide +kernel) (by decide +kernel)
theorem kc_X6_either4 : Cond.code yX6_either4 cX6_either4 3 (some .int) ∈ gT := tm 1046 (by decide +kernel) (by decide +kernel)
theorem km_X6_270 : Cond.methodLink RX6 270 yX6_both4 ∈ gT := tm 1047 (by decide +kernel) (by decide +kernel)
theorem ki_X6_both4 : Cond.instanceMethod yX6_both4 ∈ gT := tm 1049 (by decide +kernel) (by decide +kernel)
theorem kc_X6_both4 : Cond.code yX6_both4 cX6_both4 3 (some .int) ∈ gT := tm 1050 (by decide +kernel) (by decide +kernel)
theorem km_X6_300 : Cond.methodLink RX6 300 yX6_added2 ∈ gT := tm 1051 (by decide +kernel) (by decide +kernel)
theorem ki_X6_added2 : Cond.instanceMethod yX6_added2 ∈ gT := tm 1053 (by decide +kernel) (by decide +kernel)
theorem kc_X6_added2 : Cond.code yX6_added2 cX6_added2 4 (some .int) ∈ gT := tm 1054 (by decide +kernel) (by decide +kernel)
theorem km_X6_297 : Cond.methodLink RX6 297 yX6_term2 ∈ gT := tm 1055 (by decide +kernel) (by decide +kernel)
theorem ki_X6_term2 : Cond.instanceMethod yX6_term2 ∈ gT := tm 1057 (by decide +kernel) (by decide +kernel)
theorem kc_X6_term2 : Cond.code yX6_term2 cX6_term2 2 (some .int) ∈ gT := tm 1058 (by decide +kernel) (by decide +kernel)
theorem km_X6_294 : Cond.methodLink RX6 294 yX6_atom2 ∈ gT := tm 1059 (by decide +kernel) (by decide +kernel)
theorem ki_X6_atom2 : Cond.instanceMethod yX6_atom2 ∈ gT := tm 1061 (by decide +kernel) (by decide +kernel)
theorem kc_X6_atom2 : Cond.code yX6_atom2 cX6_atom2 2 (some .int) ∈ gT := tm 1062 (by decide +kernel) (by decide +kernel)
theorem km_X6_291 : Cond.methodLink RX6 291 yX6_either3 ∈ gT := tm 1063 (by decide +kernel) (by decide +kernel)
theorem ki_X6_either3 : Cond.instanceMethod yX6_either3 ∈ gT := tm 1065 (by decide +kernel) (by decide +kernel)
theorem kc_X6_either3 : Cond.code yX6_either3 cX6_either3 3 (some .int) ∈ gT := tm 1066 (by decide +kernel) (by decide +kernel)
theorem km_X6_288 : Cond.methodLink RX6 288 yX6_both3 ∈ gT := tm 1067 (by decide +kernel) (by decide +kernel)
theorem ki_X6_both3 : Cond.instanceMethod yX6_both3 ∈ gT := tm 1069 (by decide +kernel) (by decide +kernel)
theorem kc_X6_both3 : Cond.code yX6_both3 cX6_both3 3 (some .int) ∈ gT := tm 1070 (by decide +kernel) (by decide +kernel)
theorem km_X6_318 : Cond.methodLink RX6 318 yX6_added1 ∈ gT := tm 1071 (by decide +kernel) (by decide +kernel)
theorem ki_X6_added1 : Cond.instanceMethod yX6_added1 ∈ gT := tm 1073 (by decide +kernel) (by decide +kernel)
theorem kc_X6_added1 : Cond.code yX6_added1 cX6_added1 4 (some .int) ∈ gT := tm 1074 (by decide +kernel) (by decide +kernel)
theorem km_X6_315 : Cond.methodLink RX6 315 yX6_term1 ∈ gT := tm 1075 (by decide +kernel) (by decide +kernel)
theorem ki_X6_term1 : Cond.instanceMethod yX6_term1 ∈ gT := tm 1077 (by decide +kernel) (by decide +kernel)
theorem kc_X6_term1 : Cond.code yX6_term1 cX6_term1 2 (some .int) ∈ gT := tm 1078 (by decide +kernel) (by decide +kernel)
theorem km_X6_312 : Cond.methodLink RX6 312 yX6_atom1 ∈ gT := tm 1079 (by decide +kernel) (by decide +kernel)
theorem ki_X6_atom1 : Cond.instanceMethod yX6_atom1 ∈ gT := tm 1081 (by decide +kernel) (by decide +kernel)
theorem kc_X6_atom1 : Cond.code yX6_atom1 cX6_atom1 2 (some .int) ∈ gT := tm 1082 (by decide +kernel) (by decide +kernel)
theorem km_X6_309 : Cond.methodLink RX6 309 yX6_either2 ∈ gT := tm 1083 (by decide +kernel) (by decide +kernel)
theorem ki_X6_either2 : Cond.instanceMethod yX6_either2 ∈ gT := tm 1085 (by decide +kernel) (by decide +kernel)
theorem kc_X6_either2 : Cond.code yX6_either2 cX6_either2 3 (some .int) ∈ gT := tm 1086 (by decide +kernel) (by decide +kernel)
theorem km_X6_306 : Cond.methodLink RX6 306 yX6_both2 ∈ gT := tm 1087 (by decide +kernel) (by decide +kernel)
theorem ki_X6_both2 : Cond.instanceMethod yX6_both2 ∈ gT := tm 1089 (by decide +kernel) (by decide +kernel)
theorem kc_X6_both2 : Cond.code yX6_both2 cX6_both2 3 (some .int) ∈ gT := tm 1090 (by decide +kernel) (by decide +kernel)
theorem km_X6_336 : Cond.methodLink RX6 336 yX6_added0 ∈ gT := tm 1091 (by decide +kernel) (by decide +kernel)
theorem ki_X6_added0 : Cond.instanceMethod yX6_added0 ∈ gT := tm 1093 (by decide +kernel) (by decide +kernel)
theorem kc_X6_added0 : Cond.code yX6_added0 cX6_added0 4 (some .int) ∈ gT := tm 1094 (by decide +kernel) (by decide +kernel)
theorem km_X6_333 : Cond.methodLink RX6 333 yX6_term0 ∈ gT := tm 1095 (by decide +kernel) (by decide +kernel)
theorem ki_X6_term0 : Cond.instanceMethod yX6_term0 ∈ gT := tm 1097 (by decide +kernel) (by decide +kernel)
theorem kc_X6_term0 : Cond.code yX6_term0 cX6_term0 2 (some .int) ∈ gT := tm 1098 (by decide +kernel) (by decide +kernel)
theorem km_X6_330 : Cond.methodLink RX6 330 yX6_atom0 ∈ gT := tm 1099 (by decide +kernel) (by decide +kernel)
theorem ki_X6_atom0 : Cond.instanceMethod yX6_atom0 ∈ gT := tm 1101 (by decide +kernel) (by decide +kernel)
theorem kc_X6_atom0 : Cond.code yX6_atom0 cX6_atom0 2 (some .int) ∈ gT := tm 1102 (by decide +kernel) (by decide +kernel)
theorem km_X6_327 : Cond.methodLink RX6 327 yX6_either1 ∈ gT := tm 1103 (by decide +kernel) (by decide +kernel)
theorem ki_X6_either1 : Cond.instanceMethod yX6_either1 ∈ gT := tm 1105 (by decide +kernel) (by decide +kernel)
theorem kc_X6_either1 : Cond.code yX6_either1 cX6_either1 3 (some .int) ∈ gT := tm 1106 (by decide +kernel) (by decide +kernel)
theorem km_X6_324 : Cond.methodLink RX6 324 yX6_both1 ∈ gT := tm 1107 (by decide +kernel) (by decide +kernel)
theorem ki_X6_both1 : Cond.instanceMethod yX6_both1 ∈ gT := tm 1109 (by decide +kernel) (by decide +kernel)
theorem kc_X6_both1 : Cond.code yX6_both1 cX6_both1 3 (some .int) ∈ gT := tm 1110 (by decide +kernel) (by decide +kernel)
theorem km_X6_361 : Cond.methodLink RX6 361 yX6_within ∈ gT := tm 1111 (by decide +kernel) (by decide +kernel)
theorem ks_X6_within : Cond.static yX6_within ∈ gT := tm 1112 (by decide +kernel) (by decide +kernel)
theorem kc_X6_within : Cond.code yX6_within cX6_within 3 (some .int) ∈ gT := tm 1113 (by decide +kernel) (by decide +kernel)
theorem km_X6_132 : Cond.methodLink RX6 132 yX6_fadesOf ∈ gT := tm 1114 (by decide +kernel) (by decide +kernel)
theorem ki_X6_fadesOf : Cond.instanceMethod yX6_fadesOf ∈ gT := tm 1116 (by decide +kernel) (by decide +kernel)
theorem kc_X6_fadesOf : Cond.code yX6_fadesOf cX6_fadesOf 5 (some .int) ∈ gT := tm 1117 (by decide +kernel) (by decide +kernel)
theorem km_X6_135 : Cond.methodLink RX6 135 yX6_costsOf ∈ gT := tm 1118 (by decide +kernel) (by decide +kernel)
theorem ki_X6_costsOf : Cond.instanceMethod yX6_costsOf ∈ gT := tm 1120 (by decide +kernel) (by decide +kernel)
theorem kc_X6_costsOf : Cond.code yX6_costsOf cX6_costsOf 5 (some .int) ∈ gT := tm 1121 (by decide +kernel) (by decide +kernel)
theorem km_X6_142 : Cond.methodLink RX6 142 yX6_whoseIs ∈ gT := tm 1122 (by decide +kernel) (by decide +kernel)
theorem ki_X6_whoseIs : Cond.instanceMethod yX6_whoseIs ∈ gT := tm 1124 (by decide +kernel) (by decide +kernel)
theorem kc_X6_whoseIs : Cond.code yX6_whoseIs cX6_whoseIs 4 (some .int) ∈ gT := tm 1125 (by decide +kernel) (by decide +kernel)
theorem kk_X6_105 : Cond.constantLong RX6 105 (-1) ∈ gT := tm 1126 (by decide +kernel) (by decide +kernel)
theorem km_X6_107 : Cond.methodLink RX6 107 yX6_falls ∈ gT := tm 1127 (by decide +kernel) (by decide +kernel)
theorem ki_X6_falls : Cond.instanceMethod yX6_falls ∈ gT := tm 1129 (by decide +kernel) (by decide +kernel)
theorem kc_X6_falls : Cond.code yX6_falls cX6_falls 5 (some .int) ∈ gT := tm 1130 (by decide +kernel) (by decide +kernel)
theorem km_X6_147 : Cond.methodLink RX6 147 yX6_stands ∈ gT := tm 1131 (by decide +kernel) (by decide +kernel)
theorem ki_X6_stands : Cond.instanceMethod yX6_stands ∈ gT := tm 1133 (by decide +kernel) (by decide +kernel)
theorem kc_X6_stands : Cond.code yX6_stands cX6_stands 1 (some .long) ∈ gT := tm 1134 (by decide +kernel) (by decide +kernel)
theorem km_X6_376 : Cond.methodLink RX6 376 yX6_comeTo ∈ gT := tm 1135 (by decide +kernel) (by decide +kernel)
theorem ks_X6_comeTo : Cond.static yX6_comeTo ∈ gT := tm 1136 (by decide +kernel) (by decide +kernel)
theorem kc_X6_comeTo : Cond.code yX6_comeTo cX6_comeTo 10 (some .long) ∈ gT := tm 1137 (by decide +kernel) (by decide +kernel)
theorem km_X6_372 : Cond.methodLink RX6 372 yX6_beside ∈ gT := tm 1138 (by decide +kernel) (by decide +kernel)
theorem ks_X6_beside : Cond.static yX6_beside ∈ gT := tm 1139 (by decide +kernel) (by decide +kernel)
theorem kc_X6_beside : Cond.code yX6_beside cX6_beside 2 (some .long) ∈ gT := tm 1140 (by decide +kernel) (by decide +kernel)
theorem kk_X6_368 : Cond.constantLong RX6 368 (9187201950435737471) ∈ gT := tm 1141 (by decide +kernel) (by decide +kernel)
theorem kk_X6_370 : Cond.constantLong RX6 370 (-72340172838076674) ∈ gT := tm 1142 (by decide +kernel) (by decide +kernel)
theorem km_X6_111 : Cond.methodLink RX6 111 yX6_lays ∈ gT := tm 1143 (by decide +kernel) (by decide +kernel)
theorem ki_X6_lays : Cond.instanceMethod yX6_lays ∈ gT := tm 1145 (by decide +kernel) (by decide +kernel)
theorem kc_X6_lays : Cond.code yX6_lays cX6_lays 4 none ∈ gT := tm 1146 (by decide +kernel) (by decide +kernel)
theorem km_L_21 : Cond.methodLink RL 21 yX6_regret ∈ gT := tm 1147 (by decide +kernel) (by decide +kernel)
theorem ki_X6_regret : Cond.instanceMethod yX6_regret ∈ gT := tm 1148 (by decide +kernel) (by decide +kernel)
theorem kv_X6_regret : Cond.selects RX6 yX6_regret yX6_regret ∈ gT := tm 1149 (by decide +kernel) (by decide +kernel)
theorem kc_X6_regret : Cond.code yX6_regret cX6_regret 4 (some .int) ∈ gT := tm 1150 (by decide +kernel) (by decide +kernel)
theorem kk_X6_121 : Cond.constantLong RX6 121 (5) ∈ gT := tm 1151 (by decide +kernel) (by decide +kernel)
theorem kk_X6_123 : Cond.constantLong RX6 123 (9) ∈ gT := tm 1152 (by decide +kernel) (by decide +kernel)
theorem kk_X6_125 : Cond.constantLong RX6 125 (99) ∈ gT := tm 1153 (by decide +kernel) (by decide +kernel)
theorem km_L_26 : Cond.methodLink RL 26 yX6_told ∈ gT := tm 1154 (by decide +kernel) (by decide +kernel)
theorem km_L_31 : Cond.methodLink RL 31 yX6_wall ∈ gT := tm 1155 (by decide +kernel) (by decide +kernel)
theorem ki_X6_wall : Cond.instanceMethod yX6_wall ∈ gT := tm 1156 (by decide +kernel) (by decide +kernel)
theorem kv_X6_wall : Cond.selects RX6 yX6_wall yX6_wall ∈ gT := tm 1157 (by decide +kernel) (by decide +kernel)
theorem kc_X6_wall : Cond.code yX6_wall cX6_wall 2 (some .long) ∈ gT := tm 1158 (by decide +kernel) (by decide +kernel)
theorem kk_X6_145 : Cond.constantLong RX6 145 (-4611686018427387904) ∈ gT := tm 1159 (by decide +kernel) (by decide +kernel)
theorem km_L_36 : Cond.methodLink RL 36 yX6_feed ∈ gT := tm 1160 (by decide +kernel) (by decide +kernel)
theorem ki_X6_feed : Cond.instanceMethod yX6_feed ∈ gT := tm 1161 (by decide +kernel) (by decide +kernel)
theorem kv_X6_feed : Cond.selects RX6 yX6_feed yX6_feed ∈ gT := tm 1162 (by decide +kernel) (by decide +kernel)
theorem kc_X6_feed : Cond.code yX6_feed cX6_feed 2 (some .int) ∈ gT := tm 1163 (by decide +kernel) (by decide +kernel)
theorem km_L_41 : Cond.methodLink RL 41 yX6_text ∈ gT := tm 1164 (by decide +kernel) (by decide +kernel)
theorem ki_X6_text : Cond.instanceMethod yX6_text ∈ gT := tm 1165 (by decide +kernel) (by decide +kernel)
theorem kv_X6_text : Cond.selects RX6 yX6_text yX6_text ∈ gT := tm 1166 (by decide +kernel) (by decide +kernel)
theorem kc_X6_text : Cond.code yX6_text cX6_text 2 (some .int) ∈ gT := tm 1167 (by decide +kernel) (by decide +kernel)
theorem km_L_45 : Cond.methodLink RL 45 yX6_force ∈ gT := tm 1168 (by decide +kernel) (by decide +kernel)
theorem ki_X6_force : Cond.instanceMethod yX6_force ∈ gT := tm 1169 (by decide +kernel) (by decide +kernel)
theorem kv_X6_force : Cond.selects RX6 yX6_force yX6_force ∈ gT := tm 1170 (by decide +kernel) (by decide +kernel)
theorem kc_X6_force : Cond.code yX6_force cX6_force 3 (some .int) ∈ gT := tm 1171 (by decide +kernel) (by decide +kernel)
theorem km_L_53 : Cond.methodLink RL 53 yX6_fell ∈ gT := tm 1172 (by decide +kernel) (by decide +kernel)
theorem ki_X6_fell : Cond.instanceMethod yX6_fell ∈ gT := tm 1173 (by decide +kernel) (by decide +kernel)
theorem kv_X6_fell : Cond.selects RX6 yX6_fell yX6_fell ∈ gT := tm 1174 (by decide +kernel) (by decide +kernel)
theorem kc_X6_fell : Cond.code yX6_fell cX6_fell 2 (some .int) ∈ gT := tm 1175 (by decide +kernel) (by decide +kernel)
theorem km_X6_380 : Cond.methodLink RX6 380 yX6_felled ∈ gT := tm 1176 (by decide +kernel) (by decide +kernel)
theorem ki_X6_felled : Cond.instanceMethod yX6_felled ∈ gT := tm 1178 (by decide +kernel) (by decide +kernel)
theorem kc_X6_felled : Cond.code yX6_felled cX6_felled 3 (some .int) ∈ gT := tm 1179 (by decide +kernel) (by decide +kernel)
theorem km_L_49 : Cond.methodLink RL 49 yX6_raise ∈ gT := tm 1180 (by decide +kernel) (by decide +kernel)
theorem ki_X6_raise : Cond.instanceMethod yX6_raise ∈ gT := tm 1181 (by decide +kernel) (by decide +kernel)
theorem kv_X6_raise : Cond.selects RX6 yX6_raise yX6_raise ∈ gT := tm 1182 (by decide +kernel) (by decide +kernel)
theorem kc_X6_raise : Cond.code yX6_raise cX6_raise 6 (some .int) ∈ gT := tm 1183 (by decide +kernel) (by decide +kernel)
theorem km_X6_391 : Cond.methodLink RX6 391 yX6_partAt ∈ gT := tm 1184 (by decide +kernel) (by decide +kernel)
theorem ks_X6_partAt : Cond.static yX6_partAt ∈ gT := tm 1185 (by decide +kernel) (by decide +kernel)
theorem kc_X6_partAt : Cond.code yX6_partAt cX6_partAt 8 (some .long) ∈ gT := tm 1186 (by decide +kernel) (by decide +kernel)
theorem kk_X6_383 : Cond.constantLong RX6 383 (515) ∈ gT := tm 1187 (by decide +kernel) (by decide +kernel)
theorem kk_X6_385 : Cond.constantLong RX6 385 (7) ∈ gT := tm 1188 (by decide +kernel) (by decide +kernel)
theorem kk_X6_387 : Cond.constantLong RX6 387 (65793) ∈ gT := tm 1189 (by decide +kernel) (by decide +kernel)
theorem kk_X6_389 : Cond.constantLong RX6 389 (771) ∈ gT := tm 1190 (by decide +kernel) (by decide +kernel)
theorem km_X6_395 : Cond.methodLink RX6 395 yX6_can ∈ gT := tm 1191 (by decide +kernel) (by decide +kernel)
theorem ks_X6_can : Cond.static yX6_can ∈ gT := tm 1192 (by decide +kernel) (by decide +kernel)
theorem kc_X6_can : Cond.code yX6_can cX6_can 4 (some .boolean) ∈ gT := tm 1193 (by decide +kernel) (by decide +kernel)
theorem km_L_57 : Cond.methodLink RL 57 yX6_room ∈ gT := tm 1194 (by decide +kernel) (by decide +kernel)
theorem ki_X6_room : Cond.instanceMethod yX6_room ∈ gT := tm 1195 (by decide +kernel) (by decide +kernel)
theorem kv_X6_room : Cond.selects RX6 yX6_room yX6_room ∈ gT := tm 1196 (by decide +kernel) (by decide +kernel)
theorem kc_X6_room : Cond.code yX6_room cX6_room 7 (some .long) ∈ gT := tm 1197 (by decide +kernel) (by decide +kernel)
theorem km_L_61 : Cond.methodLink RL 61 yX6_year ∈ gT := tm 1198 (by decide +kernel) (by decide +kernel)
theorem ki_X6_year : Cond.instanceMethod yX6_year ∈ gT := tm 1199 (by decide +kernel) (by decide +kernel)
theorem kv_X6_year : Cond.selects RX6 yX6_year yX6_year ∈ gT := tm 1200 (by decide +kernel) (by decide +kernel)
theorem kc_X6_year : Cond.code yX6_year cX6_year 1 (some .int) ∈ gT := tm 1201 (by decide +kernel) (by decide +kernel)
theorem km_X6_400 : Cond.methodLink RX6 400 yX6_passes ∈ gT := tm 1202 (by decide +kernel) (by decide +kernel)
theorem ki_X6_passes : Cond.instanceMethod yX6_passes ∈ gT := tm 1204 (by decide +kernel) (by decide +kernel)
theorem kc_X6_passes : Cond.code yX6_passes cX6_passes 5 (some .int) ∈ gT := tm 1205 (by decide +kernel) (by decide +kernel)
theorem kk_X6_399 : Cond.constant RX6 399 (99999) ∈ gT := tm 1206 (by decide +kernel) (by decide +kernel)
theorem km_L_65 : Cond.methodLink RL 65 yX6_run ∈ gT := tm 1207 (by decide +kernel) (by decide +kernel)
theorem ki_X6_run : Cond.instanceMethod yX6_run ∈ gT := tm 1208 (by decide +kernel) (by decide +kernel)
theorem kv_X6_run : Cond.selects RX6 yX6_run yX6_run ∈ gT := tm 1209 (by decide +kernel) (by decide +kernel)
theorem kc_X6_run : Cond.code yX6_run cX6_run 5 (some .int) ∈ gT := tm 1210 (by decide +kernel) (by decide +kernel)
theorem kk_X6_403 : Cond.constantLong RX6 403 (40) ∈ gT := tm 1211 (by decide +kernel) (by decide +kernel)
theorem km_X6_405 : Cond.methodLink RX6 405 yX6_laysAside ∈ gT := tm 1212 (by decide +kernel) (by decide +kernel)
theorem ki_X6_laysAside : Cond.instanceMethod yX6_laysAside ∈ gT := tm 1214 (by decide +kernel) (by decide +kernel)
theorem kc_X6_laysAside : Cond.code yX6_laysAside cX6_laysAside 2 none ∈ gT := tm 1215 (by decide +kernel) (by decide +kernel)
theorem km_X6_408 : Cond.methodLink RX6 408 yX6_go ∈ gT := tm 1216 (by decide +kernel) (by decide +kernel)
theorem ki_X6_go : Cond.instanceMethod yX6_go ∈ gT := tm 1218 (by decide +kernel) (by decide +kernel)
theorem kc_X6_go : Cond.code yX6_go cX6_go 3 none ∈ gT := tm 1219 (by decide +kernel) (by decide +kernel)
theorem km_X6_412 : Cond.methodLink RX6 412 yX6_laysBack ∈ gT := tm 1220 (by decide +kernel) (by decide +kernel)
theorem ki_X6_laysBack : Cond.instanceMethod yX6_laysBack ∈ gT := tm 1222 (by decide +kernel) (by decide +kernel)
theorem kc_X6_laysBack : Cond.code yX6_laysBack cX6_laysBack 2 none ∈ gT := tm 1223 (by decide +kernel) (by decide +kernel)
theorem km_L_69 : Cond.methodLink RL 69 yX6_later ∈ gT := tm 1224 (by decide +kernel) (by decide +kernel)
theorem ki_X6_later : Cond.instanceMethod yX6_later ∈ gT := tm 1225 (by decide +kernel) (by decide +kernel)
theorem kv_X6_later : Cond.selects RX6 yX6_later yX6_later ∈ gT := tm 1226 (by decide +kernel) (by decide +kernel)
theorem kc_X6_later : Cond.code yX6_later cX6_later 4 (some .long) ∈ gT := tm 1227 (by decide +kernel) (by decide +kernel)
theorem km_L_73 : Cond.methodLink RL 73 yX6_walk ∈ gT := tm 1228 (by decide +kernel) (by decide +kernel)
theorem ki_X6_walk : Cond.instanceMethod yX6_walk ∈ gT := tm 1229 (by decide +kernel) (by decide +kernel)
theorem kv_X6_walk : Cond.selects RX6 yX6_walk yX6_walk ∈ gT := tm 1230 (by decide +kernel) (by decide +kernel)
theorem kc_X6_walk : Cond.code yX6_walk cX6_walk 6 (some .int) ∈ gT := tm 1231 (by decide +kernel) (by decide +kernel)
theorem km_L_78 : Cond.methodLink RL 78 yX6_round ∈ gT := tm 1232 (by decide +kernel) (by decide +kernel)
theorem ki_X6_round : Cond.instanceMethod yX6_round ∈ gT := tm 1233 (by decide +kernel) (by decide +kernel)
theorem kv_X6_round : Cond.selects RX6 yX6_round yX6_round ∈ gT := tm 1234 (by decide +kernel) (by decide +kernel)
theorem kc_X6_round : Cond.code yX6_round cX6_round 3 (some .long) ∈ gT := tm 1235 (by decide +kernel) (by decide +kernel)
theorem km_L_82 : Cond.methodLink RL 82 yX6_reach ∈ gT := tm 1236 (by decide +kernel) (by decide +kernel)
theorem ki_X6_reach : Cond.instanceMethod yX6_reach ∈ gT := tm 1237 (by decide +kernel) (by decide +kernel)
theorem kv_X6_reach : Cond.selects RX6 yX6_reach yX6_reach ∈ gT := tm 1238 (by decide +kernel) (by decide +kernel)
theorem kc_X6_reach : Cond.code yX6_reach cX6_reach 4 (some .int) ∈ gT := tm 1239 (by decide +kernel) (by decide +kernel)
theorem km_X6_415 : Cond.methodLink RX6 415 yX6_byOne ∈ gT := tm 1240 (by decide +kernel) (by decide +kernel)
theorem ks_X6_byOne : Cond.static yX6_byOne ∈ gT := tm 1241 (by decide +kernel) (by decide +kernel)
theorem kc_X6_byOne : Cond.code yX6_byOne cX6_byOne 6 (some .boolean) ∈ gT := tm 1242 (by decide +kernel) (by decide +kernel)
theorem km_X6_419 : Cond.methodLink RX6 419 yX6_byTwo ∈ gT := tm 1243 (by decide +kernel) (by decide +kernel)
theorem ks_X6_byTwo : Cond.static yX6_byTwo ∈ gT := tm 1244 (by decide +kernel) (by decide +kernel)
theorem kc_X6_byTwo : Cond.code yX6_byTwo cX6_byTwo 6 (some .boolean) ∈ gT := tm 1245 (by decide +kernel) (by decide +kernel)
theorem km_L_86 : Cond.methodLink RL 86 yX6_key ∈ gT := tm 1246 (by decide +kernel) (by decide +kernel)
theorem ki_X6_key : Cond.instanceMethod yX6_key ∈ gT := tm 1247 (by decide +kernel) (by decide +kernel)
theorem kv_X6_key : Cond.selects RX6 yX6_key yX6_key ∈ gT := tm 1248 (by decide +kernel) (by decide +kernel)
theorem kc_X6_key : Cond.code yX6_key cX6_key 10 (some .int) ∈ gT := tm 1249 (by decide +kernel) (by decide +kernel)
theorem km_L_90 : Cond.methodLink RL 90 yX6_add ∈ gT := tm 1250 (by decide +kernel) (by decide +kernel)
theorem ki_X6_add : Cond.instanceMethod yX6_add ∈ gT := tm 1251 (by decide +kernel) (by decide +kernel)
theorem kv_X6_add : Cond.selects RX6 yX6_add yX6_add ∈ gT := tm 1252 (by decide +kernel) (by decide +kernel)
theorem kc_X6_add : Cond.code yX6_add cX6_add 12 (some .int) ∈ gT := tm 1253 (by decide +kernel) (by decide +kernel)
theorem kk_X6_422 : Cond.constantLong RX6 422 (20) ∈ gT := tm 1254 (by decide +kernel) (by decide +kernel)
theorem km_X6_424 : Cond.methodLink RX6 424 yX6_putBehind ∈ gT := tm 1255 (by decide +kernel) (by decide +kernel)
theorem ki_X6_putBehind : Cond.instanceMethod yX6_putBehind ∈ gT := tm 1257 (by decide +kernel) (by decide +kernel)
theorem kc_X6_putBehind : Cond.code yX6_putBehind cX6_putBehind 6 (some .int) ∈ gT := tm 1258 (by decide +kernel) (by decide +kernel)
theorem km_L_94 : Cond.methodLink RL 94 yX6_share ∈ gT := tm 1259 (by decide +kernel) (by decide +kernel)
theorem ki_X6_share : Cond.instanceMethod yX6_share ∈ gT := tm 1260 (by decide +kernel) (by decide +kernel)
theorem kv_X6_share : Cond.selects RX6 yX6_share yX6_share ∈ gT := tm 1261 (by decide +kernel) (by decide +kernel)
theorem kc_X6_share : Cond.code yX6_share cX6_share 3 (some .long) ∈ gT := tm 1262 (by decide +kernel) (by decide +kernel)
theorem km_X6_428 : Cond.methodLink RX6 428 yX6_lowest ∈ gT := tm 1263 (by decide +kernel) (by decide +kernel)
theorem ks_X6_lowest : Cond.static yX6_lowest ∈ gT := tm 1264 (by decide +kernel) (by decide +kernel)
theorem kc_X6_lowest : Cond.code yX6_lowest cX6_lowest 11 (some .long) ∈ gT := tm 1265 (by decide +kernel) (by decide +kernel)
theorem km_L_98 : Cond.methodLink RL 98 yX6_tells ∈ gT := tm 1266 (by decide +kernel) (by decide +kernel)
theorem ki_X6_tells : Cond.instanceMethod yX6_tells ∈ gT := tm 1267 (by decide +kernel) (by decide +kernel)
theorem kv_X6_tells : Cond.selects RX6 yX6_tells yX6_tells ∈ gT := tm 1268 (by decide +kernel) (by decide +kernel)
theorem kc_X6_tells : Cond.code yX6_tells cX6_tells 11 (some .int) ∈ gT := tm 1269 (by decide +kernel) (by decide +kernel)
theorem km_X6_434 : Cond.methodLink RX6 434 yX6_isSheet ∈ gT := tm 1270 (by decide +kernel) (by decide +kernel)
theorem ks_X6_isSheet : Cond.static yX6_isSheet ∈ gT := tm 1271 (by decide +kernel) (by decide +kernel)
theorem kc_X6_isSheet : Cond.code yX6_isSheet cX6_isSheet 1 (some .boolean) ∈ gT := tm 1272 (by decide +kernel) (by decide +kernel)
theorem kk_X6_437 : Cond.constantLong RX6 437 (6) ∈ gT := tm 1273 (by decide +kernel) (by decide +kernel)
theorem km_X6_431 : Cond.methodLink RX6 431 yX6_firstOther ∈ gT := tm 1274 (by decide +kernel) (by decide +kernel)
theorem ki_X6_firstOther : Cond.instanceMethod yX6_firstOther ∈ gT := tm 1276 (by decide +kernel) (by decide +kernel)
theorem kc_X6_firstOther : Cond.code yX6_firstOther cX6_firstOther 5 (some .int) ∈ gT := tm 1277 (by decide +kernel) (by decide +kernel)
theorem km_X6_439 : Cond.methodLink RX6 439 yX6_likeSet ∈ gT := tm 1278 (by decide +kernel) (by decide +kernel)
theorem ki_X6_likeSet : Cond.instanceMethod yX6_likeSet ∈ gT := tm 1280 (by decide +kernel) (by decide +kernel)
theorem kc_X6_likeSet : Cond.code yX6_likeSet cX6_likeSet 4 (some .int) ∈ gT := tm 1281 (by decide +kernel) (by decide +kernel)
theorem km_L_102 : Cond.methodLink RL 102 yX6_film ∈ gT := tm 1282 (by decide +kernel) (by decide +kernel)
theorem ki_X6_film : Cond.instanceMethod yX6_film ∈ gT := tm 1283 (by decide +kernel) (by decide +kernel)
theorem kv_X6_film : Cond.selects RX6 yX6_film yX6_film ∈ gT := tm 1284 (by decide +kernel) (by decide +kernel)
theorem kc_X6_film : Cond.code yX6_film cX6_film 5 (some .int) ∈ gT := tm 1285 (by decide +kernel) (by decide +kernel)
theorem km_X6_442 : Cond.methodLink RX6 442 yX6_sheet ∈ gT := tm 1286 (by decide +kernel) (by decide +kernel)
theorem ki_X6_sheet : Cond.instanceMethod yX6_sheet ∈ gT := tm 1287 (by decide +kernel) (by decide +kernel)
theorem kv_X6_sheet : Cond.selects RX6 yX6_sheet yX6_sheet ∈ gT := tm 1288 (by decide +kernel) (by decide +kernel)
theorem kc_X6_sheet : Cond.code yX6_sheet cX6_sheet 5 (some .int) ∈ gT := tm 1289 (by decide +kernel) (by decide +kernel)
theorem kk_X6_463 : Cond.constantLong RX6 463 (2) ∈ gT := tm 1290 (by decide +kernel) (by decide +kernel)
theorem km_L_106 : Cond.methodLink RL 106 yX6_drawn ∈ gT := tm 1291 (by decide +kernel) (by decide +kernel)
theorem ki_X6_drawn : Cond.instanceMethod yX6_drawn ∈ gT := tm 1292 (by decide +kernel) (by decide +kernel)
theorem kv_X6_drawn : Cond.selects RX6 yX6_drawn yX6_drawn ∈ gT := tm 1293 (by decide +kernel) (by decide +kernel)
theorem kc_X6_drawn : Cond.code yX6_drawn cX6_drawn 3 (some .int) ∈ gT := tm 1294 (by decide +kernel) (by decide +kernel)
theorem km_X6_446 : Cond.methodLink RX6 446 yX6_putDrawn ∈ gT := tm 1295 (by decide +kernel) (by decide +kernel)
theorem ki_X6_putDrawn : Cond.instanceMethod yX6_putDrawn ∈ gT := tm 1297 (by decide +kernel) (by decide +kernel)
theorem kc_X6_putDrawn : Cond.code yX6_putDrawn cX6_putDrawn 6 (some .int) ∈ gT := tm 1298 (by decide +kernel) (by decide +kernel)
theorem kk_X6_445 : Cond.constant RX6 445 (1103515245) ∈ gT := tm 1299 (by decide +kernel) (by decide +kernel)
theorem km_L_111 : Cond.methodLink RL 111 yX6_chance ∈ gT := tm 1300 (by decide +kernel) (by decide +kernel)
theorem ki_X6_chance : Cond.instanceMethod yX6_chance ∈ gT := tm 1301 (by decide +kernel) (by decide +kernel)
theorem kv_X6_chance : Cond.selects RX6 yX6_chance yX6_chance ∈ gT := tm 1302 (by decide +kernel) (by decide +kernel)
theorem kc_X6_chance : Cond.code yX6_chance cX6_chance 8 (some .long) ∈ gT := tm 1303 (by decide +kernel) (by decide +kernel)
theorem kk_X6_449 : Cond.constantLong RX6 449 (64) ∈ gT := tm 1304 (by decide +kernel) (by decide +kernel)
theorem km_L_115 : Cond.methodLink RL 115 yX6_image ∈ gT := tm 1305 (by decide +kernel) (by decide +kernel)
theorem ki_X6_image : Cond.instanceMethod yX6_image ∈ gT := tm 1306 (by decide +kernel) (by decide +kernel)
theorem kv_X6_image : Cond.selects RX6 yX6_image yX6_image ∈ gT := tm 1307 (by decide +kernel) (by decide +kernel)
theorem kc_X6_image : Cond.code yX6_image cX6_image 2 (some .int) ∈ gT := tm 1308 (by decide +kernel) (by decide +kernel)
theorem km_L_119 : Cond.methodLink RL 119 yX6_back ∈ gT := tm 1309 (by decide +kernel) (by decide +kernel)
theorem ki_X6_back : Cond.instanceMethod yX6_back ∈ gT := tm 1310 (by decide +kernel) (by decide +kernel)
theorem kv_X6_back : Cond.selects RX6 yX6_back yX6_back ∈ gT := tm 1311 (by decide +kernel) (by decide +kernel)
theorem kc_X6_back : Cond.code yX6_back cX6_back 2 (some .int) ∈ gT := tm 1312 (by decide +kernel) (by decide +kernel)
theorem km_L_123 : Cond.methodLink RL 123 yX6_count ∈ gT := tm 1313 (by decide +kernel) (by decide +kernel)
theorem ki_X6_count : Cond.instanceMethod yX6_count ∈ gT := tm 1314 (by decide +kernel) (by decide +kernel)
theorem kv_X6_count : Cond.selects RX6 yX6_count yX6_count ∈ gT := tm 1315 (by decide +kernel) (by decide +kernel)
theorem kc_X6_count : Cond.code yX6_count cX6_count 2 (some .int) ∈ gT := tm 1316 (by decide +kernel) (by decide +kernel)
theorem km_L_127 : Cond.methodLink RL 127 yX6_sheet ∈ gT := tm 1317 (by decide +kernel) (by decide +kernel)
theorem km_L_131 : Cond.methodLink RL 131 yX6_cell ∈ gT := tm 1318 (by decide +kernel) (by decide +kernel)
theorem ki_X6_cell : Cond.instanceMethod yX6_cell ∈ gT := tm 1319 (by decide +kernel) (by decide +kernel)
theorem kv_X6_cell : Cond.selects RX6 yX6_cell yX6_cell ∈ gT := tm 1320 (by decide +kernel) (by decide +kernel)
theorem kc_X6_cell : Cond.code yX6_cell cX6_cell 4 (some .int) ∈ gT := tm 1321 (by decide +kernel) (by decide +kernel)
theorem km_L_136 : Cond.methodLink RL 136 yX6_copy ∈ gT := tm 1322 (by decide +kernel) (by decide +kernel)
theorem ki_X6_copy : Cond.instanceMethod yX6_copy ∈ gT := tm 1323 (by decide +kernel) (by decide +kernel)
theorem kv_X6_copy : Cond.selects RX6 yX6_copy yX6_copy ∈ gT := tm 1324 (by decide +kernel) (by decide +kernel)
theorem kc_X6_copy : Cond.code yX6_copy cX6_copy 9 (some .int) ∈ gT := tm 1325 (by decide +kernel) (by decide +kernel)
theorem km_L_141 : Cond.methodLink RL 141 yX6_bag ∈ gT := tm 1326 (by decide +kernel) (by decide +kernel)
theorem ki_X6_bag : Cond.instanceMethod yX6_bag ∈ gT := tm 1327 (by decide +kernel) (by decide +kernel)
theorem kv_X6_bag : Cond.selects RX6 yX6_bag yX6_bag ∈ gT := tm 1328 (by decide +kernel) (by decide +kernel)
theorem kc_X6_bag : Cond.code yX6_bag cX6_bag 8 (some .int) ∈ gT := tm 1329 (by decide +kernel) (by decide +kernel)
theorem km_X6_465 : Cond.methodLink RX6 465 yX6_regret ∈ gT := tm 1330 (by decide +kernel) (by decide +kernel)
theorem km_L_145 : Cond.methodLink RL 145 yX6_taken ∈ gT := tm 1331 (by decide +kernel) (by decide +kernel)
theorem ki_X6_taken : Cond.instanceMethod yX6_taken ∈ gT := tm 1332 (by decide +kernel) (by decide +kernel)
theorem kv_X6_taken : Cond.selects RX6 yX6_taken yX6_taken ∈ gT := tm 1333 (by decide +kernel) (by decide +kernel)
theorem kc_X6_taken : Cond.code yX6_taken cX6_taken 4 (some .int) ∈ gT := tm 1334 (by decide +kernel) (by decide +kernel)
theorem km_X6_468 : Cond.methodLink RX6 468 yX6_over ∈ gT := tm 1335 (by decide +kernel) (by decide +kernel)
theorem ks_X6_over : Cond.static yX6_over ∈ gT := tm 1336 (by decide +kernel) (by decide +kernel)
theorem kc_X6_over : Cond.code yX6_over cX6_over 1 (some .int) ∈ gT := tm 1337 (by decide +kernel) (by decide +kernel)
theorem kf_J0_15 : Cond.fieldLink RJ0 15 RJ0 "coder" "B" ∈ gT := tm 1338 (by decide +kernel) (by decide +kernel)
theorem kf_J0_9 : Cond.fieldLink RJ0 9 RJ0 "value" "[B" ∈ gT := tm 1339 (by decide +kernel) (by decide +kernel)
theorem kv_X5_changeYear : Cond.selects RX5 yX5_changeYear yX5_changeYear ∈ gT := tp 0 (by decide +kernel) (by decide +kernel)
theorem kv_X5_changeOfOne : Cond.selects RX5 yX5_changeOfOne yX5_changeOfOne ∈ gT := tp 1 (by decide +kernel) (by decide +kernel)
theorem kv_X5_isOne : Cond.selects RX5 yX5_isOne yX5_isOne ∈ gT := tp 2 (by decide +kernel) (by decide +kernel)
theorem kv_X5_changeHouse : Cond.selects RX5 yX5_changeHouse yX5_changeHouse ∈ gT := tp 3 (by decide +kernel) (by decide +kernel)
theorem kv_X5_toldOfOne : Cond.selects RX5 yX5_toldOfOne yX5_toldOfOne ∈ gT := tp 4 (by decide +kernel) (by decide +kernel)
theorem kv_X4_tell : Cond.selects RX4 yX4_tell yX4_tell ∈ gT := tp 5 (by decide +kernel) (by decide +kernel)
theorem kv_X4_highestCell : Cond.selects RX4 yX4_highestCell yX4_highestCell ∈ gT := tp 6 (by decide +kernel) (by decide +kernel)
theorem kv_X0_step : Cond.selects RX0 yX0_step yX0_step ∈ gT := tp 7 (by decide +kernel) (by decide +kernel)
theorem kv_X0_wordToken : Cond.selects RX0 yX0_wordToken yX0_wordToken ∈ gT := tp 8 (by decide +kernel) (by decide +kernel)
theorem kv_X0_spells : Cond.selects RX0 yX0_spells yX0_spells ∈ gT := tp 9 (by decide +kernel) (by decide +kernel)
theorem kv_X0_numberToken : Cond.selects RX0 yX0_numberToken yX0_numberToken ∈ gT := tp 10 (by decide +kernel) (by decide +kernel)
theorem kv_X0_expect : Cond.selects RX0 yX0_expect yX0_expect ∈ gT := tp 11 (by decide +kernel) (by decide +kernel)
theorem kv_X0_refuse : Cond.selects RX0 yX0_refuse yX0_refuse ∈ gT := tp 12 (by decide +kernel) (by decide +kernel)
theorem kv_X0_readEither : Cond.selects RX0 yX0_readEither yX0_readEither ∈ gT := tp 13 (by decide +kernel) (by decide +kernel)
theorem kv_X0_readBoth : Cond.selects RX0 yX0_readBoth yX0_readBoth ∈ gT := tp 14 (by decide +kernel) (by decide +kernel)
theorem kv_X0_readNot : Cond.selects RX0 yX0_readNot yX0_readNot ∈ gT := tp 15 (by decide +kernel) (by decide +kernel)
theorem kv_X0_opens : Cond.selects RX0 yX0_opens yX0_opens ∈ gT := tp 16 (by decide +kernel) (by decide +kernel)
theorem kv_X0_write : Cond.selects RX0 yX0_write yX0_write ∈ gT := tp 17 (by decide +kernel) (by decide +kernel)
theorem kv_X0_readSum : Cond.selects RX0 yX0_readSum yX0_readSum ∈ gT := tp 18 (by decide +kernel) (by decide +kernel)
theorem kv_X0_readTerm : Cond.selects RX0 yX0_readTerm yX0_readTerm ∈ gT := tp 19 (by decide +kernel) (by decide +kernel)
theorem kv_X0_readOne : Cond.selects RX0 yX0_readOne yX0_readOne ∈ gT := tp 20 (by decide +kernel) (by decide +kernel)
theorem kv_X5_think : Cond.selects RX5 yX5_think yX5_think ∈ gT := tp 21 (by decide +kernel) (by decide +kernel)
theorem kv_X5_firstOtherwise : Cond.selects RX5 yX5_firstOtherwise yX5_firstOtherwise ∈ gT := tp 22 (by decide +kernel) (by decide +kernel)
theorem kv_X5_supposedTold : Cond.selects RX5 yX5_supposedTold yX5_supposedTold ∈ gT := tp 23 (by decide +kernel) (by decide +kernel)
theorem kv_X5_suppositions : Cond.selects RX5 yX5_suppositions yX5_suppositions ∈ gT := tp 24 (by decide +kernel) (by decide +kernel)
theorem kv_X5_suppose : Cond.selects RX5 yX5_suppose yX5_suppose ∈ gT := tp 25 (by decide +kernel) (by decide +kernel)
theorem kv_X5_countDrawn : Cond.selects RX5 yX5_countDrawn yX5_countDrawn ∈ gT := tp 26 (by decide +kernel) (by decide +kernel)
theorem kv_X6_spell : Cond.selects RX6 yX6_spell yX6_spell ∈ gT := tp 27 (by decide +kernel) (by decide +kernel)
theorem kv_X6_isOne : Cond.selects RX6 yX6_isOne yX6_isOne ∈ gT := tp 28 (by decide +kernel) (by decide +kernel)
theorem kv_X6_putAll : Cond.selects RX6 yX6_putAll yX6_putAll ∈ gT := tp 29 (by decide +kernel) (by decide +kernel)
theorem kv_X6_holdsOf : Cond.selects RX6 yX6_holdsOf yX6_holdsOf ∈ gT := tp 30 (by decide +kernel) (by decide +kernel)
theorem kv_X6_says : Cond.selects RX6 yX6_says yX6_says ∈ gT := tp 31 (by decide +kernel) (by decide +kernel)
theorem kv_X6_read : Cond.selects RX6 yX6_read yX6_read ∈ gT := tp 32 (by decide +kernel) (by decide +kernel)
theorem kv_X6_next : Cond.selects RX6 yX6_next yX6_next ∈ gT := tp 33 (by decide +kernel) (by decide +kernel)
theorem kv_X6_byteAt : Cond.selects RX6 yX6_byteAt yX6_byteAt ∈ gT := tp 34 (by decide +kernel) (by decide +kernel)
theorem kv_X6_isWord : Cond.selects RX6 yX6_isWord yX6_isWord ∈ gT := tp 35 (by decide +kernel) (by decide +kernel)
theorem kv_X6_isLetter : Cond.selects RX6 yX6_isLetter yX6_isLetter ∈ gT := tp 36 (by decide +kernel) (by decide +kernel)
theorem kv_X6_part : Cond.selects RX6 yX6_part yX6_part ∈ gT := tp 37 (by decide +kernel) (by decide +kernel)
theorem kv_X6_fail : Cond.selects RX6 yX6_fail yX6_fail ∈ gT := tp 38 (by decide +kernel) (by decide +kernel)
theorem kv_X6_either0 : Cond.selects RX6 yX6_either0 yX6_either0 ∈ gT := tp 39 (by decide +kernel) (by decide +kernel)
theorem kv_X6_both0 : Cond.selects RX6 yX6_both0 yX6_both0 ∈ gT := tp 40 (by decide +kernel) (by decide +kernel)
theorem kv_X6_not0 : Cond.selects RX6 yX6_not0 yX6_not0 ∈ gT := tp 41 (by decide +kernel) (by decide +kernel)
theorem kv_X6_opens : Cond.selects RX6 yX6_opens yX6_opens ∈ gT := tp 42 (by decide +kernel) (by decide +kernel)
theorem kv_X6_not1 : Cond.selects RX6 yX6_not1 yX6_not1 ∈ gT := tp 43 (by decide +kernel) (by decide +kernel)
theorem kv_X6_not2 : Cond.selects RX6 yX6_not2 yX6_not2 ∈ gT := tp 44 (by decide +kernel) (by decide +kernel)
theorem kv_X6_not3 : Cond.selects RX6 yX6_not3 yX6_not3 ∈ gT := tp 45 (by decide +kernel) (by decide +kernel)
theorem kv_X6_not4 : Cond.selects RX6 yX6_not4 yX6_not4 ∈ gT := tp 46 (by decide +kernel) (by decide +kernel)
theorem kv_X6_not5 : Cond.selects RX6 yX6_not5 yX6_not5 ∈ gT := tp 47 (by decide +kernel) (by decide +kernel)
theorem kv_X6_added5 : Cond.selects RX6 yX6_added5 yX6_added5 ∈ gT := tp 48 (by decide +kernel) (by decide +kernel)
theorem kv_X6_term5 : Cond.selects RX6 yX6_term5 yX6_term5 ∈ gT := tp 49 (by decide +kernel) (by decide +kernel)
theorem kv_X6_atom5 : Cond.selects RX6 yX6_atom5 yX6_atom5 ∈ gT := tp 50 (by decide +kernel) (by decide +kernel)
theorem kv_X6_isSign : Cond.selects RX6 yX6_isSign yX6_isSign ∈ gT := tp 51 (by decide +kernel) (by decide +kernel)
theorem kv_X6_name : Cond.selects RX6 yX6_name yX6_name ∈ gT := tp 52 (by decide +kernel) (by decide +kernel)
theorem kv_X6_added4 : Cond.selects RX6 yX6_added4 yX6_added4 ∈ gT := tp 53 (by decide +kernel) (by decide +kernel)
theorem kv_X6_term4 : Cond.selects RX6 yX6_term4 yX6_term4 ∈ gT := tp 54 (by decide +kernel) (by decide +kernel)
theorem kv_X6_atom4 : Cond.selects RX6 yX6_atom4 yX6_atom4 ∈ gT := tp 55 (by decide +kernel) (by decide +kernel)
theorem kv_X6_either5 : Cond.selects RX6 yX6_either5 yX6_either5 ∈ gT := tp 56 (by decide +kernel) (by decide +kernel)
theorem kv_X6_both5 : Cond.selects RX6 yX6_both5 yX6_both5 ∈ gT := tp 57 (by decide +kernel) (by decide +kernel)
theorem kv_X6_added3 : Cond.selects RX6 yX6_added3 yX6_added3 ∈ gT := tp 58 (by decide +kernel) (by decide +kernel)
theorem kv_X6_term3 : Cond.selects RX6 yX6_term3 yX6_term3 ∈ gT := tp 59 (by decide +kernel) (by decide +kernel)
theorem kv_X6_atom3 : Cond.selects RX6 yX6_atom3 yX6_atom3 ∈ gT := tp 60 (by decide +kernel) (by decide +kernel)
theorem kv_X6_either4 : Cond.selects RX6 yX6_either4 yX6_either4 ∈ gT := tp 61 (by decide +kernel) (by decide +kernel)
theorem kv_X6_both4 : Cond.selects RX6 yX6_both4 yX6_both4 ∈ gT := tp 62 (by decide +kernel) (by decide +kernel)
theorem kv_X6_added2 : Cond.selects RX6 yX6_added2 yX6_added2 ∈ gT := tp 63 (by decide +kernel) (by decide +kernel)
theorem kv_X6_term2 : Cond.selects RX6 yX6_term2 yX6_term2 ∈ gT := tp 64 (by decide +kernel) (by decide +kernel)
theorem kv_X6_atom2 : Cond.selects RX6 yX6_atom2 yX6_atom2 ∈ gT := tp 65 (by decide +kernel) (by decide +kernel)
theorem kv_X6_either3 : Cond.selects RX6 yX6_either3 yX6_either3 ∈ gT := tp 66 (by decide +kernel) (by decide +kernel)
theorem kv_X6_both3 : Cond.selects RX6 yX6_both3 yX6_both3 ∈ gT := tp 67 (by decide +kernel) (by decide +kernel)
theorem kv_X6_added1 : Cond.selects RX6 yX6_added1 yX6_added1 ∈ gT := tp 68 (by decide +kernel) (by decide +kernel)
theorem kv_X6_term1 : Cond.selects RX6 yX6_term1 yX6_term1 ∈ gT := tp 69 (by decide +kernel) (by decide +kernel)
theorem kv_X6_atom1 : Cond.selects RX6 yX6_atom1 yX6_atom1 ∈ gT := tp 70 (by decide +kernel) (by decide +kernel)
theorem kv_X6_either2 : Cond.selects RX6 yX6_either2 yX6_either2 ∈ gT := tp 71 (by decide +kernel) (by decide +kernel)
theorem kv_X6_both2 : Cond.selects RX6 yX6_both2 yX6_both2 ∈ gT := tp 72 (by decide +kernel) (by decide +kernel)
theorem kv_X6_added0 : Cond.selects RX6 yX6_added0 yX6_added0 ∈ gT := tp 73 (by decide +kernel) (by decide +kernel)
theorem kv_X6_term0 : Cond.selects RX6 yX6_term0 yX6_term0 ∈ gT := tp 74 (by decide +kernel) (by decide +kernel)
theorem kv_X6_atom0 : Cond.selects RX6 yX6_atom0 yX6_atom0 ∈ gT := tp 75 (by decide +kernel) (by decide +kernel)
theorem kv_X6_either1 : Cond.selects RX6 yX6_either1 yX6_either1 ∈ gT := tp 76 (by decide +kernel) (by decide +kernel)
theorem kv_X6_both1 : Cond.selects RX6 yX6_both1 yX6_both1 ∈ gT := tp 77 (by decide +kernel) (by decide +kernel)
theorem kv_X6_fadesOf : Cond.selects RX6 yX6_fadesOf yX6_fadesOf ∈ gT := tp 78 (by decide +kernel) (by decide +kernel)
theorem kv_X6_costsOf : Cond.selects RX6 yX6_costsOf yX6_costsOf ∈ gT := tp 79 (by decide +kernel) (by decide +kernel)
theorem kv_X6_whoseIs : Cond.selects RX6 yX6_whoseIs yX6_whoseIs ∈ gT := tp 80 (by decide +kernel) (by decide +kernel)
theorem kv_X6_falls : Cond.selects RX6 yX6_falls yX6_falls ∈ gT := tp 81 (by decide +kernel) (by decide +kernel)
theorem kv_X6_stands : Cond.selects RX6 yX6_stands yX6_stands ∈ gT := tp 82 (by decide +kernel) (by decide +kernel)
theorem kv_X6_lays : Cond.selects RX6 yX6_lays yX6_lays ∈ gT := tp 83 (by decide +kernel) (by decide +kernel)
theorem kv_X6_felled : Cond.selects RX6 yX6_felled yX6_felled ∈ gT := tp 84 (by decide +kernel) (by decide +kernel)
theorem kv_X6_passes : Cond.selects RX6 yX6_passes yX6_passes ∈ gT := tp 85 (by decide +kernel) (by decide +kernel)
theorem kv_X6_laysAside : Cond.selects RX6 yX6_laysAside yX6_laysAside ∈ gT := tp 86 (by decide +kernel) (by decide +kernel)
theorem kv_X6_go : Cond.selects RX6 yX6_go yX6_go ∈ gT := tp 87 (by decide +kernel) (by decide +kernel)
theorem kv_X6_laysBack : Cond.selects RX6 yX6_laysBack yX6_laysBack ∈ gT := tp 88 (by decide +kernel) (by decide +kernel)
theorem kv_X6_putBehind : Cond.selects RX6 yX6_putBehind yX6_putBehind ∈ gT := tp 89 (by decide +kernel) (by decide +kernel)
theorem kv_X6_firstOther : Cond.selects RX6 yX6_firstOther yX6_firstOther ∈ gT := tp 90 (by decide +kernel) (by decide +kernel)
theorem kv_X6_likeSet : Cond.selects RX6 yX6_likeSet yX6_likeSet ∈ gT := tp 91 (by decide +kernel) (by decide +kernel)
theorem kv_X6_putDrawn : Cond.selects RX6 yX6_putDrawn yX6_putDrawn ∈ gT := tp 92 (by decide +kernel) (by decide +kernel)
theorem kw_X0 : ∀ w ∈ u_ws RX0 TX0 11, w ∈ gT := by
  have h : u_ws RX0 TX0 11 = ([102, 104, 106, 108, 110, 112, 114, 116, 118, 120, 122] : List Nat).filterMap (fun i => tables_1[i]?) := by decide +kernel
  intro w hw
  have hg : goodWord w = true := List.all_eq_true.mp (show (u_ws RX0 TX0 11).all goodWord = true by decide +kernel) w hw
  rw [h] at hw
  obtain ⟨i, -, hi⟩ := List.mem_filterMap.mp hw
  exact tm i hi hg
theorem kw_X1 : ∀ w ∈ u_ws RX1 TX1 3, w ∈ gT := by
  have h : u_ws RX1 TX1 3 = ([150, 152, 154] : List Nat).filterMap (fun i => tables_1[i]?) := by decide +kernel
  intro w hw
  have hg : goodWord w = true := List.all_eq_true.mp (show (u_ws RX1 TX1 3).all goodWord = true by decide +kernel) w hw
  rw [h] at hw
  obtain ⟨i, -, hi⟩ := List.mem_filterMap.mp hw
  exact tm i hi hg
theorem kw_X2 : ∀ w ∈ u_ws RX2 TX2 2, w ∈ gT := by
  have h : u_ws RX2 TX2 2 = ([134, 136] : List Nat).filterMap (fun i => tables_1[i]?) := by decide +kernel
  intro w hw
  have hg : goodWord w = true := List.all_eq_true.mp (show (u_ws RX2 TX2 2).all goodWord = true by decide +kernel) w hw
  rw [h] at hw
  obtain ⟨i, -, hi⟩ := List.mem_filterMap.mp hw
  exact tm i hi hg
theorem kw_X4 : ∀ w ∈ u_ws RX4 TX4 12, w ∈ gT := by
  have h : u_ws RX4 TX4 12 = ([57, 59, 61, 63, 65, 67, 69, 71, 73, 75, 77, 79] : List Nat).filterMap (fun i => tables_1[i]?) := by decide +kernel
  intro w hw
  have hg : goodWord w = true := List.all_eq_true.mp (show (u_ws RX4 TX4 12).all goodWord = true by decide +kernel) w hw
  rw [h] at hw
  obtain ⟨i, -, hi⟩ := List.mem_filterMap.mp hw
  exact tm i hi hg
theorem kw_X5 : ∀ w ∈ u_ws RX5 TX5 8, w ∈ gT := by
  have h : u_ws RX5 TX5 8 = ([165, 167, 169, 171, 173, 175, 177, 179] : List Nat).filterMap (fun i => tables_1[i]?) := by decide +kernel
  intro w hw
  have hg : goodWord w = true := List.all_eq_true.mp (show (u_ws RX5 TX5 8).all goodWord = true by decide +kernel) w hw
  rw [h] at hw
  obtain ⟨i, -, hi⟩ := List.mem_filterMap.mp hw
  exact tm i hi hg
theorem kw_X6 : ∀ w ∈ u_ws RX6 TX6 41, w ∈ gT := by
  have h : u_ws RX6 TX6 41 = ([791, 793, 795, 797, 799, 801, 803, 805, 807, 809, 811, 813, 815, 817, 819, 821, 823, 825, 827, 829, 831, 833, 835, 837, 839, 841, 843, 845, 847, 849, 851, 853, 855, 857, 859, 861, 863, 865, 867, 869, 871] : List Nat).filterMap (fun i => tables_1[i]?) := by decide +kernel
  intro w hw
  have hg : goodWord w = true := List.all_eq_true.mp (show (u_ws RX6 TX6 41).all goodWord = true by decide +kernel) w hw
  rw [h] at hw
  obtain ⟨i, -, hi⟩ := List.mem_filterMap.mp hw
  exact tm i hi hg
end
section
/-! the judgement of a walk over an abstract world: At; a context: Cx; a contract: Con -/
theorem dall {c : ByteArray} {tb : List (Nat × Instr × Nat)} (h : tb.all (fun q => decide (decode c q.1 = .ok q.2)) = true) (k : Nat) {pc : Nat} {i : Instr} {n : Nat} (hk : tb[k]? = some (pc, i, n)) : decode c pc = .ok (i, n) :=
  of_decide_eq_true (List.all_eq_true.mp h (pc, i, n) (List.mem_of_getElem? hk))
theorem gT_self : GoodIn gT gT := fun _ h => ⟨h, good_of_word (List.mem_filter.mp h).2⟩
theorem gT_c {w : Cond} (h : w ∈ gT) : GoodIn gT (w :: gT) := fun _ hv => (List.mem_cons.mp hv).elim (fun e => e ▸ gT_self _ h) (gT_self _)
/-- the room of a method of a level -/
def rmL (lev mc ms : Nat) : Room := { frames := lev, cells := mc, slots := ms, locals := 40 * lev }
/-- what the class's statics are: filled where a row needs them -/
def Stt (A : Nat → Prop) (U : State) (H : Heap) : Prop :=
  (∃ t : Nat, va_Z RX3 "OFFSETS" "[I" (.ref t) A U H ∧ va_T .int t 24 (fun j => .int (Int32.ofNat (([0, 0, 0, 0, 0, 1, 1, 1, 0, 1, 9, 9, 0, 1, 2, 2, 0, 8, 16, 16, 0, 1, 8, 9] : List Nat).getD j 0))) A U H) ∧
  (∃ t : Nat, va_Z RX3 "ON_WALL" "[J" (.ref t) A U H ∧ va_T .long t 6 (fun j => .long (([-1, 0x7f7f7f7f7f7f7f7f, 0x007f7f7f7f7f7f7f, 0x3f3f3f3f3f3f3f3f, 0x0000ffffffffffff, 0x007f7f7f7f7f7f7f] : List Int64).getD j 0)) A U H) ∧
  (∃ t : Nat, va_Z RX5 "KIND_ABOVE" "[I" (.ref t) A U H ∧ va_T .int t 6 (fun j => .int (([-1, 0, 0, 1, 2, 0] : List Int32).getD j 0)) A U H)
theorem Stt.moved {A : Nat → Prop} {u U : State} {H : Heap} (hvm : u.vm.Alike U.vm) (h : Stt A u H) : Stt A U H := by
  obtain ⟨⟨t1, a1, b1⟩, ⟨t2, a2, b2⟩, ⟨t3, a3, b3⟩⟩ := h
  exact ⟨⟨t1, a1.moved hvm, b1.moved hvm⟩, ⟨t2, a2.moved hvm, b2.moved hvm⟩, ⟨t3, a3.moved hvm, b3.moved hvm⟩⟩
abbrev CX : Type := (Program × Launch × Env × Room × State) × (MethodId × Array Value × List Frame × Method × Code) × (State → Prop)
/-- the machine comes to X's end from every heap that holds the world ws, at pc with these locals and this stack -/
def At (X : CX) (D : va_G) (A : Nat → Prop) (nL kc ks pc : Nat) (lv : List (Nat × Value)) (st : List Value) (ws : va_W) : Prop :=
  ∀ (H : Heap) (locs : List Loc) (ls : Array Slot), va_P D vwCl ws H → va_D A ws → va_S A X.1.2.2.2.2.heap H locs → lv_has ls nL lv →
    W X.1.1 X.1.2.1 X.1.2.2.1 X.1.2.2.2.1 X.1.2.2.2.2 X.2.1.1 X.2.1.2.1 X.2.1.2.2.1 X.2.1.2.2.2.1 X.2.1.2.2.2.2 H locs kc ks X.2.2 (F0 X.2.1.1 pc ls st)
/-- what a walk's context gives -/
def Cx (X : CX) (cc : ByteArray) (own : String) (nL : Nat) (D : va_G) (tys : List (ClassId × FieldType)) (A : Nat → Prop) (lev cM sM : Nat) : Prop :=
  X.1.1.tables.exec = Jvm.exec ∧ X.2.1.2.2.2.2.code = cc ∧ X.2.1.2.2.2.2.maxLocals = nL ∧ X.1.2.2.2.2.vm.findClass own = some X.2.1.1.cls ∧ (∀ w ∈ gT, w.before X.2.1.2.1 X.1.2.2.2.2 = true) ∧
  va_K D vwCl tys X.1.2.2.2.2 ∧ (∀ q : Nat, X.1.2.2.2.2.heap.size ≤ q → A q) ∧ lev ≤ X.1.2.2.2.1.frames ∧ 40 * lev ≤ X.1.2.2.2.1.locals ∧ X.1.2.2.2.1.cells = cM ∧ X.1.2.2.2.1.slots = sM ∧ Stt A X.1.2.2.2.2 X.1.2.2.2.2.heap
/-- a contract's end -/
def gQ (post : Option Value → va_W → Prop) (D : va_G) (tys : List (ClassId × FieldType)) (A : Nat → Prop) : Array Value → State → Outcome → State → Prop := fun _ st oc t =>
  (∃ (v : Option Value) (w : va_W), oc = .returned v ∧ post v w ∧ va_P D vwCl w t.heap ∧ va_K D vwCl tys t ∧ va_D A w) ∧ va_F A st t
/-- a contract's start -/
def gB (D : va_G) (tys : List (ClassId × FieldType)) (ws : va_W) (sz : Nat) (U : State) : Prop :=
  U.heap.size = sz ∧ va_P D vwCl ws U.heap ∧ va_K D vwCl tys U ∧ va_D (fun _ => True) ws ∧ Stt (va_A ws sz) U U.heap
/-- a contract: from a world ws with these arguments the method returns v and leaves w with post v w -/
def Con (y : MethodName) (cc : ByteArray) (nL : Nat) (ret : Option FieldType) (lev mc ms : Nat) (D : va_G) (tys : List (ClassId × FieldType)) (as : List Value) (ws : va_W) (post : Option Value → va_W → Prop) : Prop :=
  ∀ (l : Launch) (sz : Nat), Met l y (Cond.code y cc nL ret :: gT) (rmL lev mc ms) (va_Pc as (gB D tys ws sz)) (gQ post D tys (va_A ws sz)) mc ms (va_A ws sz)
theorem gB_blind {D : va_G} {tys : List (ClassId × FieldType)} {as : List Value} {ws : va_W} {sz : Nat} : FrameBlind (va_Pc as (gB D tys ws sz)) := fun a U g mk q => by
  obtain ⟨q0, q1, qP, qK, qD, qS⟩ := q
  exact ⟨q0, q1, qP, va_K.moved (u := U) (U := U.calling g mk a) (Vm.Alike.refl U.vm) qK, qD, Stt.moved (u := U) (U := U.calling g mk a) (Vm.Alike.refl U.vm) qS⟩
/-- what a return needs -/
def Rt (X : CX) (ret : Option FieldType) (D : va_G) (tys : List (ClassId × FieldType)) (A : Nat → Prop) (mc ms : Nat) (post : Option Value → va_W → Prop) : Prop :=
  X.2.2 = MQ X.2.1.2.2.1 (gQ post D tys A) X.2.1.2.1 X.1.2.2.2.2 mc ms A ∧ X.2.1.2.2.2.1.sig.returnType = ret ∧ X.2.1.2.2.2.1.locks = false
set_option maxHeartbeats 1000000 in
/-- a contract out of a walk -/
theorem Con.of {y : MethodName} {cc : ByteArray} {nL lev mc ms : Nat} {ret : Option FieldType} {D : va_G} {tys : List (ClassId × FieldType)} {as : List Value} {ws : va_W} {post : Option Value → va_W → Prop} {own : String}
    (hy : plainName y.cls = true) (ho : y.cls = own) (hfit : (lg_sl as).length ≤ nL) (hlev : 0 ≤ lev)
    (body : ∀ (X : CX) (A : Nat → Prop), Cx X cc own nL D tys A lev mc ms → Rt X ret D tys A mc ms post → (y.name = "<init>" → X.2.1.2.2.2.1.name = "<init>") → At X D A nL 0 0 0 (lv_args 0 as) [] ws) : Con y cc nL ret lev mc ms D tys as ws post := by
  intro l sz
  refine Met.ofW (cc := cc) (maxL := nL) (ret := ret) hy rfl ?_
  intro p e s m args below meth c s₁ B hml hv
  obtain ⟨rfl, hsz, hP, hK, hD0, hSt⟩ := hv
  have hts := atoms_spec (ws := Cond.code y cc nL ret :: gT) B.pre
  have hown : s.vm.findClass y.cls = some m.cls := findClass_of_methodNamed B.named
  subst hsz
  have hD := hD0.self (sz := s.heap.size)
  have hl := lv_entry as (n := nL) hfit
  rw [lg_entry_eq]
  have hin : y.name = "<init>" → meth.name = "<init>" := fun hq => hq ▸ (name_of_methodNamed B.named B.method).1
  exact body ((p, l, e, (headSpec (Cond.code y cc nL ret :: gT) (rmL lev mc ms)).room, s), (m, as.toArray, below, meth, c), MQ below (gQ post D tys (va_A ws s.heap.size)) as.toArray s mc ms (va_A ws s.heap.size)) (va_A ws s.heap.size)
    ⟨B.exec, B.bytes, hml, ho ▸ hown, fun w hw => hts w (List.mem_cons_of_mem _ hw), hK, fun q h => Or.inr h, Nat.le_refl _, Nat.le_refl _, rfl, rfl, hSt⟩ ⟨rfl, B.returns, B.notSynchronized⟩ hin s.heap [] _ hP hD va_S.rf hl
section Rows
variable {X : CX} {cc : ByteArray} {own : String} {nL : Nat} {D : va_G} {tys : List (ClassId × FieldType)} {A : Nat → Prop} {lev cM sM kc ks pc : Nat} {lv lv' : List (Nat × Value)} {st : List Value} {ws : va_W}
theorem r_iconst (C : Cx X cc own nL D tys A lev cM sM) {n : Int} {v : Int32} (hdg : decode cc pc = .ok (.iconst n, 1)) (hv : Int32.ofInt n = v) (k : At X D A nL kc ks (pc + 1) lv (.int v :: st) ws) : At X D A nL kc ks pc lv st ws :=
  fun H locs ls hP hD hS hl => lv_iconst C.1 C.2.1 hdg hv (k H locs ls hP hD hS hl)
theorem r_bipush (C : Cx X cc own nL D tys A lev cM sM) {n : Int} {v : Int32} (hdg : decode cc pc = .ok (.bipush n, 2)) (hv : (Int8.ofInt n).toInt32 = v) (k : At X D A nL kc ks (pc + 2) lv (.int v :: st) ws) : At X D A nL kc ks pc lv st ws :=
  fun H locs ls hP hD hS hl => lv_bipush C.1 C.2.1 hdg hv (k H locs ls hP hD hS hl)
theorem r_sipush (C : Cx X cc own nL D tys A lev cM sM) {n : Int} {v : Int32} (hdg : decode cc pc = .ok (.sipush n, 3)) (hv : (Int16.ofInt n).toInt32 = v) (k : At X D A nL kc ks (pc + 3) lv (.int v :: st) ws) : At X D A nL kc ks pc lv st ws :=
  fun H locs ls hP hD hS hl => lv_sipush C.1 C.2.1 hdg hv (k H locs ls hP hD hS hl)
theorem r_lconst (C : Cx X cc own nL D tys A lev cM sM) {n : Fin 2} {v : Int64} (hdg : decode cc pc = .ok (.lconst n, 1)) (hv : Int64.ofNat (n : Nat) = v) (k : At X D A nL kc ks (pc + 1) lv (.long v :: st) ws) : At X D A nL kc ks pc lv st ws :=
  fun H locs ls hP hD hS hl => lv_lconst C.1 C.2.1 hdg hv (k H locs ls hP hD hS hl)
theorem r_ldc (C : Cx X cc own nL D tys A lev cM sM) {index : Nat} {v : Int32} (hc : Cond.constant own index v ∈ gT) (hdg : decode cc pc = .ok (.ldc index, 2)) (k : At X D A nL kc ks (pc + 2) lv (.int v :: st) ws) : At X D A nL kc ks pc lv st ws :=
  fun H locs ls hP hD hS hl => lv_ldc C.1 C.2.1 C.2.2.2.1 (C.2.2.2.2.1 _ hc) hdg (k H locs ls hP hD hS hl)
theorem r_ldcw (C : Cx X cc own nL D tys A lev cM sM) {index : Nat} {v : Int32} (hc : Cond.constant own index v ∈ gT) (hdg : decode cc pc = .ok (.ldc_w index, 3)) (k : At X D A nL kc ks (pc + 3) lv (.int v :: st) ws) : At X D A nL kc ks pc lv st ws :=
  fun H locs ls hP hD hS hl => lv_ldcw C.1 C.2.1 C.2.2.2.1 (C.2.2.2.2.1 _ hc) hdg (k H locs ls hP hD hS hl)
theorem r_ldc2 (C : Cx X cc own nL D tys A lev cM sM) {index : Nat} {v : Int64} (hc : Cond.constantLong own index v ∈ gT) (hdg : decode cc pc = .ok (.ldc2_w index, 3)) (k : At X D A nL kc ks (pc + 3) lv (.long v :: st) ws) : At X D A nL kc ks pc lv st ws :=
  fun H locs ls hP hD hS hl => lv_ldc2 C.1 C.2.1 C.2.2.2.1 (C.2.2.2.2.1 _ hc) hdg (k H locs ls hP hD hS hl)
theorem r_iload_n (C : Cx X cc own nL D tys A lev cM sM) (q : Nat) {n : Fin 4} {x : Int32} (hdg : decode cc pc = .ok (.iload_n n, 1)) (hq : lv[q]? = some ((n : Nat), .int x)) (k : At X D A nL kc ks (pc + 1) lv (.int x :: st) ws) : At X D A nL kc ks pc lv st ws :=
  fun H locs ls hP hD hS hl => lv_iload_n C.1 C.2.1 hdg rfl (lv_at hl q hq) (k H locs ls hP hD hS hl)
theorem r_iload (C : Cx X cc own nL D tys A lev cM sM) (q : Nat) {i : Nat} {x : Int32} (hdg : decode cc pc = .ok (.iload i, 2)) (hq : lv[q]? = some (i, .int x)) (k : At X D A nL kc ks (pc + 2) lv (.int x :: st) ws) : At X D A nL kc ks pc lv st ws :=
  fun H locs ls hP hD hS hl => lv_iload C.1 C.2.1 hdg (lv_at hl q hq) (k H locs ls hP hD hS hl)
theorem r_lload_n (C : Cx X cc own nL D tys A lev cM sM) (q : Nat) {n : Fin 4} {x : Int64} (hdg : decode cc pc = .ok (.lload_n n, 1)) (hq : lv[q]? = some ((n : Nat), .long x)) (k : At X D A nL kc ks (pc + 1) lv (.long x :: st) ws) : At X D A nL kc ks pc lv st ws :=
  fun H locs ls hP hD hS hl => lv_lload_n C.1 C.2.1 hdg rfl (lv_at hl q hq) (k H locs ls hP hD hS hl)
theorem r_lload (C : Cx X cc own nL D tys A lev cM sM) (q : Nat) {i : Nat} {x : Int64} (hdg : decode cc pc = .ok (.lload i, 2)) (hq : lv[q]? = some (i, .long x)) (k : At X D A nL kc ks (pc + 2) lv (.long x :: st) ws) : At X D A nL kc ks pc lv st ws :=
  fun H locs ls hP hD hS hl => lv_lload C.1 C.2.1 hdg (lv_at hl q hq) (k H locs ls hP hD hS hl)
theorem r_aload_n (C : Cx X cc own nL D tys A lev cM sM) (q : Nat) {n : Fin 4} {x : Nat} (hdg : decode cc pc = .ok (.aload_n n, 1)) (hq : lv[q]? = some ((n : Nat), .ref x)) (k : At X D A nL kc ks (pc + 1) lv (.ref x :: st) ws) : At X D A nL kc ks pc lv st ws :=
  fun H locs ls hP hD hS hl => lv_aload_n C.1 C.2.1 hdg rfl (lv_at hl q hq) (k H locs ls hP hD hS hl)
theorem r_aload (C : Cx X cc own nL D tys A lev cM sM) (q : Nat) {i : Nat} {x : Nat} (hdg : decode cc pc = .ok (.aload i, 2)) (hq : lv[q]? = some (i, .ref x)) (k : At X D A nL kc ks (pc + 2) lv (.ref x :: st) ws) : At X D A nL kc ks pc lv st ws :=
  fun H locs ls hP hD hS hl => lv_aload C.1 C.2.1 hdg (lv_at hl q hq) (k H locs ls hP hD hS hl)
/-- locals after a store of a category 1 value, of a category 2 value -/
def s1 (lv : List (Nat × Value)) (i : Nat) (v : Value) : List (Nat × Value) := (i, v) :: lv.filter (fun q => !(q.1 == i) && !(q.1 + 1 == i && q.2.category == 2))
def s2 (lv : List (Nat × Value)) (i : Nat) (v : Value) : List (Nat × Value) := (i, v) :: lv.filter (fun q => !(q.1 == i) && (!(q.1 == i + 1) && !(q.1 + 1 == i && q.2.category == 2)))
theorem r_istore_n (C : Cx X cc own nL D tys A lev cM sM) {n : Fin 4} {x : Int32} (hdg : decode cc pc = .ok (.istore_n n, 1)) (hn : (n : Nat) < nL) (hl : s1 lv n (.int x) = lv') (k : At X D A nL kc ks (pc + 1) lv' st ws) : At X D A nL kc ks pc lv (.int x :: st) ws :=
  fun H locs _ hP hD hS h => lv_istore_n C.1 C.2.1 hdg rfl h hn hl (fun ls' h' => k H locs ls' hP hD hS h')
theorem r_istore (C : Cx X cc own nL D tys A lev cM sM) {i : Nat} {x : Int32} (hdg : decode cc pc = .ok (.istore i, 2)) (hn : i < nL) (hl : s1 lv i (.int x) = lv') (k : At X D A nL kc ks (pc + 2) lv' st ws) : At X D A nL kc ks pc lv (.int x :: st) ws :=
  fun H locs _ hP hD hS h => lv_istore C.1 C.2.1 hdg h hn hl (fun ls' h' => k H locs ls' hP hD hS h')
theorem r_lstore_n (C : Cx X cc own nL D tys A lev cM sM) {n : Fin 4} {x : Int64} (hdg : decode cc pc = .ok (.lstore_n n, 1)) (hn : (n : Nat) + 1 < nL) (hl : s2 lv n (.long x) = lv') (k : At X D A nL kc ks (pc + 1) lv' st ws) : At X D A nL kc ks pc lv (.long x :: st) ws :=
  fun H locs _ hP hD hS h => lv_lstore_n C.1 C.2.1 hdg rfl h hn hl (fun ls' h' => k H locs ls' hP hD hS h')
theorem r_lstore (C : Cx X cc own nL D tys A lev cM sM) {i : Nat} {x : Int64} (hdg : decode cc pc = .ok (.lstore i, 2)) (hn : i + 1 < nL) (hl : s2 lv i (.long x) = lv') (k : At X D A nL kc ks (pc + 2) lv' st ws) : At X D A nL kc ks pc lv (.long x :: st) ws :=
  fun H locs _ hP hD hS h => lv_lstore C.1 C.2.1 hdg h hn hl (fun ls' h' => k H locs ls' hP hD hS h')
theorem r_astore_n (C : Cx X cc own nL D tys A lev cM sM) {n : Fin 4} {x : Nat} (hdg : decode cc pc = .ok (.astore_n n, 1)) (hn : (n : Nat) < nL) (hl : s1 lv n (.ref x) = lv') (k : At X D A nL kc ks (pc + 1) lv' st ws) : At X D A nL kc ks pc lv (.ref x :: st) ws :=
  fun H locs _ hP hD hS h => lv_astore_n C.1 C.2.1 hdg rfl h hn hl (fun ls' h' => k H locs ls' hP hD hS h')
theorem r_astore (C : Cx X cc own nL D tys A lev cM sM) {i : Nat} {x : Nat} (hdg : decode cc pc = .ok (.astore i, 2)) (hn : i < nL) (hl : s1 lv i (.ref x) = lv') (k : At X D A nL kc ks (pc + 2) lv' st ws) : At X D A nL kc ks pc lv (.ref x :: st) ws :=
  fun H locs _ hP hD hS h => lv_astore C.1 C.2.1 hdg h hn hl (fun ls' h' => k H locs ls' hP hD hS h')
theorem r_iinc (C : Cx X cc own nL D tys A lev cM sM) (q : Nat) {i : Nat} {n : Int} {x v : Int32} (hdg : decode cc pc = .ok (.iinc i n, 3)) (hq : lv[q]? = some (i, .int x)) (hv : x + Int32.ofInt n = v) (hn : i < nL) (hl : s1 lv i (.int v) = lv') (k : At X D A nL kc ks (pc + 3) lv' st ws) : At X D A nL kc ks pc lv st ws :=
  fun H locs _ hP hD hS h => lv_iinc C.1 C.2.1 hdg h hq hv hn hl (fun ls' h' => k H locs ls' hP hD hS h')
theorem r_pick (ps : List Nat) (hl : lv_pick lv ps = lv') (k : At X D A nL kc ks pc lv' st ws) : At X D A nL kc ks pc lv st ws :=
  fun H locs ls hP hD hS h => k H locs ls hP hD hS (lv_sub h ps hl)
theorem r_goto (C : Cx X cc own nL D tys A lev cM sM) {off : Int} {tgt : Nat} (hdg : decode cc pc = .ok (.goto off, 3)) (ht : (pc : Int) + off = (tgt : Int)) (k : At X D A nL kc ks tgt lv st ws) : At X D A nL kc ks pc lv st ws :=
  fun H locs ls hP hD hS hl => lv_goto C.1 C.2.1 hdg ht (k H locs ls hP hD hS hl)
theorem r_iadd (C : Cx X cc own nL D tys A lev cM sM) {x y : Int32} (hdg : decode cc pc = .ok (.iadd, 1)) (k : At X D A nL kc ks (pc + 1) lv (.int (x + y) :: st) ws) : At X D A nL kc ks pc lv (.int y :: .int x :: st) ws :=
  fun H locs ls hP hD hS hl => lv_iadd C.1 C.2.1 hdg (k H locs ls hP hD hS hl)
theorem r_isub (C : Cx X cc own nL D tys A lev cM sM) {x y : Int32} (hdg : decode cc pc = .ok (.isub, 1)) (k : At X D A nL kc ks (pc + 1) lv (.int (x - y) :: st) ws) : At X D A nL kc ks pc lv (.int y :: .int x :: st) ws :=
  fun H locs ls hP hD hS hl => lv_isub C.1 C.2.1 hdg (k H locs ls hP hD hS hl)
theorem r_imul (C : Cx X cc own nL D tys A lev cM sM) {x y : Int32} (hdg : decode cc pc = .ok (.imul, 1)) (k : At X D A nL kc ks (pc + 1) lv (.int (x * y) :: st) ws) : At X D A nL kc ks pc lv (.int y :: .int x :: st) ws :=
  fun H locs ls hP hD hS hl => lv_imul C.1 C.2.1 hdg (k H locs ls hP hD hS hl)
theorem r_iand (C : Cx X cc own nL D tys A lev cM sM) {x y : Int32} (hdg : decode cc pc = .ok (.iand, 1)) (k : At X D A nL kc ks (pc + 1) lv (.int (x &&& y) :: st) ws) : At X D A nL kc ks pc lv (.int y :: .int x :: st) ws :=
  fun H locs ls hP hD hS hl => lv_iand C.1 C.2.1 hdg (k H locs ls hP hD hS hl)
theorem r_ior (C : Cx X cc own nL D tys A lev cM sM) {x y : Int32} (hdg : decode cc pc = .ok (.ior, 1)) (k : At X D A nL kc ks (pc + 1) lv (.int (x ||| y) :: st) ws) : At X D A nL kc ks pc lv (.int y :: .int x :: st) ws :=
  fun H locs ls hP hD hS hl => lv_ior C.1 C.2.1 hdg (k H locs ls hP hD hS hl)
theorem r_ixor (C : Cx X cc own nL D tys A lev cM sM) {x y : Int32} (hdg : decode cc pc = .ok (.ixor, 1)) (k : At X D A nL kc ks (pc + 1) lv (.int (x ^^^ y) :: st) ws) : At X D A nL kc ks pc lv (.int y :: .int x :: st) ws :=
  fun H locs ls hP hD hS hl => lv_ixor C.1 C.2.1 hdg (k H locs ls hP hD hS hl)
theorem r_ishl (C : Cx X cc own nL D tys A lev cM sM) {x y : Int32} (hdg : decode cc pc = .ok (.ishl, 1)) (k : At X D A nL kc ks (pc + 1) lv (.int (x <<< (y &&& 31)) :: st) ws) : At X D A nL kc ks pc lv (.int y :: .int x :: st) ws :=
  fun H locs ls hP hD hS hl => lv_ishl C.1 C.2.1 hdg (k H locs ls hP hD hS hl)
theorem r_ishr (C : Cx X cc own nL D tys A lev cM sM) {x y : Int32} (hdg : decode cc pc = .ok (.ishr, 1)) (k : At X D A nL kc ks (pc + 1) lv (.int (x >>> (y &&& 31)) :: st) ws) : At X D A nL kc ks pc lv (.int y :: .int x :: st) ws :=
  fun H locs ls hP hD hS hl => lv_ishr C.1 C.2.1 hdg (k H locs ls hP hD hS hl)
theorem r_ladd (C : Cx X cc own nL D tys A lev cM sM) {x y : Int64} (hdg : decode cc pc = .ok (.ladd, 1)) (k : At X D A nL kc ks (pc + 1) lv (.long (x + y) :: st) ws) : At X D A nL kc ks pc lv (.long y :: .long x :: st) ws :=
  fun H locs ls hP hD hS hl => lv_ladd C.1 C.2.1 hdg (k H locs ls hP hD hS hl)
theorem r_lsub (C : Cx X cc own nL D tys A lev cM sM) {x y : Int64} (hdg : decode cc pc = .ok (.lsub, 1)) (k : At X D A nL kc ks (pc + 1) lv (.long (x - y) :: st) ws) : At X D A nL kc ks pc lv (.long y :: .long x :: st) ws :=
  fun H locs ls hP hD hS hl => lv_lsub C.1 C.2.1 hdg (k H locs ls hP hD hS hl)
theorem r_lmul (C : Cx X cc own nL D tys A lev cM sM) {x y : Int64} (hdg : decode cc pc = .ok (.lmul, 1)) (k : At X D A nL kc ks (pc + 1) lv (.long (x * y) :: st) ws) : At X D A nL kc ks pc lv (.long y :: .long x :: st) ws :=
  fun H locs ls hP hD hS hl => lv_lmul C.1 C.2.1 hdg (k H locs ls hP hD hS hl)
theorem r_land (C : Cx X cc own nL D tys A lev cM sM) {x y : Int64} (hdg : decode cc pc = .ok (.land, 1)) (k : At X D A nL kc ks (pc + 1) lv (.long (x &&& y) :: st) ws) : At X D A nL kc ks pc lv (.long y :: .long x :: st) ws :=
  fun H locs ls hP hD hS hl => lv_land C.1 C.2.1 hdg (k H locs ls hP hD hS hl)
theorem r_lor (C : Cx X cc own nL D tys A lev cM sM) {x y : Int64} (hdg : decode cc pc = .ok (.lor, 1)) (k : At X D A nL kc ks (pc + 1) lv (.long (x ||| y) :: st) ws) : At X D A nL kc ks pc lv (.long y :: .long x :: st) ws :=
  fun H locs ls hP hD hS hl => lv_lor C.1 C.2.1 hdg (k H locs ls hP hD hS hl)
theorem r_lxor (C : Cx X cc own nL D tys A lev cM sM) {x y : Int64} (hdg : decode cc pc = .ok (.lxor, 1)) (k : At X D A nL kc ks (pc + 1) lv (.long (x ^^^ y) :: st) ws) : At X D A nL kc ks pc lv (.long y :: .long x :: st) ws :=
  fun H locs ls hP hD hS hl => lv_lxor C.1 C.2.1 hdg (k H locs ls hP hD hS hl)
theorem r_idiv (C : Cx X cc own nL D tys A lev cM sM) {x y : Int32} (hdg : decode cc pc = .ok (.idiv, 1)) (hne : ¬ y = 0) (k : At X D A nL kc ks (pc + 1) lv (.int (x / y) :: st) ws) : At X D A nL kc ks pc lv (.int y :: .int x :: st) ws :=
  fun H locs ls hP hD hS hl => lv_idiv C.1 C.2.1 hdg hne (k H locs ls hP hD hS hl)
theorem r_irem (C : Cx X cc own nL D tys A lev cM sM) {x y : Int32} (hdg : decode cc pc = .ok (.irem, 1)) (hne : ¬ y = 0) (k : At X D A nL kc ks (pc + 1) lv (.int (x - x / y * y) :: st) ws) : At X D A nL kc ks pc lv (.int y :: .int x :: st) ws :=
  fun H locs ls hP hD hS hl => lv_irem C.1 C.2.1 hdg hne (k H locs ls hP hD hS hl)
theorem r_ldiv (C : Cx X cc own nL D tys A lev cM sM) {x y : Int64} (hdg : decode cc pc = .ok (.ldiv, 1)) (hne : ¬ y = 0) (k : At X D A nL kc ks (pc + 1) lv (.long (x / y) :: st) ws) : At X D A nL kc ks pc lv (.long y :: .long x :: st) ws :=
  fun H locs ls hP hD hS hl => lv_ldiv C.1 C.2.1 hdg hne (k H locs ls hP hD hS hl)
theorem r_lrem (C : Cx X cc own nL D tys A lev cM sM) {x y : Int64} (hdg : decode cc pc = .ok (.lrem, 1)) (hne : ¬ y = 0) (k : At X D A nL kc ks (pc + 1) lv (.long (x - x / y * y) :: st) ws) : At X D A nL kc ks pc lv (.long y :: .long x :: st) ws :=
  fun H locs ls hP hD hS hl => lv_lrem C.1 C.2.1 hdg hne (k H locs ls hP hD hS hl)
theorem r_ineg (C : Cx X cc own nL D tys A lev cM sM) {x : Int32} (hdg : decode cc pc = .ok (.ineg, 1)) (k : At X D A nL kc ks (pc + 1) lv (.int (-x) :: st) ws) : At X D A nL kc ks pc lv (.int x :: st) ws :=
  fun H locs ls hP hD hS hl => lv_ineg C.1 C.2.1 hdg (k H locs ls hP hD hS hl)
theorem r_lneg (C : Cx X cc own nL D tys A lev cM sM) {x : Int64} (hdg : decode cc pc = .ok (.lneg, 1)) (k : At X D A nL kc ks (pc + 1) lv (.long (-x) :: st) ws) : At X D A nL kc ks pc lv (.long x :: st) ws :=
  fun H locs ls hP hD hS hl => lv_lneg C.1 C.2.1 hdg (k H locs ls hP hD hS hl)
theorem r_i2l (C : Cx X cc own nL D tys A lev cM sM) {x : Int32} (hdg : decode cc pc = .ok (.i2l, 1)) (k : At X D A nL kc ks (pc + 1) lv (.long x.toInt64 :: st) ws) : At X D A nL kc ks pc lv (.int x :: st) ws :=
  fun H locs ls hP hD hS hl => lv_i2l C.1 C.2.1 hdg rfl (k H locs ls hP hD hS hl)
theorem r_l2i (C : Cx X cc own nL D tys A lev cM sM) {x : Int64} (hdg : decode cc pc = .ok (.l2i, 1)) (k : At X D A nL kc ks (pc + 1) lv (.int x.toInt32 :: st) ws) : At X D A nL kc ks pc lv (.long x :: st) ws :=
  fun H locs ls hP hD hS hl => lv_l2i C.1 C.2.1 hdg rfl (k H locs ls hP hD hS hl)
theorem r_i2b (C : Cx X cc own nL D tys A lev cM sM) {x : Int32} (hdg : decode cc pc = .ok (.i2b, 1)) (k : At X D A nL kc ks (pc + 1) lv (.int x.toInt8.toInt32 :: st) ws) : At X D A nL kc ks pc lv (.int x :: st) ws :=
  fun H locs ls hP hD hS hl => lv_i2b C.1 C.2.1 hdg rfl (k H locs ls hP hD hS hl)
theorem r_i2s (C : Cx X cc own nL D tys A lev cM sM) {x : Int32} (hdg : decode cc pc = .ok (.i2s, 1)) (k : At X D A nL kc ks (pc + 1) lv (.int x.toInt16.toInt32 :: st) ws) : At X D A nL kc ks pc lv (.int x :: st) ws :=
  fun H locs ls hP hD hS hl => lv_i2s C.1 C.2.1 hdg rfl (k H locs ls hP hD hS hl)
theorem r_i2c (C : Cx X cc own nL D tys A lev cM sM) {x : Int32} (hdg : decode cc pc = .ok (.i2c, 1)) (k : At X D A nL kc ks (pc + 1) lv (.int (x.toUInt32 % 65536).toInt32 :: st) ws) : At X D A nL kc ks pc lv (.int x :: st) ws :=
  fun H locs ls hP hD hS hl => lv_i2c C.1 C.2.1 hdg rfl (k H locs ls hP hD hS hl)
/-- the shifts of longs and the unsigned ones, by name -/
def jshl (x : Int64) (y : Int32) : Int64 := x <<< (y.toInt64 &&& 63)
def jshr (x : Int64) (y : Int32) : Int64 := x >>> (y.toInt64 &&& 63)
def jushr (x : Int64) (y : Int32) : Int64 := (x.toUInt64 >>> (y.toInt64.toUInt64 &&& Int64.toUInt64 63)).toInt64
def jiushr (x y : Int32) : Int32 := (x.toUInt32 >>> (y.toUInt32 &&& Int32.toUInt32 31)).toInt32
theorem r_iushr (C : Cx X cc own nL D tys A lev cM sM) {x y : Int32} (hdg : decode cc pc = .ok (.iushr, 1)) (k : At X D A nL kc ks (pc + 1) lv (.int (jiushr x y) :: st) ws) : At X D A nL kc ks pc lv (.int y :: .int x :: st) ws :=
  fun H locs ls hP hD hS hl => lv_iushr C.1 C.2.1 hdg rfl (k H locs ls hP hD hS hl)
theorem r_lushr (C : Cx X cc own nL D tys A lev cM sM) {x : Int64} {y : Int32} (hdg : decode cc pc = .ok (.lushr, 1)) (k : At X D A nL kc ks (pc + 1) lv (.long (jushr x y) :: st) ws) : At X D A nL kc ks pc lv (.int y :: .long x :: st) ws :=
  fun H locs ls hP hD hS hl => lv_lushr C.1 C.2.1 hdg rfl (k H locs ls hP hD hS hl)
theorem r_lshl (C : Cx X cc own nL D tys A lev cM sM) {x : Int64} {y : Int32} (hdg : decode cc pc = .ok (.lshl, 1)) (k : At X D A nL kc ks (pc + 1) lv (.long (jshl x y) :: st) ws) : At X D A nL kc ks pc lv (.int y :: .long x :: st) ws :=
  fun H locs ls hP hD hS hl => lv_lshl C.1 C.2.1 hdg rfl (k H locs ls hP hD hS hl)
theorem r_lshr (C : Cx X cc own nL D tys A lev cM sM) {x : Int64} {y : Int32} (hdg : decode cc pc = .ok (.lshr, 1)) (k : At X D A nL kc ks (pc + 1) lv (.long (jshr x y) :: st) ws) : At X D A nL kc ks pc lv (.int y :: .long x :: st) ws :=
  fun H locs ls hP hD hS hl => lv_lshr C.1 C.2.1 hdg rfl (k H locs ls hP hD hS hl)
theorem r_lcmp (C : Cx X cc own nL D tys A lev cM sM) {x y : Int64} (hdg : decode cc pc = .ok (.lcmp, 1)) (k : At X D A nL kc ks (pc + 1) lv (.int (lg_cmp x y) :: st) ws) : At X D A nL kc ks pc lv (.long y :: .long x :: st) ws :=
  fun H locs ls hP hD hS hl => W.lcmp C.1 C.2.1 hdg (k H locs ls hP hD hS hl)
theorem r_dup (C : Cx X cc own nL D tys A lev cM sM) {v : Value} (hdg : decode cc pc = .ok (.dup, 1)) (h1 : v.category = 1) (k : At X D A nL kc ks (pc + 1) lv (v :: v :: st) ws) : At X D A nL kc ks pc lv (v :: st) ws :=
  fun H locs ls hP hD hS hl => lv_dup C.1 C.2.1 hdg h1 (k H locs ls hP hD hS hl)
theorem r_pop (C : Cx X cc own nL D tys A lev cM sM) {v : Value} (hdg : decode cc pc = .ok (.pop, 1)) (h1 : v.category = 1) (k : At X D A nL kc ks (pc + 1) lv (st) ws) : At X D A nL kc ks pc lv (v :: st) ws :=
  fun H locs ls hP hD hS hl => lv_pop C.1 C.2.1 hdg h1 (k H locs ls hP hD hS hl)
theorem r_dup_x1 (C : Cx X cc own nL D tys A lev cM sM) {v w : Value} (hdg : decode cc pc = .ok (.dup_x1, 1)) (h1 : v.category = 1) (h2 : w.category = 1) (k : At X D A nL kc ks (pc + 1) lv (v :: w :: v :: st) ws) : At X D A nL kc ks pc lv (v :: w :: st) ws :=
  fun H locs ls hP hD hS hl => lv_dup_x1 C.1 C.2.1 hdg h1 h2 (k H locs ls hP hD hS hl)
theorem r_dup_x2 (C : Cx X cc own nL D tys A lev cM sM) {v w z : Value} (hdg : decode cc pc = .ok (.dup_x2, 1)) (h1 : v.category = 1) (h2 : w.category = 1) (h3 : z.category = 1) (k : At X D A nL kc ks (pc + 1) lv (v :: w :: z :: v :: st) ws) : At X D A nL kc ks pc lv (v :: w :: z :: st) ws :=
  fun H locs ls hP hD hS hl => lv_dup_x2 C.1 C.2.1 hdg h1 h2 h3 (k H locs ls hP hD hS hl)
theorem r_dup2_11 (C : Cx X cc own nL D tys A lev cM sM) {v w : Value} (hdg : decode cc pc = .ok (.dup2, 1)) (h1 : v.category = 1) (h2 : w.category = 1) (k : At X D A nL kc ks (pc + 1) lv (v :: w :: v :: w :: st) ws) : At X D A nL kc ks pc lv (v :: w :: st) ws :=
  fun H locs ls hP hD hS hl => lv_dup2_11 C.1 C.2.1 hdg h1 h2 (k H locs ls hP hD hS hl)
theorem r_dup2_2 (C : Cx X cc own nL D tys A lev cM sM) {v : Value} (hdg : decode cc pc = .ok (.dup2, 1)) (h1 : v.category = 2) (k : At X D A nL kc ks (pc + 1) lv (v :: v :: st) ws) : At X D A nL kc ks pc lv (v :: st) ws :=
  fun H locs ls hP hD hS hl => lv_dup2_2 C.1 C.2.1 hdg h1 (k H locs ls hP hD hS hl)
theorem r_pop2_2 (C : Cx X cc own nL D tys A lev cM sM) {v : Value} (hdg : decode cc pc = .ok (.pop2, 1)) (h1 : v.category = 2) (k : At X D A nL kc ks (pc + 1) lv (st) ws) : At X D A nL kc ks pc lv (v :: st) ws :=
  fun H locs ls hP hD hS hl => lv_pop2_2 C.1 C.2.1 hdg h1 (k H locs ls hP hD hS hl)
theorem r_if_eq (C : Cx X cc own nL D tys A lev cM sM) {x : Int32} {off : Int} {tgt : Nat} (hdg : decode cc pc = .ok (.ifCond .eq off, 3)) (ht : (pc : Int) + off = (tgt : Int)) (kt : x = 0 → At X D A nL kc ks tgt lv st ws) (kf : ¬ x = 0 → At X D A nL kc ks (pc + 3) lv st ws) : At X D A nL kc ks pc lv (.int x :: st) ws :=
  fun H locs ls hP hD hS hl => lv_if_eq C.1 C.2.1 hdg ht (fun h => kt h H locs ls hP hD hS hl) (fun h => kf h H locs ls hP hD hS hl)
theorem r_icmp_eq (C : Cx X cc own nL D tys A lev cM sM) {x y : Int32} {off : Int} {tgt : Nat} (hdg : decode cc pc = .ok (.if_icmp .eq off, 3)) (ht : (pc : Int) + off = (tgt : Int)) (kt : x = y → At X D A nL kc ks tgt lv st ws) (kf : ¬ x = y → At X D A nL kc ks (pc + 3) lv st ws) : At X D A nL kc ks pc lv (.int y :: .int x :: st) ws :=
  fun H locs ls hP hD hS hl => lv_icmp_eq C.1 C.2.1 hdg ht (fun h => kt h H locs ls hP hD hS hl) (fun h => kf h H locs ls hP hD hS hl)
theorem r_if_ne (C : Cx X cc own nL D tys A lev cM sM) {x : Int32} {off : Int} {tgt : Nat} (hdg : decode cc pc = .ok (.ifCond .ne off, 3)) (ht : (pc : Int) + off = (tgt : Int)) (kt : ¬ x = 0 → At X D A nL kc ks tgt lv st ws) (kf : x = 0 → At X D A nL kc ks (pc + 3) lv st ws) : At X D A nL kc ks pc lv (.int x :: st) ws :=
  fun H locs ls hP hD hS hl => lv_if_ne C.1 C.2.1 hdg ht (fun h => kt h H locs ls hP hD hS hl) (fun h => kf h H locs ls hP hD hS hl)
theorem r_icmp_ne (C : Cx X cc own nL D tys A lev cM sM) {x y : Int32} {off : Int} {tgt : Nat} (hdg : decode cc pc = .ok (.if_icmp .ne off, 3)) (ht : (pc : Int) + off = (tgt : Int)) (kt : ¬ x = y → At X D A nL kc ks tgt lv st ws) (kf : x = y → At X D A nL kc ks (pc + 3) lv st ws) : At X D A nL kc ks pc lv (.int y :: .int x :: st) ws :=
  fun H locs ls hP hD hS hl => lv_icmp_ne C.1 C.2.1 hdg ht (fun h => kt h H locs ls hP hD hS hl) (fun h => kf h H locs ls hP hD hS hl)
theorem r_if_lt (C : Cx X cc own nL D tys A lev cM sM) {x : Int32} {off : Int} {tgt : Nat} (hdg : decode cc pc = .ok (.ifCond .lt off, 3)) (ht : (pc : Int) + off = (tgt : Int)) (kt : x < 0 → At X D A nL kc ks tgt lv st ws) (kf : ¬ x < 0 → At X D A nL kc ks (pc + 3) lv st ws) : At X D A nL kc ks pc lv (.int x :: st) ws :=
  fun H locs ls hP hD hS hl => lv_if_lt C.1 C.2.1 hdg ht (fun h => kt h H locs ls hP hD hS hl) (fun h => kf h H locs ls hP hD hS hl)
theorem r_icmp_lt (C : Cx X cc own nL D tys A lev cM sM) {x y : Int32} {off : Int} {tgt : Nat} (hdg : decode cc pc = .ok (.if_icmp .lt off, 3)) (ht : (pc : Int) + off = (tgt : Int)) (kt : x < y → At X D A nL kc ks tgt lv st ws) (kf : ¬ x < y → At X D A nL kc ks (pc + 3) lv st ws) : At X D A nL kc ks pc lv (.int y :: .int x :: st) ws :=
  fun H locs ls hP hD hS hl => lv_icmp_lt C.1 C.2.1 hdg ht (fun h => kt h H locs ls hP hD hS hl) (fun h => kf h H locs ls hP hD hS hl)
theorem r_if_ge (C : Cx X cc own nL D tys A lev cM sM) {x : Int32} {off : Int} {tgt : Nat} (hdg : decode cc pc = .ok (.ifCond .ge off, 3)) (ht : (pc : Int) + off = (tgt : Int)) (kt : 0 ≤ x → At X D A nL kc ks tgt lv st ws) (kf : ¬ 0 ≤ x → At X D A nL kc ks (pc + 3) lv st ws) : At X D A nL kc ks pc lv (.int x :: st) ws :=
  fun H locs ls hP hD hS hl => lv_if_ge C.1 C.2.1 hdg ht (fun h => kt h H locs ls hP hD hS hl) (fun h => kf h H locs ls hP hD hS hl)
theorem r_icmp_ge (C : Cx X cc own nL D tys A lev cM sM) {x y : Int32} {off : Int} {tgt : Nat} (hdg : decode cc pc = .ok (.if_icmp .ge off, 3)) (ht : (pc : Int) + off = (tgt : Int)) (kt : y ≤ x → At X D A nL kc ks tgt lv st ws) (kf : ¬ y ≤ x → At X D A nL kc ks (pc + 3) lv st ws) : At X D A nL kc ks pc lv (.int y :: .int x :: st) ws :=
  fun H locs ls hP hD hS hl => lv_icmp_ge C.1 C.2.1 hdg ht (fun h => kt h H locs ls hP hD hS hl) (fun h => kf h H locs ls hP hD hS hl)
theorem r_if_gt (C : Cx X cc own nL D tys A lev cM sM) {x : Int32} {off : Int} {tgt : Nat} (hdg : decode cc pc = .ok (.ifCond .gt off, 3)) (ht : (pc : Int) + off = (tgt : Int)) (kt : 0 < x → At X D A nL kc ks tgt lv st ws) (kf : ¬ 0 < x → At X D A nL kc ks (pc + 3) lv st ws) : At X D A nL kc ks pc lv (.int x :: st) ws :=
  fun H locs ls hP hD hS hl => lv_if_gt C.1 C.2.1 hdg ht (fun h => kt h H locs ls hP hD hS hl) (fun h => kf h H locs ls hP hD hS hl)
theorem r_icmp_gt (C : Cx X cc own nL D tys A lev cM sM) {x y : Int32} {off : Int} {tgt : Nat} (hdg : decode cc pc = .ok (.if_icmp .gt off, 3)) (ht : (pc : Int) + off = (tgt : Int)) (kt : y < x → At X D A nL kc ks tgt lv st ws) (kf : ¬ y < x → At X D A nL kc ks (pc + 3) lv st ws) : At X D A nL kc ks pc lv (.int y :: .int x :: st) ws :=
  fun H locs ls hP hD hS hl => lv_icmp_gt C.1 C.2.1 hdg ht (fun h => kt h H locs ls hP hD hS hl) (fun h => kf h H locs ls hP hD hS hl)
theorem r_if_le (C : Cx X cc own nL D tys A lev cM sM) {x : Int32} {off : Int} {tgt : Nat} (hdg : decode cc pc = .ok (.ifCond .le off, 3)) (ht : (pc : Int) + off = (tgt : Int)) (kt : x ≤ 0 → At X D A nL kc ks tgt lv st ws) (kf : ¬ x ≤ 0 → At X D A nL kc ks (pc + 3) lv st ws) : At X D A nL kc ks pc lv (.int x :: st) ws :=
  fun H locs ls hP hD hS hl => lv_if_le C.1 C.2.1 hdg ht (fun h => kt h H locs ls hP hD hS hl) (fun h => kf h H locs ls hP hD hS hl)
theorem r_icmp_le (C : Cx X cc own nL D tys A lev cM sM) {x y : Int32} {off : Int} {tgt : Nat} (hdg : decode cc pc = .ok (.if_icmp .le off, 3)) (ht : (pc : Int) + off = (tgt : Int)) (kt : x ≤ y → At X D A nL kc ks tgt lv st ws) (kf : ¬ x ≤ y → At X D A nL kc ks (pc + 3) lv st ws) : At X D A nL kc ks pc lv (.int y :: .int x :: st) ws :=
  fun H locs ls hP hD hS hl => lv_icmp_le C.1 C.2.1 hdg ht (fun h => kt h H locs ls hP hD hS hl) (fun h => kf h H locs ls hP hD hS hl)
end Rows
end
section
/-! rows over the world: fields, arrays, returns, calls, loops -/
section Heap
variable {X : CX} {cc : ByteArray} {own : String} {nL : Nat} {D : va_G} {tys : List (ClassId × FieldType)} {A : Nat → Prop} {lev cM sM kc ks pc : Nat} {lv lv' : List (Nat × Value)} {st : List Value} {ws ws' : va_W}
theorem r_ws (h : ws = ws') (k : At X D A nL kc ks pc lv st ws') : At X D A nL kc ks pc lv st ws := h ▸ k
theorem r_get (C : Cx X cc own nL D tys A lev cM sM) (q0 : Nat) {a ci index k N : Nat} {fs : List Value} {CC ref : String} {T : u_T} {v : Value} (hw : ∀ w ∈ u_ws CC T N, w ∈ gT) (he : ws[q0]? = some (a, .inr (ci, fs))) (hc : vwCl[ci]? = some (CC, T, N)) (hk : k < N)
    (hlink : Cond.fieldLink own index ref (T k).2.1 (T k).2.2.1 ∈ gT) (href : (T k).1 = ref) (hv : fs[k]? = some v) (hdg : decode cc pc = .ok (.getfield index, 3)) (kk : At X D A nL kc ks (pc + 3) lv (v :: st) ws) : At X D A nL kc ks pc lv (.ref a :: st) ws :=
  fun H locs ls hP hD hS hl => va_get C.1 C.2.1 C.2.2.2.2.1 hw C.2.2.2.1 C.2.2.2.2.2.1 hP q0 he hc k hk (C.2.2.2.2.1 _ hlink) (fun _ h => href ▸ h) hv hdg (kk H locs ls hP hD hS hl)
theorem r_put (C : Cx X cc own nL D tys A lev cM sM) (q0 : Nat) {a ci index k N : Nat} {fs : List Value} {CC ref : String} {T : u_T} {ty0 : Nat → FieldType} {v : Value} {ty : FieldType} (hw : ∀ w ∈ u_ws CC T N, w ∈ gT) (hty : ∀ k, k < N → parseFieldDescriptor (T k).2.2.1 = some (ty0 k)) (hnm : ∀ a, a < N → ∀ b, b < N → a ≠ b → (T a).2.1 ≠ (T b).2.1)
    (he : ws[q0]? = some (a, .inr (ci, fs))) (hc : vwCl[ci]? = some (CC, T, N)) (hk : k < N) (hlink : Cond.fieldLink own index ref (T k).2.1 (T k).2.2.1 ∈ gT) (href : (T k).1 = ref) (hfin : (T k).2.2.2 = false) (hd : ty0 k = ty) (hn : narrow ty v = v) (hfit : fits ty v = true) (hl : k < fs.length)
    (hws : ws.set q0 (a, .inr (ci, fs.set k v)) = ws') (hdg : decode cc pc = .ok (.putfield index, 3)) (kk : At X D A nL kc ks (pc + 3) lv st ws') : At X D A nL kc ks pc lv (v :: .ref a :: st) ws :=
  fun _ _ ls hP hD hS h => va_put C.1 C.2.1 C.2.2.2.2.1 hw ty0 hty hnm C.2.2.2.1 C.2.2.2.2.2.1 hP hD hS q0 he hc k hk (C.2.2.2.2.1 _ hlink) (fun _ h => href ▸ h) hfin (hd ▸ hty k hk) hn hfit hl hdg (fun H1 locs1 hP1 hD1 hS1 => kk H1 locs1 ls (hws ▸ hP1) (hws ▸ hD1) hS1 h)
theorem r_putF (C : Cx X cc own nL D tys A lev cM sM) (q0 : Nat) {a ci index k N : Nat} {fs : List Value} {CC ref : String} {T : u_T} {ty0 : Nat → FieldType} {v : Value} {ty : FieldType} (hw : ∀ w ∈ u_ws CC T N, w ∈ gT) (hty : ∀ k, k < N → parseFieldDescriptor (T k).2.2.1 = some (ty0 k)) (hnm : ∀ a, a < N → ∀ b, b < N → a ≠ b → (T a).2.1 ≠ (T b).2.1)
    (he : ws[q0]? = some (a, .inr (ci, fs))) (hc : vwCl[ci]? = some (CC, T, N)) (hk : k < N) (hlink : Cond.fieldLink own index ref (T k).2.1 (T k).2.2.1 ∈ gT) (href : (T k).1 = ref) (hfin : (T k).2.2.2 = true) (hin : X.2.1.2.2.2.1.name = "<init>") (hdecl : (T k).1 = own) (hd : ty0 k = ty) (hn : narrow ty v = v) (hfit : fits ty v = true) (hl : k < fs.length)
    (hws : ws.set q0 (a, .inr (ci, fs.set k v)) = ws') (hdg : decode cc pc = .ok (.putfield index, 3)) (kk : At X D A nL kc ks (pc + 3) lv st ws') : At X D A nL kc ks pc lv (v :: .ref a :: st) ws :=
  fun _ _ ls hP hD hS h => va_putF C.1 C.2.1 C.2.2.2.2.1 hw ty0 hty hnm C.2.2.2.1 C.2.2.2.2.2.1 hP hD hS q0 he hc k hk (C.2.2.2.2.1 _ hlink) (fun _ h => href ▸ h) hfin hin hdecl (hd ▸ hty k hk) hn hfit hl hdg (fun H1 locs1 hP1 hD1 hS1 => kk H1 locs1 ls (hws ▸ hP1) (hws ▸ hD1) hS1 h)
theorem r_iald (C : Cx X cc own nL D tys A lev cM sM) (q0 t0 : Nat) {a n : Nat} {cA : ClassId} {f : Nat → Int32} {i : Int32} (ha : ws[q0]? = some (a, .inl (cA, n, .inl f))) (ht : tys[t0]? = some (cA, .int)) (hin : vp_in i n) (hdg : decode cc pc = .ok (.iaload, 1)) (kk : At X D A nL kc ks (pc + 1) lv (.int (f i.toNatClampNeg) :: st) ws) : At X D A nL kc ks pc lv (.int i :: .ref a :: st) ws :=
  fun H locs ls hP hD hS hl => va_iald C.1 C.2.1 C.2.2.2.2.2.1 hP q0 t0 ha ht hin hdg (kk H locs ls hP hD hS hl)
theorem r_zald (C : Cx X cc own nL D tys A lev cM sM) (q0 t0 : Nat) {a n : Nat} {cA : ClassId} {f : Nat → Int32} {i : Int32} (ha : ws[q0]? = some (a, .inl (cA, n, .inl f))) (ht : tys[t0]? = some (cA, .boolean)) (hin : vp_in i n) (hdg : decode cc pc = .ok (.baload, 1)) (kk : At X D A nL kc ks (pc + 1) lv (.int (f i.toNatClampNeg) :: st) ws) : At X D A nL kc ks pc lv (.int i :: .ref a :: st) ws :=
  fun H locs ls hP hD hS hl => va_zald C.1 C.2.1 C.2.2.2.2.2.1 hP q0 t0 ha ht hin hdg (kk H locs ls hP hD hS hl)
theorem r_lald (C : Cx X cc own nL D tys A lev cM sM) (q0 t0 : Nat) {a n : Nat} {cA : ClassId} {f : Nat → Int64} {i : Int32} (ha : ws[q0]? = some (a, .inl (cA, n, .inr (.inl f)))) (ht : tys[t0]? = some (cA, .long)) (hin : vp_in i n) (hdg : decode cc pc = .ok (.laload, 1)) (kk : At X D A nL kc ks (pc + 1) lv (.long (f i.toNatClampNeg) :: st) ws) : At X D A nL kc ks pc lv (.int i :: .ref a :: st) ws :=
  fun H locs ls hP hD hS hl => va_lald C.1 C.2.1 C.2.2.2.2.2.1 hP q0 t0 ha ht hin hdg (kk H locs ls hP hD hS hl)
theorem r_aald (C : Cx X cc own nL D tys A lev cM sM) (q0 t0 : Nat) {a n : Nat} {cA : ClassId} {EC : String} {f : Nat → Option Nat} {i : Int32} (ha : ws[q0]? = some (a, .inl (cA, n, .inr (.inr (.inr (.inr f)))))) (ht : tys[t0]? = some (cA, .object EC)) (hin : vp_in i n) (hdg : decode cc pc = .ok (.aaload, 1)) (kk : At X D A nL kc ks (pc + 1) lv (va_rf (f i.toNatClampNeg) :: st) ws) : At X D A nL kc ks pc lv (.int i :: .ref a :: st) ws :=
  fun H locs ls hP hD hS hl => va_aldq C.1 C.2.1 C.2.2.2.2.2.1 hP q0 t0 ha ht hin hdg (kk H locs ls hP hD hS hl)
theorem r_iast (C : Cx X cc own nL D tys A lev cM sM) (q0 t0 : Nat) {a n : Nat} {cA : ClassId} {f : Nat → Int32} {i x : Int32} (ha : ws[q0]? = some (a, .inl (cA, n, .inl f))) (ht : tys[t0]? = some (cA, .int)) (hin : vp_in i n) (hws : ws.set q0 (a, .inl (cA, n, .inl (upd f i.toNatClampNeg x))) = ws') (hdg : decode cc pc = .ok (.iastore, 1)) (kk : At X D A nL kc ks (pc + 1) lv st ws') : At X D A nL kc ks pc lv (.int x :: .int i :: .ref a :: st) ws :=
  fun _ _ ls hP hD hS hl => va_iast C.1 C.2.1 C.2.2.2.2.2.1 hP hD hS q0 t0 ha ht hin hdg (fun H1 locs1 hP1 hD1 hS1 => kk H1 locs1 ls (hws ▸ hP1) (hws ▸ hD1) hS1 hl)
theorem r_zast (C : Cx X cc own nL D tys A lev cM sM) (q0 t0 : Nat) {a n : Nat} {cA : ClassId} {f : Nat → Int32} {i x : Int32} (ha : ws[q0]? = some (a, .inl (cA, n, .inl f))) (ht : tys[t0]? = some (cA, .boolean)) (hin : vp_in i n) (hws : ws.set q0 (a, .inl (cA, n, .inl (upd f i.toNatClampNeg (vp_nar .boolean x)))) = ws') (hdg : decode cc pc = .ok (.bastore, 1)) (kk : At X D A nL kc ks (pc + 1) lv st ws') : At X D A nL kc ks pc lv (.int x :: .int i :: .ref a :: st) ws :=
  fun _ _ ls hP hD hS hl => va_zast C.1 C.2.1 C.2.2.2.2.2.1 hP hD hS q0 t0 ha ht hin hdg (fun H1 locs1 hP1 hD1 hS1 => kk H1 locs1 ls (hws ▸ hP1) (hws ▸ hD1) hS1 hl)
theorem r_last (C : Cx X cc own nL D tys A lev cM sM) (q0 t0 : Nat) {a n : Nat} {cA : ClassId} {f : Nat → Int64} {i : Int32} {x : Int64} (ha : ws[q0]? = some (a, .inl (cA, n, .inr (.inl f)))) (ht : tys[t0]? = some (cA, .long)) (hin : vp_in i n) (hws : ws.set q0 (a, .inl (cA, n, .inr (.inl (vp_updL f i.toNatClampNeg x)))) = ws') (hdg : decode cc pc = .ok (.lastore, 1)) (kk : At X D A nL kc ks (pc + 1) lv st ws') : At X D A nL kc ks pc lv (.long x :: .int i :: .ref a :: st) ws :=
  fun _ _ ls hP hD hS hl => va_last C.1 C.2.1 C.2.2.2.2.2.1 hP hD hS q0 t0 ha ht hin hdg (fun H1 locs1 hP1 hD1 hS1 => kk H1 locs1 ls (hws ▸ hP1) (hws ▸ hD1) hS1 hl)
theorem r_alen (C : Cx X cc own nL D tys A lev cM sM) (q0 t0 : Nat) {a : Nat} {cA : ClassId} {x : vp_A} {ty : FieldType} {v : Int32} (ha : ws[q0]? = some (a, .inl (cA, x))) (ht : tys[t0]? = some (cA, ty)) (hv : Int32.ofNat x.1 = v) (hdg : decode cc pc = .ok (.arraylength, 1)) (kk : At X D A nL kc ks (pc + 1) lv (.int v :: st) ws) : At X D A nL kc ks pc lv (.ref a :: st) ws :=
  fun H locs ls hP hD hS hl => va_alen C.1 C.2.1 C.2.2.2.2.2.1 hP q0 t0 ha ht hv hdg (kk H locs ls hP hD hS hl)
theorem r_widen {kc' ks' : Nat} (h1 : kc ≤ kc') (h2 : ks ≤ ks') (k : At X D A nL kc' ks' pc lv st ws) : At X D A nL kc ks pc lv st ws :=
  fun H locs ls hP hD hS hl => W.widen h1 h2 (k H locs ls hP hD hS hl)
theorem r_iret (C : Cx X cc own nL D tys A lev cM sM) {post : Option Value → va_W → Prop} {v : Int32} (hR : Rt X (some .int) D tys A kc ks post) (hdg : decode cc pc = .ok (.ireturn, 1)) (hp : post (some (.int v)) ws) : At X D A nL kc ks pc lv [.int v] ws := by
  intro H locs ls hP hD hS hl
  rw [hR.1]
  exact W.iret C.1 C.2.1 hR.2.1 (fun t ht hW => ⟨⟨some (.int v), ws, rfl, hp, ht ▸ hP, va_K.moved hW.alike C.2.2.2.2.2.1, hD⟩, hS.F ht⟩) hS.2.2 hdg hR.2.2
theorem r_zret (C : Cx X cc own nL D tys A lev cM sM) {post : Option Value → va_W → Prop} {v : Int32} {ty : FieldType} (hn : narrow ty (.int v) = .int v) (hR : Rt X (some ty) D tys A kc ks post) (hdg : decode cc pc = .ok (.ireturn, 1)) (hp : post (some (.int v)) ws) : At X D A nL kc ks pc lv [.int v] ws := by
  intro H locs ls hP hD hS hl
  rw [hR.1]
  exact W.zret C.1 C.2.1 hR.2.1 hn (fun t ht hW => ⟨⟨some (.int v), ws, rfl, hp, ht ▸ hP, va_K.moved hW.alike C.2.2.2.2.2.1, hD⟩, hS.F ht⟩) hS.2.2 hdg hR.2.2
theorem r_lret (C : Cx X cc own nL D tys A lev cM sM) {post : Option Value → va_W → Prop} {v : Int64} (hR : Rt X (some .long) D tys A kc ks post) (hdg : decode cc pc = .ok (.lreturn, 1)) (hp : post (some (.long v)) ws) : At X D A nL kc ks pc lv [.long v] ws := by
  intro H locs ls hP hD hS hl
  rw [hR.1]
  exact W.lret C.1 C.2.1 hR.2.1 (fun t ht hW => ⟨⟨some (.long v), ws, rfl, hp, ht ▸ hP, va_K.moved hW.alike C.2.2.2.2.2.1, hD⟩, hS.F ht⟩) hS.2.2 hdg hR.2.2
theorem r_vret (C : Cx X cc own nL D tys A lev cM sM) {post : Option Value → va_W → Prop} (hR : Rt X none D tys A kc ks post) (hdg : decode cc pc = .ok (.return_, 1)) (hp : post none ws) : At X D A nL kc ks pc lv [] ws := by
  intro H locs ls hP hD hS hl
  rw [hR.1]
  exact W.vret C.1 C.2.1 hR.2.1 (fun t ht hW => ⟨⟨none, ws, rfl, hp, ht ▸ hP, va_K.moved hW.alike C.2.2.2.2.2.1, hD⟩, hS.F ht⟩) hS.2.2 hdg hR.2.2
/-- lcmp and the branch behind it -/
theorem r_lif_lt (C : Cx X cc own nL D tys A lev cM sM) {x y : Int64} {off : Int} {tgt : Nat} (h1 : decode cc pc = .ok (.lcmp, 1)) (h2 : decode cc (pc + 1) = .ok (.ifCond .lt off, 3)) (ht : ((pc + 1 : Nat) : Int) + off = (tgt : Int)) (kt : x < y → At X D A nL kc ks tgt lv st ws) (kf : ¬ x < y → At X D A nL kc ks (pc + 4) lv st ws) : At X D A nL kc ks pc lv (.long y :: .long x :: st) ws :=
  r_lcmp C h1 (r_if_lt C h2 ht (fun h => kt ((lg_cmp_lt x y).mp h)) (fun h => kf (fun g => h ((lg_cmp_lt x y).mpr g))))
theorem r_lif_le (C : Cx X cc own nL D tys A lev cM sM) {x y : Int64} {off : Int} {tgt : Nat} (h1 : decode cc pc = .ok (.lcmp, 1)) (h2 : decode cc (pc + 1) = .ok (.ifCond .le off, 3)) (ht : ((pc + 1 : Nat) : Int) + off = (tgt : Int)) (kt : x ≤ y → At X D A nL kc ks tgt lv st ws) (kf : ¬ x ≤ y → At X D A nL kc ks (pc + 4) lv st ws) : At X D A nL kc ks pc lv (.long y :: .long x :: st) ws :=
  r_lcmp C h1 (r_if_le C h2 ht (fun h => kt ((lg_cmp_le x y).mp h)) (fun h => kf (fun g => h ((lg_cmp_le x y).mpr g))))
theorem r_lif_gt (C : Cx X cc own nL D tys A lev cM sM) {x y : Int64} {off : Int} {tgt : Nat} (h1 : decode cc pc = .ok (.lcmp, 1)) (h2 : decode cc (pc + 1) = .ok (.ifCond .gt off, 3)) (ht : ((pc + 1 : Nat) : Int) + off = (tgt : Int)) (kt : y < x → At X D A nL kc ks tgt lv st ws) (kf : ¬ y < x → At X D A nL kc ks (pc + 4) lv st ws) : At X D A nL kc ks pc lv (.long y :: .long x :: st) ws :=
  r_lcmp C h1 (r_if_gt C h2 ht (fun h => kt ((lg_cmp_gt x y).mp h)) (fun h => kf (fun g => h ((lg_cmp_gt x y).mpr g))))
theorem r_lif_ge (C : Cx X cc own nL D tys A lev cM sM) {x y : Int64} {off : Int} {tgt : Nat} (h1 : decode cc pc = .ok (.lcmp, 1)) (h2 : decode cc (pc + 1) = .ok (.ifCond .ge off, 3)) (ht : ((pc + 1 : Nat) : Int) + off = (tgt : Int)) (kt : y ≤ x → At X D A nL kc ks tgt lv st ws) (kf : ¬ y ≤ x → At X D A nL kc ks (pc + 4) lv st ws) : At X D A nL kc ks pc lv (.long y :: .long x :: st) ws :=
  r_lcmp C h1 (r_if_ge C h2 ht (fun h => kt ((lg_cmp_ge x y).mp h)) (fun h => kf (fun g => h ((lg_cmp_ge x y).mpr g))))
theorem r_lif_eq (C : Cx X cc own nL D tys A lev cM sM) {x y : Int64} {off : Int} {tgt : Nat} (h1 : decode cc pc = .ok (.lcmp, 1)) (h2 : decode cc (pc + 1) = .ok (.ifCond .eq off, 3)) (ht : ((pc + 1 : Nat) : Int) + off = (tgt : Int)) (kt : x = y → At X D A nL kc ks tgt lv st ws) (kf : ¬ x = y → At X D A nL kc ks (pc + 4) lv st ws) : At X D A nL kc ks pc lv (.long y :: .long x :: st) ws :=
  r_lcmp C h1 (r_if_eq C h2 ht (fun h => kt ((lg_cmp_eq x y).mp h)) (fun h => kf (fun g => h ((lg_cmp_eq x y).mpr g))))
theorem r_lif_ne (C : Cx X cc own nL D tys A lev cM sM) {x y : Int64} {off : Int} {tgt : Nat} (h1 : decode cc pc = .ok (.lcmp, 1)) (h2 : decode cc (pc + 1) = .ok (.ifCond .ne off, 3)) (ht : ((pc + 1 : Nat) : Int) + off = (tgt : Int)) (kt : ¬ x = y → At X D A nL kc ks tgt lv st ws) (kf : x = y → At X D A nL kc ks (pc + 4) lv st ws) : At X D A nL kc ks pc lv (.long y :: .long x :: st) ws :=
  r_lcmp C h1 (r_if_ne C h2 ht (fun h => kt (fun g => h ((lg_cmp_eq x y).mpr g))) (fun h => kf ((lg_cmp_eq x y).mp h)))
end Heap
/-- the statics stay where nothing of A is theirs -/
theorem Stt.sub {A B : Nat → Prop} {u : State} {H0 H : Heap} {locs : List Loc} (hS : va_S A H0 H locs) (hAB : ∀ q, B q → A q) (h : Stt A u H0) : Stt B u H := by
  obtain ⟨⟨t1, a1, b1⟩, ⟨t2, a2, b2⟩, ⟨t3, a3, b3⟩⟩ := h
  have kz : ∀ {C n d : String} {v : Value}, va_Z C n d v A u H0 → va_Z C n d v B u H := by
    intro C n d v hz
    obtain ⟨cf, kf, fi, f, a, ce, h1, h2, h3, h4, h5, h6, h7, h8⟩ := hz
    exact ⟨cf, kf, fi, f, a, ce, h1, h2, h3, h4, (hS.2.1 a (Array.getElem?_eq_some_iff.mp h5).1 h8).trans h5, h6, h7, fun hb => h8 (hAB _ hb)⟩
  have kt : ∀ {ty : FieldType} {t N : Nat} {f : Nat → Value}, va_T ty t N f A u H0 → va_T ty t N f B u H := by
    intro ty t N f hz
    obtain ⟨ce, h1, h2, h3, h4, h5, h6, h7⟩ := hz
    exact ⟨ce, (hS.2.1 t (Array.getElem?_eq_some_iff.mp h1).1 h7).trans h1, h2, h3, h4, h5, h6, fun hb => h7 (hAB _ hb)⟩
  exact ⟨⟨t1, kz a1, kt b1⟩, ⟨t2, kz a2, kt b2⟩, ⟨t3, kz a3, kt b3⟩⟩
/-- the words of a method that is called on an object; of a static one -/
def MV (y : MethodName) (cc : ByteArray) (nL : Nat) (ret : Option FieldType) (C : String) (n : Nat) : Prop :=
  Cond.instanceMethod y ∈ gT ∧ Cond.selects C y y ∈ gT ∧ Cond.initialized C ∈ gT ∧ Cond.code y cc nL ret ∈ gT ∧ (y.cls = C ∧ y.cls ≠ "java/lang/invoke/MethodHandle" ∧ y.cls ≠ "java/lang/invoke/VarHandle" ∧ (parseMethodDescriptor y.desc).map (fun d => d.parameters.length) = some n)
def MS_ (y : MethodName) (cc : ByteArray) (nL : Nat) (ret : Option FieldType) (n : Nat) : Prop :=
  Cond.static y ∈ gT ∧ Cond.initialized y.cls ∈ gT ∧ Cond.code y cc nL ret ∈ gT ∧ (y.cls ≠ "java/lang/invoke/MethodHandle" ∧ y.cls ≠ "java/lang/invoke/VarHandle" ∧ (parseMethodDescriptor y.desc).map (fun d => d.parameters.length) = some n)
section Calls5
variable {X : CX} {cc : ByteArray} {own : String} {nL : Nat} {D : va_G} {tys : List (ClassId × FieldType)} {A : Nat → Prop} {lev cM sM kc ks pc : Nat} {lv lv' : List (Nat × Value)} {st stk : List Value} {ws ws' wc wr : va_W}
variable {y : MethodName} {cc' : ByteArray} {nL' lev' mc ms idx n : Nat} {ret : Option FieldType} {as : List Value} {post : Option Value → va_W → Prop} {CC : String} {b : Nat}
set_option maxHeartbeats 2000000 in
/-- behind a call -/
theorem r_back (hC0 : Cx X cc own nL D tys A lev cM sM) (isC isR : List Nat) (hC : isC.map (fun i => ws[i]?) = wc.map some) (hR : isR.map (fun i => ws[i]?) = wr.map some) (hn : va_nd isR = true) (hdis : ∀ i ∈ isR, i ∉ isC) {aa : Array Value}
    {H : Heap} {locs : List Loc} {ls : Array Slot} (hP : va_P D vwCl ws H) (hD : va_D A ws) (hS : va_S A X.1.2.2.2.2.heap H locs) (hl : lv_has ls nL lv)
    (hrun : va_Run X.1.1 X.1.2.1 X.1.2.2.1 X.1.2.2.2.1 X.1.2.2.2.2 X.2.1.1 X.2.1.2.1 X.2.1.2.2.1 X.2.1.2.2.2.1 X.2.1.2.2.2.2 H locs kc ks mc ms (F0 X.2.1.1 pc ls stk) st (gQ post D tys (va_A wc H.size) aa) (va_A wc H.size))
    (k : ∀ (v : Option Value) (w : va_W), post v w → At X D A nL (kc + mc) (ks + ms) (pc + 3) lv (v.toList ++ st) (wr ++ w)) :
    W X.1.1 X.1.2.1 X.1.2.2.1 X.1.2.2.2.1 X.1.2.2.2.2 X.2.1.1 X.2.1.2.1 X.2.1.2.2.1 X.2.1.2.2.2.1 X.2.1.2.2.2.2 H locs kc ks X.2.2 (F0 X.2.1.1 pc ls stk) := by
  intro T hT XX
  have hFc := va_free (wc := wc) hD hS hC0.2.2.2.2.2.2.1 isC hC
  obtain ⟨v, st₀, t, T', L, h0, X', hL, e1, e2, ⟨⟨v', w, hv, hp, hPw, hKw, hDw⟩, hz, hk⟩, stp⟩ := hrun T hT XX
  cases hv
  rw [h0] at hz hk
  obtain ⟨hP1, hD1⟩ := va_join hP hD isC isR hC hR hn hdis (H1 := t.heap) hk hFc hPw hDw
  obtain ⟨t2, a1, b1⟩ := k v w hp T'.heap (locs ++ L) ls (e1 ▸ hP1) hD1
    ⟨Nat.le_trans hS.1 (by rw [e1]; exact hz), fun q h1 h2 => by rw [e1, hk q (Nat.lt_of_lt_of_le h1 hS.1) (fun z => h2 (hFc q z))]; exact hS.2.1 q h1 h2, fun q hq => by
      rcases List.mem_append.mp hq with h | h
      · exact hS.2.2 q h
      · exact hFc _ (hL q h)⟩ hl T' rfl X'
  exact ⟨t2, stp t2 a1, b1⟩
set_option maxHeartbeats 2000000 in
theorem r_callV (C : Cx X cc own nL D tys A lev cM sM) (hM : Con y cc' nL' ret lev' mc ms D tys (.ref b :: as) wc post) (hw : MV y cc' nL' ret CC n) (hlk : Cond.methodLink own idx y ∈ gT) (hlev : lev' + 1 ≤ lev) (hnL : nL' ≤ 21) (hcap : kc + mc ≤ cM ∧ ks + ms ≤ sM)
    {q0 ci : Nat} {fs : List Value} {T : u_T} {N : Nat} (hrc : vwCl[ci]? = some (CC, T, N)) (hre : wc[q0]? = some (b, .inr (ci, fs)))
    (isC isR : List Nat) (hC : isC.map (fun i => ws[i]?) = wc.map some) (hCf : isC.filterMap (fun i => ws[i]?) = wc) (hCn : va_nd isC = true) (hR : isR.map (fun i => ws[i]?) = wr.map some) (hnd : va_nd isR = true) (hdis : ∀ i ∈ isR, i ∉ isC)
    (hn : as.length = n) (hstk : stk = as.reverse ++ .ref b :: st) (hW : (st.map fun v => v.category).sum ≤ 8) (hdg : decode cc pc = .ok (.invokevirtual idx, 3))
    (k : ∀ (v : Option Value) (w : va_W), post v w → At X D A nL (kc + mc) (ks + ms) (pc + 3) lv (v.toList ++ st) (wr ++ w)) : At X D A nL kc ks pc lv stk ws := by
  intro H locs ls hP hD hS hl
  have hPc := hP.sub (ws' := wc) isC hCf
  have hDc := hD.sub (ws' := wc) isC hCn hC
  have hFc := va_free (wc := wc) hD hS C.2.2.2.2.2.2.1 isC hC
  obtain ⟨hx, hb, hml, hown, hts, hK, hA, hf1, hf2, hc1, hc2, hSt⟩ := C
  obtain ⟨w1, w2, w3, w4, w5⟩ := hw
  have hG : GoodIn gT (wsV own idx CC y (Cond.code y cc' nL' ret :: gT)) := by
    intro w h
    rcases List.mem_append.mp h with h | h
    · simp only [List.mem_cons, List.not_mem_nil, or_false] at h
      rcases h with rfl | rfl | rfl | rfl
      · exact gT_self _ hlk
      · exact gT_self _ w1
      · exact gT_self _ w2
      · exact gT_self _ w3
    · exact gT_c w4 w h
  refine r_back ⟨hx, hb, hml, hown, hts, hK, hA, hf1, hf2, hc1, hc2, hSt⟩ isC isR hC hR hnd hdis hP hD hS hl (va_runV (g := F0 X.2.1.1 pc ls stk) (As := as) ⟨hx, hb, hml, hown, hts⟩ (hM X.1.2.1 H.size) (cwV n hts hG rfl rfl rfl w5 ⟨by show lev' + 1 ≤ _; omega, by show 8 + (nL' + 11) + 40 * lev' ≤ _; omega⟩) ⟨gB_blind, va_recv hK hPc hrc hre, fun U hU hWm => ⟨rfl, by rw [hU], by rw [hU]; exact hPc, va_K.moved hWm.alike hK, hDc.weaken (fun _ _ _ _ => trivial), ?_⟩⟩ rfl hn hl.1 hstk (lv_room hW) hdg ⟨by rw [hc1]; exact hcap.1, by rw [hc2]; exact hcap.2⟩) k
  rw [hU]
  exact (Stt.sub hS hFc hSt).moved hWm.alike
set_option maxHeartbeats 2000000 in
theorem r_callS (C : Cx X cc own nL D tys A lev cM sM) (hM : Con y cc' nL' ret lev' mc ms D tys as wc post) (hw : MS_ y cc' nL' ret n) (hlk : Cond.methodLink own idx y ∈ gT) (hlev : lev' + 1 ≤ lev) (hnL : nL' ≤ 21) (hcap : kc + mc ≤ cM ∧ ks + ms ≤ sM)
    (isC isR : List Nat) (hC : isC.map (fun i => ws[i]?) = wc.map some) (hCf : isC.filterMap (fun i => ws[i]?) = wc) (hCn : va_nd isC = true) (hR : isR.map (fun i => ws[i]?) = wr.map some) (hnd : va_nd isR = true) (hdis : ∀ i ∈ isR, i ∉ isC)
    (hn : as.length = n) (hstk : stk = as.reverse ++ st) (hW : (st.map fun v => v.category).sum ≤ 8) (hdg : decode cc pc = .ok (.invokestatic idx, 3))
    (k : ∀ (v : Option Value) (w : va_W), post v w → At X D A nL (kc + mc) (ks + ms) (pc + 3) lv (v.toList ++ st) (wr ++ w)) : At X D A nL kc ks pc lv stk ws := by
  intro H locs ls hP hD hS hl
  have hPc := hP.sub (ws' := wc) isC hCf
  have hDc := hD.sub (ws' := wc) isC hCn hC
  have hFc := va_free (wc := wc) hD hS C.2.2.2.2.2.2.1 isC hC
  obtain ⟨hx, hb, hml, hown, hts, hK, hA, hf1, hf2, hc1, hc2, hSt⟩ := C
  obtain ⟨w1, w2, w3, w4⟩ := hw
  have hG : GoodIn gT (va_wsS own idx y (Cond.code y cc' nL' ret :: gT)) := by
    intro w h
    rcases List.mem_append.mp h with h | h
    · simp only [List.mem_cons, List.not_mem_nil, or_false] at h
      rcases h with rfl | rfl | rfl
      · exact gT_self _ hlk
      · exact gT_self _ w1
      · exact gT_self _ w2
    · exact gT_c w3 w h
  refine r_back ⟨hx, hb, hml, hown, hts, hK, hA, hf1, hf2, hc1, hc2, hSt⟩ isC isR hC hR hnd hdis hP hD hS hl (va_runS (g := F0 X.2.1.1 pc ls stk) (As := as) ⟨hx, hb, hml, hown, hts⟩ (hM X.1.2.1 H.size) (va_cwS n hts hG rfl rfl rfl w4 ⟨by show lev' + 1 ≤ _; omega, by show 8 + (nL' + 11) + 40 * lev' ≤ _; omega⟩) ⟨gB_blind, fun U hU hWm => ⟨rfl, by rw [hU], by rw [hU]; exact hPc, va_K.moved hWm.alike hK, hDc.weaken (fun _ _ _ _ => trivial), ?_⟩⟩ rfl hn hl.1 hstk (lv_room hW) hdg ⟨by rw [hc1]; exact hcap.1, by rw [hc2]; exact hcap.2⟩) k
  rw [hU]
  exact (Stt.sub hS hFc hSt).moved hWm.alike
end Calls5
/-! loops: a body over what comes behind it, and as often as it goes -/
def lp {V R : Type} (d : R) (body : (V → R) → V → R) : Nat → V → R
  | 0, _ => d
  | n + 1, v => body (lp d body n) v
def lpOk {V : Type} (ok : (V → Prop) → V → Prop) : Nat → V → Prop
  | 0, _ => False
  | n + 1, v => ok (lpOk ok n) v
theorem lp_rule {V R : Type} {d : R} {body : (V → R) → V → R} {ok : (V → Prop) → V → Prop} (Wt : V → R → Prop) (h : ∀ (kR : V → R) (kO : V → Prop), (∀ v, kO v → Wt v (kR v)) → ∀ v, ok kO v → Wt v (body kR v)) : ∀ (n : Nat) (v : V), lpOk ok n v → Wt v (lp d body n v)
  | 0, _, hk => hk.elim
  | n + 1, v, hk => h (lp d body n) (lpOk ok n) (fun v hv => lp_rule Wt h n v hv) v hk
/-- the state of an object: its ints, its longs, its arrays of ints, of longs, by their slots -/
abbrev OS : Type := (Nat → Int32) × (Nat → Int64) × (Nat → Nat → Int32) × (Nat → Nat → Int64)
def oI (σ : OS) (k : Nat) (v : Int32) : OS := (va_up σ.1 k v, σ.2)
def oL (σ : OS) (k : Nat) (v : Int64) : OS := (σ.1, va_up σ.2.1 k v, σ.2.2)
def oS (σ : OS) (k i : Nat) (x : Int32) : OS := (σ.1, σ.2.1, va_up σ.2.2.1 k (upd (σ.2.2.1 k) i x), σ.2.2.2)
def oT (σ : OS) (k i : Nat) (x : Int64) : OS := (σ.1, σ.2.1, σ.2.2.1, va_up σ.2.2.2 k (vp_updL (σ.2.2.2 k) i x))
/-- ends: of a static method, of one that changes nothing of its world, of one that makes a world anew -/
abbrev eI (w : va_W) (r : Int32) : Option Value → va_W → Prop := fun v u => v = some (.int r) ∧ u = w
abbrev eL (w : va_W) (r : Int64) : Option Value → va_W → Prop := fun v u => v = some (.long r) ∧ u = w
abbrev eV (w : va_W) : Option Value → va_W → Prop := fun v u => v = none ∧ u = w
end
section
/-! calls of the usual forms: a static method that has no world; a method of the same object; kinds of objects -/
abbrev gty (cy : Nat → ClassId) : List (ClassId × FieldType) := [(cy 0, .int), (cy 1, .long), (cy 2, .boolean), (cy 3, .object RX1), (cy 4, .object RX2)]
abbrev bz (v : Int32) : Prop := narrow .boolean (.int v) = .int v
def fu : Nat := 1000
def o0 : OS := (fun _ => 0, fun _ => 0, fun _ _ => 0, fun _ _ => 0)
section Calls6
variable {X : CX} {cc : ByteArray} {own : String} {nL : Nat} {D : va_G} {tys : List (ClassId × FieldType)} {A : Nat → Prop} {lev cM sM kc ks pc : Nat} {lv lv' : List (Nat × Value)} {st stk : List Value} {ws ws' w' : va_W}
variable {y : MethodName} {cc' : ByteArray} {nL' lev' idx n : Nat} {ret : Option FieldType} {as : List Value} {CC : String} {b : Nat}
theorem va_nd_range' (n : Nat) : ∀ k, va_nd ((List.range' k n)) = true := by
  induction n with
  | zero => intro k; rfl
  | succ n ih =>
    intro k
    rw [List.range'_succ]
    simp only [va_nd, ih, Bool.and_true]
    simp
theorem all_places (ws : va_W) : (List.range ws.length).map (fun i => ws[i]?) = ws.map some := by
  apply List.ext_getElem?
  intro i
  simp only [List.getElem?_map, List.getElem?_range']
  by_cases h : i < ws.length
  · simp [h]
  · simp [h, List.getElem?_eq_none (Nat.not_lt.mp h)]
theorem all_places_f (ws : va_W) : (List.range ws.length).filterMap (fun i => ws[i]?) = ws := by
  have h := all_places ws
  have h2 : (List.range ws.length).filterMap (fun i => ws[i]?) = ((List.range ws.length).map (fun i => ws[i]?)).filterMap id := by
    rw [List.filterMap_map]; rfl
  rw [h2, h]
  simp
theorem va_nd_range (n : Nat) : va_nd (List.range n) = true := by rw [List.range_eq_range']; exact va_nd_range' n 0
theorem r_s0I {r : Int32} (C : Cx X cc own nL D tys A lev cM sM) (hM : Con y cc' nL' ret lev' 0 0 D tys as [] (eI [] r)) (hw : MS_ y cc' nL' ret n) (hlk : Cond.methodLink own idx y ∈ gT) (hlev : lev' + 1 ≤ lev) (hnL : nL' ≤ 21) (hcap : kc ≤ cM ∧ ks ≤ sM)
    (hn : as.length = n) (hstk : stk = as.reverse ++ st) (hW : (st.map fun v => v.category).sum ≤ 8) (hdg : decode cc pc = .ok (.invokestatic idx, 3)) (k : At X D A nL kc ks (pc + 3) lv (.int r :: st) ws) : At X D A nL kc ks pc lv stk ws :=
  r_callS C hM hw hlk hlev hnL hcap [] (List.range ws.length) rfl rfl rfl (all_places ws) (va_nd_range _) (fun _ _ h => by simp at h) hn hstk hW hdg (fun v w hp => by obtain ⟨rfl, rfl⟩ := hp; rw [List.append_nil]; exact k)
theorem r_s0L {r : Int64} (C : Cx X cc own nL D tys A lev cM sM) (hM : Con y cc' nL' ret lev' 0 0 D tys as [] (eL [] r)) (hw : MS_ y cc' nL' ret n) (hlk : Cond.methodLink own idx y ∈ gT) (hlev : lev' + 1 ≤ lev) (hnL : nL' ≤ 21) (hcap : kc ≤ cM ∧ ks ≤ sM)
    (hn : as.length = n) (hstk : stk = as.reverse ++ st) (hW : (st.map fun v => v.category).sum ≤ 8) (hdg : decode cc pc = .ok (.invokestatic idx, 3)) (k : At X D A nL kc ks (pc + 3) lv (.long r :: st) ws) : At X D A nL kc ks pc lv stk ws :=
  r_callS C hM hw hlk hlev hnL hcap [] (List.range ws.length) rfl rfl rfl (all_places ws) (va_nd_range _) (fun _ _ h => by simp at h) hn hstk hW hdg (fun v w hp => by obtain ⟨rfl, rfl⟩ := hp; rw [List.append_nil]; exact k)
section Self
variable {ci : Nat} {fs : List Value} {T : u_T} {N : Nat}
theorem r_vI {r : Int32} (C : Cx X cc own nL D tys A lev cM sM) (hM : Con y cc' nL' ret lev' 0 0 D tys (.ref b :: as) ws (eI w' r)) (hw : MV y cc' nL' ret CC n) (hlk : Cond.methodLink own idx y ∈ gT) (hlev : lev' + 1 ≤ lev) (hnL : nL' ≤ 21) (hcap : kc ≤ cM ∧ ks ≤ sM)
    (hrc : vwCl[ci]? = some (CC, T, N)) (hre : ws[0]? = some (b, .inr (ci, fs))) (hn : as.length = n) (hstk : stk = as.reverse ++ .ref b :: st) (hW : (st.map fun v => v.category).sum ≤ 8) (hdg : decode cc pc = .ok (.invokevirtual idx, 3)) (k : At X D A nL kc ks (pc + 3) lv (.int r :: st) w') : At X D A nL kc ks pc lv stk ws :=
  r_callV C hM hw hlk hlev hnL hcap hrc hre (List.range ws.length) [] (all_places ws) (all_places_f ws) (va_nd_range _) (wr := []) rfl rfl (fun _ h => by simp at h) hn hstk hW hdg (fun v w hp => by obtain ⟨rfl, rfl⟩ := hp; exact k)
theorem r_vL {r : Int64} (C : Cx X cc own nL D tys A lev cM sM) (hM : Con y cc' nL' ret lev' 0 0 D tys (.ref b :: as) ws (eL w' r)) (hw : MV y cc' nL' ret CC n) (hlk : Cond.methodLink own idx y ∈ gT) (hlev : lev' + 1 ≤ lev) (hnL : nL' ≤ 21) (hcap : kc ≤ cM ∧ ks ≤ sM)
    (hrc : vwCl[ci]? = some (CC, T, N)) (hre : ws[0]? = some (b, .inr (ci, fs))) (hn : as.length = n) (hstk : stk = as.reverse ++ .ref b :: st) (hW : (st.map fun v => v.category).sum ≤ 8) (hdg : decode cc pc = .ok (.invokevirtual idx, 3)) (k : At X D A nL kc ks (pc + 3) lv (.long r :: st) w') : At X D A nL kc ks pc lv stk ws :=
  r_callV C hM hw hlk hlev hnL hcap hrc hre (List.range ws.length) [] (all_places ws) (all_places_f ws) (va_nd_range _) (wr := []) rfl rfl (fun _ h => by simp at h) hn hstk hW hdg (fun v w hp => by obtain ⟨rfl, rfl⟩ := hp; exact k)
theorem r_vV (C : Cx X cc own nL D tys A lev cM sM) (hM : Con y cc' nL' ret lev' 0 0 D tys (.ref b :: as) ws (eV w')) (hw : MV y cc' nL' ret CC n) (hlk : Cond.methodLink own idx y ∈ gT) (hlev : lev' + 1 ≤ lev) (hnL : nL' ≤ 21) (hcap : kc ≤ cM ∧ ks ≤ sM)
    (hrc : vwCl[ci]? = some (CC, T, N)) (hre : ws[0]? = some (b, .inr (ci, fs))) (hn : as.length = n) (hstk : stk = as.reverse ++ .ref b :: st) (hW : (st.map fun v => v.category).sum ≤ 8) (hdg : decode cc pc = .ok (.invokevirtual idx, 3)) (k : At X D A nL kc ks (pc + 3) lv st w') : At X D A nL kc ks pc lv stk ws :=
  r_callV C hM hw hlk hlev hnL hcap hrc hre (List.range ws.length) [] (all_places ws) (all_places_f ws) (va_nd_range _) (wr := []) rfl rfl (fun _ h => by simp at h) hn hstk hW hdg (fun v w hp => by obtain ⟨rfl, rfl⟩ := hp; exact k)
end Self
end Calls6
/-! switches -/
section Sw
variable {X : CX} {cc : ByteArray} {own : String} {nL : Nat} {D : va_G} {tys : List (ClassId × FieldType)} {A : Nat → Prop} {lev cM sM kc ks pc : Nat} {lv : List (Nat × Value)} {st : List Value} {ws : va_W}
theorem r_tsIn (C : Cx X cc own nL D tys A lev cM sM) {dflt lo hi off : Int} {offs : Array Int} {len tgt : Nat} {x : Int32} (j : Int32) (hdg : decode cc pc = .ok (.tableswitch dflt lo hi offs, len)) (hj : x = j) (h1 : ¬ j.toInt < lo) (h2 : ¬ hi < j.toInt) (ho : offs[(j.toInt - lo).toNat]? = some off) (ht : (pc : Int) + off = (tgt : Int)) (k : At X D A nL kc ks tgt lv st ws) : At X D A nL kc ks pc lv (.int x :: st) ws := by
  subst hj
  exact fun H locs ls hP hD hS hl => lv_tableIn C.1 C.2.1 hdg h1 h2 ho ht (k H locs ls hP hD hS hl)
theorem r_tsOut (C : Cx X cc own nL D tys A lev cM sM) {dflt lo hi : Int} {offs : Array Int} {len tgt : Nat} {x : Int32} (hdg : decode cc pc = .ok (.tableswitch dflt lo hi offs, len)) (h : x.toInt < lo ∨ hi < x.toInt) (ht : (pc : Int) + dflt = (tgt : Int)) (k : At X D A nL kc ks tgt lv st ws) : At X D A nL kc ks pc lv (.int x :: st) ws :=
  fun H locs ls hP hD hS hl => lv_tableOut C.1 C.2.1 hdg h ht (k H locs ls hP hD hS hl)
theorem ne_toInt {x j : Int32} (h : ¬ x = j) : ¬ x.toInt = j.toInt := fun g => h (Int32.toInt_inj.mp g)
end Sw
end
section
def tbX6_in : List (Nat × Instr × Nat) := [(0, .lload_n 0, 1), (1, .lload_n 2, 1), (2, .lcmp, 1), (3, .ifCond .lt 14, 3), (6, .lload_n 0, 1), (7, .lload 4, 2), (9, .lcmp, 1), (10, .ifCond .gt 7, 3), (13, .iconst 1, 1), (14, .goto 4, 3), (17, .iconst 0, 1), (18, .ireturn, 1)]
theorem tdX6_in : tbX6_in.all (fun q => decide (decode cX6_in q.1 = .ok q.2)) = true := by decide +kernel
def pX6_in_0  (a0_ : Int64) (a2_ : Int64) (a4_ : Int64) : Int32 := if a0_ < a2_ then 0 else if a4_ < a0_ then 0 else 1
set_option maxHeartbeats 4000000 in
set_option maxRecDepth 100000 in
theorem wX6_in_0 {X : CX} {tys : List (ClassId × FieldType)} {D : va_G} {A : Nat → Prop} {res : Int32} (a0_ : Int64) (a2_ : Int64) (a4_ : Int64) (C : Cx X cX6_in RX6 6 D tys A 0 0 0) (hR : Rt X (some .boolean) D tys A 0 0 (eI ([]) res))  (h : pX6_in_0  a0_ a2_ a4_ = res) : At X D A 6 0 0 0 [(0, .long a0_), (2, .long a2_), (4, .long a4_)] [] (([] : va_W)) := by
  unfold pX6_in_0 at h
  refine r_lload_n C 0 (dall tdX6_in 0 rfl) rfl ?_
  refine r_lload_n C 1 (dall tdX6_in 1 rfl) rfl ?_
  refine r_lif_lt (tgt := 17) C (dall tdX6_in 2 rfl) (dall tdX6_in 3 rfl) (by decide) (fun c1 => ?_) (fun c1 => ?_)
  · have h := (if_pos c1).symm.trans h
    refine r_iconst (v := 0) C (dall tdX6_in 10 rfl) (by decide) ?_
    exact r_zret C (by decide) hR (dall tdX6_in 11 rfl) (by subst h; exact ⟨rfl, rfl⟩)
  · have h := (if_neg c1).symm.trans h
    refine r_lload_n C 0 (dall tdX6_in 4 rfl) rfl ?_
    refine r_lload C 2 (dall tdX6_in 5 rfl) rfl ?_
    refine r_lif_gt (tgt := 17) C (dall tdX6_in 6 rfl) (dall tdX6_in 7 rfl) (by decide) (fun c2 => ?_) (fun c2 => ?_)
    · have h := (if_pos c2).symm.trans h
      refine r_iconst (v := 0) C (dall tdX6_in 10 rfl) (by decide) ?_
      exact r_zret C (by decide) hR (dall tdX6_in 11 rfl) (by subst h; exact ⟨rfl, rfl⟩)
    · have h := (if_neg c2).symm.trans h
      refine r_iconst (v := 1) C (dall tdX6_in 8 rfl) (by decide) ?_
      refine r_goto (tgt := 18) C (dall tdX6_in 9 rfl) (by decide) ?_
      exact r_zret C (by decide) hR (dall tdX6_in 11 rfl) (by subst h; exact ⟨rfl, rfl⟩)
def fX6_in (a0_ : Int64) (a2_ : Int64) (a4_ : Int64) : Int32 := pX6_in_0  a0_ a2_ a4_
set_option maxRecDepth 100000 in
theorem zX6_in (a0_ : Int64) (a2_ : Int64) (a4_ : Int64) {D : va_G} {tys : List (ClassId × FieldType)} : Con yX6_in cX6_in 6 (some .boolean) 0 0 0 D tys [.long a0_, .long a2_, .long a4_] ([]) (eI ([]) (fX6_in a0_ a2_ a4_)) :=
  Con.of (own := RX6) (by decide +kernel) rfl (Nat.le_of_ble_eq_true rfl) (Nat.zero_le _) (fun X A C hR _ => (wX6_in_0 a0_ a2_ a4_ C hR  rfl))
theorem ms_X6_in : MS_ yX6_in cX6_in 6 (some .boolean) 3 := ⟨ks_X6_in, kn_X6, kc_X6_in, by decide +kernel⟩
def tbX6_within : List (Nat × Instr × Nat) := [(0, .iload_n 0, 1), (1, .iload_n 1, 1), (2, .if_icmp .ge 7, 3), (5, .iload_n 1, 1), (6, .goto 13, 3), (9, .iload_n 0, 1), (10, .iload_n 2, 1), (11, .if_icmp .le 7, 3), (14, .iload_n 2, 1), (15, .goto 4, 3), (18, .iload_n 0, 1), (19, .ireturn, 1)]
theorem tdX6_within : tbX6_within.all (fun q => decide (decode cX6_within q.1 = .ok q.2)) = true := by decide +kernel
def pX6_within_0  (a0_ : Int32) (a1_ : Int32) (a2_ : Int32) : Int32 := if a1_ ≤ a0_ then if a0_ ≤ a2_ then a0_ else a2_ else a1_
set_option maxHeartbeats 4000000 in
set_option maxRecDepth 100000 in
theorem wX6_within_0 {X : CX} {tys : List (ClassId × FieldType)} {D : va_G} {A : Nat → Prop} {res : Int32} (a0_ : Int32) (a1_ : Int32) (a2_ : Int32) (C : Cx X cX6_within RX6 3 D tys A 0 0 0) (hR : Rt X (some .int) D tys A 0 0 (eI ([]) res))  (h : pX6_within_0  a0_ a1_ a2_ = res) : At X D A 3 0 0 0 [(0, .int a0_), (1, .int a1_), (2, .int a2_)] [] (([] : va_W)) := by
  unfold pX6_within_0 at h
  refine r_iload_n C 0 (dall tdX6_within 0 rfl) rfl ?_
  refine r_iload_n C 1 (dall tdX6_within 1 rfl) rfl ?_
  refine r_icmp_ge (tgt := 9) C (dall tdX6_within 2 rfl) (by decide) (fun c1 => ?_) (fun c1 => ?_)
  · have h := (if_pos c1).symm.trans h
    refine r_iload_n C 0 (dall tdX6_within 5 rfl) rfl ?_
    refine r_iload_n C 2 (dall tdX6_within 6 rfl) rfl ?_
    refine r_icmp_le (tgt := 18) C (dall tdX6_within 7 rfl) (by decide) (fun c2 => ?_) (fun c2 => ?_)
    · have h := (if_pos c2).symm.trans h
      refine r_iload_n C 0 (dall tdX6_within 10 rfl) rfl ?_
      exact r_iret C hR (dall tdX6_within 11 rfl) (by subst h; exact ⟨rfl, rfl⟩)
    · have h := (if_neg c2).symm.trans h
      refine r_iload_n C 2 (dall tdX6_within 8 rfl) rfl ?_
      refine r_goto (tgt := 19) C (dall tdX6_within 9 rfl) (by decide) ?_
      exact r_iret C hR (dall tdX6_within 11 rfl) (by subst h; exact ⟨rfl, rfl⟩)
  · have h := (if_neg c1).symm.trans h
    refine r_iload_n C 1 (dall tdX6_within 3 rfl) rfl ?_
    refine r_goto (tgt := 19) C (dall tdX6_within 4 rfl) (by decide) ?_
    exact r_iret C hR (dall tdX6_within 11 rfl) (by subst h; exact ⟨rfl, rfl⟩)
def fX6_within (a0_ : Int32) (a1_ : Int32) (a2_ : Int32) : Int32 := pX6_within_0  a0_ a1_ a2_
set_option maxRecDepth 100000 in
theorem zX6_within (a0_ : Int32) (a1_ : Int32) (a2_ : Int32) {D : va_G} {tys : List (ClassId × FieldType)} : Con yX6_within cX6_within 3 (some .int) 0 0 0 D tys [.int a0_, .int a1_, .int a2_] ([]) (eI ([]) (fX6_within a0_ a1_ a2_)) :=
  Con.of (own := RX6) (by decide +kernel) rfl (Nat.le_of_ble_eq_true rfl) (Nat.zero_le _) (fun X A C hR _ => (wX6_within_0 a0_ a1_ a2_ C hR  rfl))
theorem ms_X6_within : MS_ yX6_within cX6_within 3 (some .int) 3 := ⟨ks_X6_within, kn_X6, kc_X6_within, by decide +kernel⟩
def tbX6_isCell : List (Nat × Instr × Nat) := [(0, .iload_n 0, 1), (1, .i2l, 1), (2, .lconst 0, 1), (3, .ldc2_w 78, 3), (6, .invokestatic 74, 3), (9, .ireturn, 1)]
theorem tdX6_isCell : tbX6_isCell.all (fun q => decide (decode cX6_isCell q.1 = .ok q.2)) = true := by decide +kernel
def pX6_isCell_0  (a0_ : Int32) : Int32 := fX6_in a0_.toInt64 0 (63)
def oX6_isCell_0  (a0_ : Int32) : Prop := narrow .boolean (.int (fX6_in a0_.toInt64 0 (63))) = .int (fX6_in a0_.toInt64 0 (63))
set_option maxHeartbeats 4000000 in
set_option maxRecDepth 100000 in
theorem wX6_isCell_0 {X : CX} {tys : List (ClassId × FieldType)} {D : va_G} {A : Nat → Prop} {res : Int32} (a0_ : Int32) (C : Cx X cX6_isCell RX6 1 D tys A 1 0 0) (hR : Rt X (some .boolean) D tys A 0 0 (eI ([]) res))  (ok : oX6_isCell_0  a0_) (h : pX6_isCell_0  a0_ = res) : At X D A 1 0 0 0 [(0, .int a0_)] [] (([] : va_W)) := by
  unfold pX6_isCell_0 at h
  unfold oX6_isCell_0 at ok
  refine r_iload_n C 0 (dall tdX6_isCell 0 rfl) rfl ?_
  refine r_i2l C (dall tdX6_isCell 1 rfl) ?_
  refine r_lconst (v := 0) C (dall tdX6_isCell 2 rfl) (by decide) ?_
  refine r_ldc2 C kk_X6_78 (dall tdX6_isCell 3 rfl) ?_
  refine r_s0I (as := [.long a0_.toInt64, .long 0, .long (63)]) C (zX6_in a0_.toInt64 0 (63) ) ms_X6_in km_X6_74 (by decide) (by decide) ⟨Nat.le_refl _, Nat.le_refl _⟩ rfl rfl (Nat.le_of_ble_eq_true rfl) (dall tdX6_isCell 4 rfl) ?_
  have o1 := ok
  exact r_zret C o1 hR (dall tdX6_isCell 5 rfl) (by subst h; exact ⟨rfl, rfl⟩)
def fX6_isCell (a0_ : Int32) : Int32 := pX6_isCell_0  a0_
def gX6_isCell (a0_ : Int32) : Prop := oX6_isCell_0  a0_
set_option maxRecDepth 100000 in
theorem zX6_isCell (a0_ : Int32) (ok : gX6_isCell a0_) {D : va_G} {tys : List (ClassId × FieldType)} : Con yX6_isCell cX6_isCell 1 (some .boolean) 1 0 0 D tys [.int a0_] ([]) (eI ([]) (fX6_isCell a0_)) :=
  Con.of (own := RX6) (by decide +kernel) rfl (Nat.le_of_ble_eq_true rfl) (Nat.zero_le _) (fun X A C hR _ => (wX6_isCell_0 a0_ C hR  ok rfl))
theorem ms_X6_isCell : MS_ yX6_isCell cX6_isCell 1 (some .boolean) 1 := ⟨ks_X6_isCell, kn_X6, kc_X6_isCell, by decide +kernel⟩
def tbX6_bitsOf : List (Nat × Instr × Nat) := [(0, .iconst 0, 1), (1, .istore_n 2, 1), (2, .lload_n 0, 1), (3, .lstore_n 3, 1), (4, .lload_n 3, 1), (5, .lconst 0, 1), (6, .lcmp, 1), (7, .ifCond .eq 15, 3), (10, .iinc 2 1, 3), (13, .lload_n 3, 1), (14, .lload_n 3, 1), (15, .lconst 1, 1), (16, .lsub, 1), (17, .land, 1), (18, .lstore_n 3, 1), (19, .goto (-15), 3), (22, .iload_n 2, 1), (23, .ireturn, 1)]
theorem tdX6_bitsOf : tbX6_bitsOf.all (fun q => decide (decode cX6_bitsOf q.1 = .ok q.2)) = true := by decide +kernel
def bX6_bitsOf_4   (kR4 : Int32 × Int64 → Int32) (v : Int32 × Int64) : Int32 := if v.2 = 0 then v.1 else kR4 (v.1 + 1, v.2 &&& (v.2 - 1))
def kX6_bitsOf_4   (kO4 : Int32 × Int64 → Prop) (v : Int32 × Int64) : Prop := (v.2 = 0 → True) ∧ (¬ (v.2 = 0) → kO4 (v.1 + 1, v.2 &&& (v.2 - 1)))
set_option maxHeartbeats 4000000 in
set_option maxRecDepth 100000 in
theorem wX6_bitsOf_4 {X : CX} {tys : List (ClassId × FieldType)} {D : va_G} {A : Nat → Prop} {res : Int32}  (C : Cx X cX6_bitsOf RX6 5 D tys A 0 0 0) (hR : Rt X (some .int) D tys A 0 0 (eI ([]) res)) (kR4 : Int32 × Int64 → Int32) (kO4 : Int32 × Int64 → Prop) (hk4 : ∀ z, kO4 z → kR4 z = res → At X D A 5 0 0 4 [(2, .int z.1), (3, .long z.2)] [] (([] : va_W))) (v : Int32 × Int64) (ok : kX6_bitsOf_4  kO4 v) (h : bX6_bitsOf_4  kR4 v = res) : At X D A 5 0 0 4 [(2, .int v.1), (3, .long v.2)] [] (([] : va_W)) := by
  unfold bX6_bitsOf_4 at h
  unfold kX6_bitsOf_4 at ok
  refine r_lload_n C 1 (dall tdX6_bitsOf 4 rfl) rfl ?_
  refine r_lconst (v := 0) C (dall tdX6_bitsOf 5 rfl) (by decide) ?_
  refine r_lif_eq (tgt := 22) C (dall tdX6_bitsOf 6 rfl) (dall tdX6_bitsOf 7 rfl) (by decide) (fun c1 => ?_) (fun c1 => ?_)
  · have h := (if_pos c1).symm.trans h
    have ok := ok.1 c1
    refine r_iload_n C 0 (dall tdX6_bitsOf 16 rfl) rfl ?_
    exact r_iret C hR (dall tdX6_bitsOf 17 rfl) (by subst h; exact ⟨rfl, rfl⟩)
  · have h := (if_neg c1).symm.trans h
    have ok := ok.2 c1
    refine r_iinc (v := v.1 + 1) (lv' := [(2, .int (v.1 + 1)), (3, .long v.2)]) C 0 (dall tdX6_bitsOf 8 rfl) rfl rfl (by decide) rfl ?_
    refine r_lload_n C 1 (dall tdX6_bitsOf 9 rfl) rfl ?_
    refine r_lload_n C 1 (dall tdX6_bitsOf 10 rfl) rfl ?_
    refine r_lconst (v := 1) C (dall tdX6_bitsOf 11 rfl) (by decide) ?_
    refine r_lsub C (dall tdX6_bitsOf 12 rfl) ?_
    refine r_land C (dall tdX6_bitsOf 13 rfl) ?_
    refine r_lstore_n (lv' := [(3, .long (v.2 &&& (v.2 - 1))), (2, .int (v.1 + 1))]) C (dall tdX6_bitsOf 14 rfl) (by decide) rfl ?_
    refine r_goto (tgt := 4) C (dall tdX6_bitsOf 15 rfl) (by decide) ?_
    refine r_pick [1, 0] rfl ?_
    exact hk4 (v.1 + 1, v.2 &&& (v.2 - 1)) ok h
set_option maxHeartbeats 4000000 in
set_option maxRecDepth 100000 in
theorem lX6_bitsOf_4 {X : CX} {tys : List (ClassId × FieldType)} {D : va_G} {A : Nat → Prop} {res : Int32}  (C : Cx X cX6_bitsOf RX6 5 D tys A 0 0 0) (hR : Rt X (some .int) D tys A 0 0 (eI ([]) res))  (n : Nat) (v : Int32 × Int64) (ok : lpOk (kX6_bitsOf_4  ) n v) (h : lp 0 (bX6_bitsOf_4  ) n v = res) : At X D A 5 0 0 4 [(2, .int v.1), (3, .long v.2)] [] (([] : va_W)) :=
  lp_rule (fun v r => r = res → At X D A 5 0 0 4 [(2, .int v.1), (3, .long v.2)] [] (([] : va_W))) (fun kR kO hk v ok h => wX6_bitsOf_4  C hR  kR kO hk v ok h) n v ok h
def pX6_bitsOf_0  (a0_ : Int64) : Int32 := lp 0 (bX6_bitsOf_4  ) fu (0, a0_)
def oX6_bitsOf_0  (a0_ : Int64) : Prop := lpOk (kX6_bitsOf_4  ) fu (0, a0_)
set_option maxHeartbeats 4000000 in
set_option maxRecDepth 100000 in
theorem wX6_bitsOf_0 {X : CX} {tys : List (ClassId × FieldType)} {D : va_G} {A : Nat → Prop} {res : Int32} (a0_ : Int64) (C : Cx X cX6_bitsOf RX6 5 D tys A 0 0 0) (hR : Rt X (some .int) D tys A 0 0 (eI ([]) res))  (ok : oX6_bitsOf_0  a0_) (h : pX6_bitsOf_0  a0_ = res) : At X D A 5 0 0 0 [(0, .long a0_)] [] (([] : va_W)) := by
  unfold pX6_bitsOf_0 at h
  unfold oX6_bitsOf_0 at ok
  refine r_iconst (v := 0) C (dall tdX6_bitsOf 0 rfl) (by decide) ?_
  refine r_istore_n (lv' := [(2, .int 0), (0, .long a0_)]) C (dall tdX6_bitsOf 1 rfl) (by decide) rfl ?_
  refine r_lload_n C 1 (dall tdX6_bitsOf 2 rfl) rfl ?_
  refine r_lstore_n (lv' := [(3, .long a0_), (2, .int 0), (0, .long a0_)]) C (dall tdX6_bitsOf 3 rfl) (by decide) rfl ?_
  refine r_pick [1, 0] rfl ?_
  exact lX6_bitsOf_4  C hR  fu _ ok h
def fX6_bitsOf (a0_ : Int64) : Int32 := pX6_bitsOf_0  a0_
def gX6_bitsOf (a0_ : Int64) : Prop := oX6_bitsOf_0  a0_
set_option maxRecDepth 100000 in
theorem zX6_bitsOf (a0_ : Int64) (ok : gX6_bitsOf a0_) {D : va_G} {tys : List (ClassId × FieldType)} : Con yX6_bitsOf cX6_bitsOf 5 (some .int) 0 0 0 D tys [.long a0_] ([]) (eI ([]) (fX6_bitsOf a0_)) :=
  Con.of (own := RX6) (by decide +kernel) rfl (Nat.le_of_ble_eq_true rfl) (Nat.zero_le _) (fun X A C hR _ => (wX6_bitsOf_0 a0_ C hR  ok rfl))
theorem ms_X6_bitsOf : MS_ yX6_bitsOf cX6_bitsOf 5 (some .int) 1 := ⟨ks_X6_bitsOf, kn_X6, kc_X6_bitsOf, by decide +kernel⟩
def tbX6_has : List (Nat × Instr × Nat) := [(0, .lload_n 0, 1), (1, .iload_n 2, 1), (2, .lshr, 1), (3, .lconst 1, 1), (4, .land, 1), (5, .lconst 1, 1), (6, .lcmp, 1), (7, .ifCond .ne 7, 3), (10, .iconst 1, 1), (11, .goto 4, 3), (14, .iconst 0, 1), (15, .ireturn, 1)]
theorem tdX6_has : tbX6_has.all (fun q => decide (decode cX6_has q.1 = .ok q.2)) = true := by decide +kernel
def pX6_has_0  (a0_ : Int64) (a2_ : Int32) : Int32 := if ((jshr a0_ a2_) &&& 1) = 1 then 1 else 0
set_option maxHeartbeats 4000000 in
set_option maxRecDepth 100000 in
theorem wX6_has_0 {X : CX} {tys : List (ClassId × FieldType)} {D : va_G} {A : Nat → Prop} {res : Int32} (a0_ : Int64) (a2_ : Int32) (C : Cx X cX6_has RX6 3 D tys A 0 0 0) (hR : Rt X (some .boolean) D tys A 0 0 (eI ([]) res))  (h : pX6_has_0  a0_ a2_ = res) : At X D A 3 0 0 0 [(0, .long a0_), (2, .int a2_)] [] (([] : va_W)) := by
  unfold pX6_has_0 at h
  refine r_lload_n C 0 (dall tdX6_has 0 rfl) rfl ?_
  refine r_iload_n C 1 (dall tdX6_has 1 rfl) rfl ?_
  refine r_lshr C (dall tdX6_has 2 rfl) ?_
  refine r_lconst (v := 1) C (dall tdX6_has 3 rfl) (by decide) ?_
  refine r_land C (dall tdX6_has 4 rfl) ?_
  refine r_lconst (v := 1) C (dall tdX6_has 5 rfl) (by decide) ?_
  refine r_lif_ne (tgt := 14) C (dall tdX6_has 6 rfl) (dall tdX6_has 7 rfl) (by decide) (fun c1 => ?_) (fun c1 => ?_)
  · have h := (if_neg c1).symm.trans h
    refine r_iconst (v := 0) C (dall tdX6_has 10 rfl) (by decide) ?_
    exact r_zret C (by decide) hR (dall tdX6_has 11 rfl) (by subst h; exact ⟨rfl, rfl⟩)
  · have h := (if_pos c1).symm.trans h
    refine r_iconst (v := 1) C (dall tdX6_has 8 rfl) (by decide) ?_
    refine r_goto (tgt := 15) C (dall tdX6_has 9 rfl) (by decide) ?_
    exact r_zret C (by decide) hR (dall tdX6_has 11 rfl) (by subst h; exact ⟨rfl, rfl⟩)
def fX6_has (a0_ : Int64) (a2_ : Int32) : Int32 := pX6_has_0  a0_ a2_
set_option maxRecDepth 100000 in
theorem zX6_has (a0_ : Int64) (a2_ : Int32) {D : va_G} {tys : List (ClassId × FieldType)} : Con yX6_has cX6_has 3 (some .boolean) 0 0 0 D tys [.long a0_, .int a2_] ([]) (eI ([]) (fX6_has a0_ a2_)) :=
  Con.of (own := RX6) (by decide +kernel) rfl (Nat.le_of_ble_eq_true rfl) (Nat.zero_le _) (fun X A C hR _ => (wX6_has_0 a0_ a2_ C hR  rfl))
theorem ms_X6_has : MS_ yX6_has cX6_has 3 (some .boolean) 2 := ⟨ks_X6_has, kn_X6, kc_X6_has, by decide +kernel⟩
def tbX6_mostOf : List (Nat × Instr × Nat) := [(0, .iload_n 0, 1), (1, .ifCond .ne 9, 3), (4, .sipush 999, 3), (7, .goto 24, 3), (10, .iload_n 0, 1), (11, .iconst 1, 1), (12, .if_icmp .ne 8, 3), (15, .bipush 9, 2), (17, .goto 14, 3), (20, .iload_n 0, 1), (21, .iconst 2, 1), (22, .if_icmp .ne 8, 3), (25, .bipush 99, 2), (27, .goto 4, 3), (30, .iconst 1, 1), (31, .ireturn, 1)]
theorem tdX6_mostOf : tbX6_mostOf.all (fun q => decide (decode cX6_mostOf q.1 = .ok q.2)) = true := by decide +kernel
def pX6_mostOf_0  (a0_ : Int32) : Int32 := if a0_ = 0 then 999 else if a0_ = 1 then 9 else if a0_ = 2 then 99 else 1
set_option maxHeartbeats 4000000 in
set_option maxRecDepth 100000 in
theorem wX6_mostOf_0 {X : CX} {tys : List (ClassId × FieldType)} {D : va_G} {A : Nat → Prop} {res : Int32} (a0_ : Int32) (C : Cx X cX6_mostOf RX6 1 D tys A 0 0 0) (hR : Rt X (some .int) D tys A 0 0 (eI ([]) res))  (h : pX6_mostOf_0  a0_ = res) : At X D A 1 0 0 0 [(0, .int a0_)] [] (([] : va_W)) := by
  unfold pX6_mostOf_0 at h
  refine r_iload_n C 0 (dall tdX6_mostOf 0 rfl) rfl ?_
  refine r_if_ne (tgt := 10) C (dall tdX6_mostOf 1 rfl) (by decide) (fun c1 => ?_) (fun c1 => ?_)
  · have h := (if_neg c1).symm.trans h
    refine r_iload_n C 0 (dall tdX6_mostOf 4 rfl) rfl ?_
    refine r_iconst (v := 1) C (dall tdX6_mostOf 5 rfl) (by decide) ?_
    refine r_icmp_ne (tgt := 20) C (dall tdX6_mostOf 6 rfl) (by decide) (fun c2 => ?_) (fun c2 => ?_)
    · have h := (if_neg c2).symm.trans h
      refine r_iload_n C 0 (dall tdX6_mostOf 9 rfl) rfl ?_
      refine r_iconst (v := 2) C (dall tdX6_mostOf 10 rfl) (by decide) ?_
      refine r_icmp_ne (tgt := 30) C (dall tdX6_mostOf 11 rfl) (by decide) (fun c3 => ?_) (fun c3 => ?_)
      · have h := (if_neg c3).symm.trans h
        refine r_iconst (v := 1) C (dall tdX6_mostOf 14 rfl) (by decide) ?_
        exact r_iret C hR (dall tdX6_mostOf 15 rfl) (by subst h; exact ⟨rfl, rfl⟩)
      · have h := (if_pos c3).symm.trans h
        refine r_bipush (v := 99) C (dall tdX6_mostOf 12 rfl) (by decide) ?_
        refine r_goto (tgt := 31) C (dall tdX6_mostOf 13 rfl) (by decide) ?_
        exact r_iret C hR (dall tdX6_mostOf 15 rfl) (by subst h; exact ⟨rfl, rfl⟩)
    · have h := (if_pos c2).symm.trans h
      refine r_bipush (v := 9) C (dall tdX6_mostOf 7 rfl) (by decide) ?_
      refine r_goto (tgt := 31) C (dall tdX6_mostOf 8 rfl) (by decide) ?_
      exact r_iret C hR (dall tdX6_mostOf 15 rfl) (by subst h; exact ⟨rfl, rfl⟩)
  · have h := (if_pos c1).symm.trans h
    refine r_sipush (v := 999) C (dall tdX6_mostOf 2 rfl) (by decide) ?_
    refine r_goto (tgt := 31) C (dall tdX6_mostOf 3 rfl) (by decide) ?_
    exact r_iret C hR (dall tdX6_mostOf 15 rfl) (by subst h; exact ⟨rfl, rfl⟩)
def fX6_mostOf (a0_ : Int32) : Int32 := pX6_mostOf_0  a0_
set_option maxRecDepth 100000 in
theorem zX6_mostOf (a0_ : Int32) {D : va_G} {tys : List (ClassId × FieldType)} : Con yX6_mostOf cX6_mostOf 1 (some .int) 0 0 0 D tys [.int a0_] ([]) (eI ([]) (fX6_mostOf a0_)) :=
  Con.of (own := RX6) (by decide +kernel) rfl (Nat.le_of_ble_eq_true rfl) (Nat.zero_le _) (fun X A C hR _ => (wX6_mostOf_0 a0_ C hR  rfl))
theorem ms_X6_mostOf : MS_ yX6_mostOf cX6_mostOf 1 (some .int) 1 := ⟨ks_X6_mostOf, kn_X6, kc_X6_mostOf, by decide +kernel⟩
def tbX6_greatest : List (Nat × Instr × Nat) := [(0, .iconst (-1), 1), (1, .istore_n 2, 1), (2, .iconst 0, 1), (3, .istore_n 3, 1), (4, .iload_n 3, 1), (5, .bipush 64, 2), (7, .if_icmp .ge 23, 3), (10, .lload_n 0, 1), (11, .iload_n 3, 1), (12, .invokestatic 97, 3), (15, .ifCond .eq 7, 3), (18, .iload_n 3, 1), (19, .goto 4, 3), (22, .iload_n 2, 1), (23, .istore_n 2, 1), (24, .iinc 3 1, 3), (27, .goto (-23), 3), (30, .iload_n 2, 1), (31, .ireturn, 1)]
theorem tdX6_greatest : tbX6_greatest.all (fun q => decide (decode cX6_greatest q.1 = .ok q.2)) = true := by decide +kernel
def pX6_greatest_23 (kR4 : Int32 × Int32 → Int32) (a0_ : Int64) (a3_ : Int32) (b0_ : Int32) : Int32 := kR4 (b0_, a3_ + 1)
def oX6_greatest_23 (kO4 : Int32 × Int32 → Prop) (a0_ : Int64) (a3_ : Int32) (b0_ : Int32) : Prop := kO4 (b0_, a3_ + 1)
set_option maxHeartbeats 4000000 in
set_option maxRecDepth 100000 in
theorem wX6_greatest_23 {X : CX} {tys : List (ClassId × FieldType)} {D : va_G} {A : Nat → Prop} {res : Int32} (a0_ : Int64) (a3_ : Int32) (b0_ : Int32) (C : Cx X cX6_greatest RX6 4 D tys A 1 0 0) (hR : Rt X (some .int) D tys A 0 0 (eI ([]) res)) (kR4 : Int32 × Int32 → Int32) (kO4 : Int32 × Int32 → Prop) (hk4 : ∀ z, kO4 z → kR4 z = res → At X D A 4 0 0 4 [(0, .long a0_), (2, .int z.1), (3, .int z.2)] [] (([] : va_W))) (ok : oX6_greatest_23 kO4 a0_ a3_ b0_) (h : pX6_greatest_23 kR4 a0_ a3_ b0_ = res) : At X D A 4 0 0 23 [(0, .long a0_), (3, .int a3_)] [.int b0_] (([] : va_W)) := by
  unfold pX6_greatest_23 at h
  unfold oX6_greatest_23 at ok
  refine r_istore_n (lv' := [(2, .int b0_), (0, .long a0_), (3, .int a3_)]) C (dall tdX6_greatest 14 rfl) (by decide) rfl ?_
  refine r_iinc (v := a3_ + 1) (lv' := [(3, .int (a3_ + 1)), (2, .int b0_), (0, .long a0_)]) C 2 (dall tdX6_greatest 15 rfl) rfl rfl (by decide) rfl ?_
  refine r_goto (tgt := 4) C (dall tdX6_greatest 16 rfl) (by decide) ?_
  refine r_pick [2, 1, 0] rfl ?_
  exact hk4 (b0_, a3_ + 1) ok h
def bX6_greatest_4 (a0_ : Int64)  (kR4 : Int32 × Int32 → Int32) (v : Int32 × Int32) : Int32 := if 64 ≤ v.2 then v.1 else if (fX6_has a0_ v.2) = 0 then pX6_greatest_23 kR4 a0_ v.2 v.1 else pX6_greatest_23 kR4 a0_ v.2 v.2
def kX6_greatest_4 (a0_ : Int64)  (kO4 : Int32 × Int32 → Prop) (v : Int32 × Int32) : Prop := (64 ≤ v.2 → True) ∧ (¬ (64 ≤ v.2) → ((fX6_has a0_ v.2) = 0 → oX6_greatest_23 kO4 a0_ v.2 v.1) ∧ (¬ ((fX6_has a0_ v.2) = 0) → oX6_greatest_23 kO4 a0_ v.2 v.2))
set_option maxHeartbeats 4000000 in
set_option maxRecDepth 100000 in
theorem wX6_greatest_4 {X : CX} {tys : List (ClassId × FieldType)} {D : va_G} {A : Nat → Prop} {res : Int32} (a0_ : Int64) (C : Cx X cX6_greatest RX6 4 D tys A 1 0 0) (hR : Rt X (some .int) D tys A 0 0 (eI ([]) res)) (kR4 : Int32 × Int32 → Int32) (kO4 : Int32 × Int32 → Prop) (hk4 : ∀ z, kO4 z → kR4 z = res → At X D A 4 0 0 4 [(0, .long a0_), (2, .int z.1), (3, .int z.2)] [] (([] : va_W))) (v : Int32 × Int32) (ok : kX6_greatest_4 a0_ kO4 v) (h : bX6_greatest_4 a0_ kR4 v = res) : At X D A 4 0 0 4 [(0, .long a0_), (2, .int v.1), (3, .int v.2)] [] (([] : va_W)) := by
  unfold bX6_greatest_4 at h
  unfold kX6_greatest_4 at ok
  refine r_iload_n C 2 (dall tdX6_greatest 4 rfl) rfl ?_
  refine r_bipush (v := 64) C (dall tdX6_greatest 5 rfl) (by decide) ?_
  refine r_icmp_ge (tgt := 30) C (dall tdX6_greatest 6 rfl) (by decide) (fun c1 => ?_) (fun c1 => ?_)
  · have h := (if_pos c1).symm.trans h
    have ok := ok.1 c1
    refine r_iload_n C 1 (dall tdX6_greatest 17 rfl) rfl ?_
    exact r_iret C hR (dall tdX6_greatest 18 rfl) (by subst h; exact ⟨rfl, rfl⟩)
  · have h := (if_neg c1).symm.trans h
    have ok := ok.2 c1
    refine r_lload_n C 0 (dall tdX6_greatest 7 rfl) rfl ?_
    refine r_iload_n C 2 (dall tdX6_greatest 8 rfl) rfl ?_
    refine r_s0I (as := [.long a0_, .int v.2]) C (zX6_has a0_ v.2 ) ms_X6_has km_X6_97 (by decide) (by decide) ⟨Nat.le_refl _, Nat.le_refl _⟩ rfl rfl (Nat.le_of_ble_eq_true rfl) (dall tdX6_greatest 9 rfl) ?_
    refine r_if_eq (tgt := 22) C (dall tdX6_greatest 10 rfl) (by decide) (fun c2 => ?_) (fun c2 => ?_)
    · have h := (if_pos c2).symm.trans h
      have ok := ok.1 c2
      refine r_iload_n C 1 (dall tdX6_greatest 13 rfl) rfl ?_
      refine r_pick [0, 2] rfl ?_
      exact wX6_greatest_23 a0_ v.2 v.1 C hR kR4 kO4 hk4 ok h
    · have h := (if_neg c2).symm.trans h
      have ok := ok.2 c2
      refine r_iload_n C 2 (dall tdX6_greatest 11 rfl) rfl ?_
      refine r_goto (tgt := 23) C (dall tdX6_greatest 12 rfl) (by decide) ?_
      refine r_pick [0, 2] rfl ?_
      exact wX6_greatest_23 a0_ v.2 v.2 C hR kR4 kO4 hk4 ok h
set_option maxHeartbeats 4000000 in
set_option maxRecDepth 100000 in
theorem lX6_greatest_4 {X : CX} {tys : List (ClassId × FieldType)} {D : va_G} {A : Nat → Prop} {res : Int32} (a0_ : Int64) (C : Cx X cX6_greatest RX6 4 D tys A 1 0 0) (hR : Rt X (some .int) D tys A 0 0 (eI ([]) res))  (n : Nat) (v : Int32 × Int32) (ok : lpOk (kX6_greatest_4 a0_ ) n v) (h : lp 0 (bX6_greatest_4 a0_ ) n v = res) : At X D A 4 0 0 4 [(0, .long a0_), (2, .int v.1), (3, .int v.2)] [] (([] : va_W)) :=
  lp_rule (fun v r => r = res → At X D A 4 0 0 4 [(0, .long a0_), (2, .int v.1), (3, .int v.2)] [] (([] : va_W))) (fun kR kO hk v ok h => wX6_greatest_4 a0_ C hR  kR kO hk v ok h) n v ok h
def pX6_greatest_0  (a0_ : Int64) : Int32 := lp 0 (bX6_greatest_4 a0_ ) fu ((-1), 0)
def oX6_greatest_0  (a0_ : Int64) : Prop := lpOk (kX6_greatest_4 a0_ ) fu ((-1), 0)
set_option maxHeartbeats 4000000 in
set_option maxRecDepth 100000 in
theorem wX6_greatest_0 {X : CX} {tys : List (ClassId × FieldType)} {D : va_G} {A : Nat → Prop} {res : Int32} (a0_ : Int64) (C : Cx X cX6_greatest RX6 4 D tys A 1 0 0) (hR : Rt X (some .int) D tys A 0 0 (eI ([]) res))  (ok : oX6_greatest_0  a0_) (h : pX6_greatest_0  a0_ = res) : At X D A 4 0 0 0 [(0, .long a0_)] [] (([] : va_W)) := by
  unfold pX6_greatest_0 at h
  unfold oX6_greatest_0 at ok
  refine r_iconst (v := -1) C (dall tdX6_greatest 0 rfl) (by decide) ?_
  refine r_istore_n (lv' := [(2, .int (-1)), (0, .long a0_)]) C (dall tdX6_greatest 1 rfl) (by decide) rfl ?_
  refine r_iconst (v := 0) C (dall tdX6_greatest 2 rfl) (by decide) ?_
  refine r_istore_n (lv' := [(3, .int 0), (2, .int (-1)), (0, .long a0_)]) C (dall tdX6_greatest 3 rfl) (by decide) rfl ?_
  refine r_pick [2, 1, 0] rfl ?_
  exact lX6_greatest_4 a0_ C hR  fu _ ok h
def fX6_greatest (a0_ : Int64) : Int32 := pX6_greatest_0  a0_
def gX6_greatest (a0_ : Int64) : Prop := oX6_greatest_0  a0_
set_option maxRecDepth 100000 in
theorem zX6_greatest (a0_ : Int64) (ok : gX6_greatest a0_) {D : va_G} {tys : List (ClassId × FieldType)} : Con yX6_greatest cX6_greatest 4 (some .int) 1 0 0 D tys [.long a0_] ([]) (eI ([]) (fX6_greatest a0_)) :=
  Con.of (own := RX6) (by decide +kernel) rfl (Nat.le_of_ble_eq_true rfl) (Nat.zero_le _) (fun X A C hR _ => (wX6_greatest_0 a0_ C hR  ok rfl))
theorem ms_X6_greatest : MS_ yX6_greatest cX6_greatest 4 (some .int) 1 := ⟨ks_X6_greatest, kn_X6, kc_X6_greatest, by decide +kernel⟩
def tbX6_beside : List (Nat × Instr × Nat) := [(0, .lload_n 0, 1), (1, .bipush 8, 2), (3, .lshl, 1), (4, .lload_n 0, 1), (5, .bipush 8, 2), (7, .lushr, 1), (8, .lor, 1), (9, .lload_n 0, 1), (10, .ldc2_w 368, 3), (13, .land, 1), (14, .iconst 1, 1), (15, .lshl, 1), (16, .lor, 1), (17, .lload_n 0, 1), (18, .ldc2_w 370, 3), (21, .land, 1), (22, .iconst 1, 1), (23, .lushr, 1), (24, .lor, 1), (25, .lreturn, 1)]
theorem tdX6_beside : tbX6_beside.all (fun q => decide (decode cX6_beside q.1 = .ok q.2)) = true := by decide +kernel
def pX6_beside_0  (a0_ : Int64) : Int64 := (((jshl a0_ 8) ||| (jushr a0_ 8)) ||| (jshl (a0_ &&& (9187201950435737471)) 1)) ||| (jushr (a0_ &&& (-72340172838076674)) 1)
set_option maxHeartbeats 4000000 in
set_option maxRecDepth 100000 in
theorem wX6_beside_0 {X : CX} {tys : List (ClassId × FieldType)} {D : va_G} {A : Nat → Prop} {res : Int64} (a0_ : Int64) (C : Cx X cX6_beside RX6 2 D tys A 0 0 0) (hR : Rt X (some .long) D tys A 0 0 (eL ([]) res))  (h : pX6_beside_0  a0_ = res) : At X D A 2 0 0 0 [(0, .long a0_)] [] (([] : va_W)) := by
  unfold pX6_beside_0 at h
  refine r_lload_n C 0 (dall tdX6_beside 0 rfl) rfl ?_
  refine r_bipush (v := 8) C (dall tdX6_beside 1 rfl) (by decide) ?_
  refine r_lshl C (dall tdX6_beside 2 rfl) ?_
  refine r_lload_n C 0 (dall tdX6_beside 3 rfl) rfl ?_
  refine r_bipush (v := 8) C (dall tdX6_beside 4 rfl) (by decide) ?_
  refine r_lushr C (dall tdX6_beside 5 rfl) ?_
  refine r_lor C (dall tdX6_beside 6 rfl) ?_
  refine r_lload_n C 0 (dall tdX6_beside 7 rfl) rfl ?_
  refine r_ldc2 C kk_X6_368 (dall tdX6_beside 8 rfl) ?_
  refine r_land C (dall tdX6_beside 9 rfl) ?_
  refine r_iconst (v := 1) C (dall tdX6_beside 10 rfl) (by decide) ?_
  refine r_lshl C (dall tdX6_beside 11 rfl) ?_
  refine r_lor C (dall tdX6_beside 12 rfl) ?_
  refine r_lload_n C 0 (dall tdX6_beside 13 rfl) rfl ?_
  refine r_ldc2 C kk_X6_370 (dall tdX6_beside 14 rfl) ?_
  refine r_land C (dall tdX6_beside 15 rfl) ?_
  refine r_iconst (v := 1) C (dall tdX6_beside 16 rfl) (by decide) ?_
  refine r_lushr C (dall tdX6_beside 17 rfl) ?_
  refine r_lor C (dall tdX6_beside 18 rfl) ?_
  exact r_lret C hR (dall tdX6_beside 19 rfl) (by subst h; exact ⟨rfl, rfl⟩)
def fX6_beside (a0_ : Int64) : Int64 := pX6_beside_0  a0_
set_option maxRecDepth 100000 in
theorem zX6_beside (a0_ : Int64) {D : va_G} {tys : List (ClassId × FieldType)} : Con yX6_beside cX6_beside 2 (some .long) 0 0 0 D tys [.long a0_] ([]) (eL ([]) (fX6_beside a0_)) :=
  Con.of (own := RX6) (by decide +kernel) rfl (Nat.le_of_ble_eq_true rfl) (Nat.zero_le _) (fun X A C hR _ => (wX6_beside_0 a0_ C hR  rfl))
theorem ms_X6_beside : MS_ yX6_beside cX6_beside 2 (some .long) 1 := ⟨ks_X6_beside, kn_X6, kc_X6_beside, by decide +kernel⟩
def tbX6_comeTo : List (Nat × Instr × Nat) := [(0, .lload_n 0, 1), (1, .lload_n 2, 1), (2, .land, 1), (3, .lstore 5, 2), (5, .lconst 0, 1), (6, .lstore 7, 2), (8, .iconst 0, 1), (9, .istore 9, 2), (11, .iload 9, 2), (13, .iload 4, 2), (15, .if_icmp .ge 33, 3), (18, .lload 5, 2), (20, .lload 7, 2), (22, .lcmp, 1), (23, .ifCond .eq 25, 3), (26, .lload 5, 2), (28, .lstore 7, 2), (30, .lload 5, 2), (32, .lload 5, 2), (34, .invokestatic 372, 3), (37, .lload_n 2, 1), (38, .land, 1), (39, .lor, 1), (40, .lstore 5, 2), (42, .iinc 9 1, 3), (45, .goto (-34), 3), (48, .lload 5, 2), (50, .lreturn, 1)]
theorem tdX6_comeTo : tbX6_comeTo.all (fun q => decide (decode cX6_comeTo q.1 = .ok q.2)) = true := by decide +kernel
def bX6_comeTo_11 (a2_ : Int64) (a4_ : Int32)  (kR11 : Int64 × Int64 × Int32 → Int64) (v : Int64 × Int64 × Int32) : Int64 := if a4_ ≤ v.2.2 then v.1 else if v.1 = v.2.1 then v.1 else kR11 (v.1 ||| ((fX6_beside v.1) &&& a2_), v.1, v.2.2 + 1)
def kX6_comeTo_11 (a2_ : Int64) (a4_ : Int32)  (kO11 : Int64 × Int64 × Int32 → Prop) (v : Int64 × Int64 × Int32) : Prop := (a4_ ≤ v.2.2 → True) ∧ (¬ (a4_ ≤ v.2.2) → (v.1 = v.2.1 → True) ∧ (¬ (v.1 = v.2.1) → kO11 (v.1 ||| ((fX6_beside v.1) &&& a2_), v.1, v.2.2 + 1)))
set_option maxHeartbeats 4000000 in
set_option maxRecDepth 100000 in
theorem wX6_comeTo_11 {X : CX} {tys : List (ClassId × FieldType)} {D : va_G} {A : Nat → Prop} {res : Int64} (a2_ : Int64) (a4_ : Int32) (C : Cx X cX6_comeTo RX6 10 D tys A 1 0 0) (hR : Rt X (some .long) D tys A 0 0 (eL ([]) res)) (kR11 : Int64 × Int64 × Int32 → Int64) (kO11 : Int64 × Int64 × Int32 → Prop) (hk11 : ∀ z, kO11 z → kR11 z = res → At X D A 10 0 0 11 [(2, .long a2_), (4, .int a4_), (5, .long z.1), (7, .long z.2.1), (9, .int z.2.2)] [] (([] : va_W))) (v : Int64 × Int64 × Int32) (ok : kX6_comeTo_11 a2_ a4_ kO11 v) (h : bX6_comeTo_11 a2_ a4_ kR11 v = res) : At X D A 10 0 0 11 [(2, .long a2_), (4, .int a4_), (5, .long v.1), (7, .long v.2.1), (9, .int v.2.2)] [] (([] : va_W)) := by
  unfold bX6_comeTo_11 at h
  unfold kX6_comeTo_11 at ok
  refine r_iload C 4 (dall tdX6_comeTo 8 rfl) rfl ?_
  refine r_iload C 1 (dall tdX6_comeTo 9 rfl) rfl ?_
  refine r_icmp_ge (tgt := 48) C (dall tdX6_comeTo 10 rfl) (by decide) (fun c1 => ?_) (fun c1 => ?_)
  · have h := (if_pos c1).symm.trans h
    have ok := ok.1 c1
    refine r_lload C 2 (dall tdX6_comeTo 26 rfl) rfl ?_
    exact r_lret C hR (dall tdX6_comeTo 27 rfl) (by subst h; exact ⟨rfl, rfl⟩)
  · have h := (if_neg c1).symm.trans h
    have ok := ok.2 c1
    refine r_lload C 2 (dall tdX6_comeTo 11 rfl) rfl ?_
    refine r_lload C 3 (dall tdX6_comeTo 12 rfl) rfl ?_
    refine r_lif_eq (tgt := 48) C (dall tdX6_comeTo 13 rfl) (dall tdX6_comeTo 14 rfl) (by decide) (fun c2 => ?_) (fun c2 => ?_)
    · have h := (if_pos c2).symm.trans h
      have ok := ok.1 c2
      refine r_lload C 2 (dall tdX6_comeTo 26 rfl) rfl ?_
      exact r_lret C hR (dall tdX6_comeTo 27 rfl) (by subst h; exact ⟨rfl, rfl⟩)
    · have h := (if_neg c2).symm.trans h
      have ok := ok.2 c2
      refine r_lload C 2 (dall tdX6_comeTo 15 rfl) rfl ?_
      refine r_lstore (lv' := [(7, .long v.1), (2, .long a2_), (4, .int a4_), (5, .long v.1), (9, .int v.2.2)]) C (dall tdX6_comeTo 16 rfl) (by decide) rfl ?_
      refine r_lload C 3 (dall tdX6_comeTo 17 rfl) rfl ?_
      refine r_lload C 3 (dall tdX6_comeTo 18 rfl) rfl ?_
      refine r_s0L (as := [.long v.1]) C (zX6_beside v.1 ) ms_X6_beside km_X6_372 (by decide) (by decide) ⟨Nat.le_refl _, Nat.le_refl _⟩ rfl rfl (Nat.le_of_ble_eq_true rfl) (dall tdX6_comeTo 19 rfl) ?_
      refine r_lload_n C 1 (dall tdX6_comeTo 20 rfl) rfl ?_
      refine r_land C (dall tdX6_comeTo 21 rfl) ?_
      refine r_lor C (dall tdX6_comeTo 22 rfl) ?_
      refine r_lstore (lv' := [(5, .long (v.1 ||| ((fX6_beside v.1) &&& a2_))), (7, .long v.1), (2, .long a2_), (4, .int a4_), (9, .int v.2.2)]) C (dall tdX6_comeTo 23 rfl) (by decide) rfl ?_
      refine r_iinc (v := v.2.2 + 1) (lv' := [(9, .int (v.2.2 + 1)), (5, .long (v.1 ||| ((fX6_beside v.1) &&& a2_))), (7, .long v.1), (2, .long a2_), (4, .int a4_)]) C 4 (dall tdX6_comeTo 24 rfl) rfl rfl (by decide) rfl ?_
      refine r_goto (tgt := 11) C (dall tdX6_comeTo 25 rfl) (by decide) ?_
      refine r_pick [3, 4, 1, 2, 0] rfl ?_
      exact hk11 (v.1 ||| ((fX6_beside v.1) &&& a2_), v.1, v.2.2 + 1) ok h
set_option maxHeartbeats 4000000 in
set_option maxRecDepth 100000 in
theorem lX6_comeTo_11 {X : CX} {tys : List (ClassId × FieldType)} {D : va_G} {A : Nat → Prop} {res : Int64} (a2_ : Int64) (a4_ : Int32) (C : Cx X cX6_comeTo RX6 10 D tys A 1 0 0) (hR : Rt X (some .long) D tys A 0 0 (eL ([]) res))  (n : Nat) (v : Int64 × Int64 × Int32) (ok : lpOk (kX6_comeTo_11 a2_ a4_ ) n v) (h : lp 0 (bX6_comeTo_11 a2_ a4_ ) n v = res) : At X D A 10 0 0 11 [(2, .long a2_), (4, .int a4_), (5, .long v.1), (7, .long v.2.1), (9, .int v.2.2)] [] (([] : va_W)) :=
  lp_rule (fun v r => r = res → At X D A 10 0 0 11 [(2, .long a2_), (4, .int a4_), (5, .long v.1), (7, .long v.2.1), (9, .int v.2.2)] [] (([] : va_W))) (fun kR kO hk v ok h => wX6_comeTo_11 a2_ a4_ C hR  kR kO hk v ok h) n v ok h
def pX6_comeTo_0  (a0_ : Int64) (a2_ : Int64) (a4_ : Int32) : Int64 := lp 0 (bX6_comeTo_11 a2_ a4_ ) fu (a0_ &&& a2_, 0, 0)
def oX6_comeTo_0  (a0_ : Int64) (a2_ : Int64) (a4_ : Int32) : Prop := lpOk (kX6_comeTo_11 a2_ a4_ ) fu (a0_ &&& a2_, 0, 0)
set_option maxHeartbeats 4000000 in
set_option maxRecDepth 100000 in
theorem wX6_comeTo_0 {X : CX} {tys : List (ClassId × FieldType)} {D : va_G} {A : Nat → Prop} {res : Int64} (a0_ : Int64) (a2_ : Int64) (a4_ : Int32) (C : Cx X cX6_comeTo RX6 10 D tys A 1 0 0) (hR : Rt X (some .long) D tys A 0 0 (eL ([]) res))  (ok : oX6_comeTo_0  a0_ a2_ a4_) (h : pX6_comeTo_0  a0_ a2_ a4_ = res) : At X D A 10 0 0 0 [(0, .long a0_), (2, .long a2_), (4, .int a4_)] [] (([] : va_W)) := by
  unfold pX6_comeTo_0 at h
  unfold oX6_comeTo_0 at ok
  refine r_lload_n C 0 (dall tdX6_comeTo 0 rfl) rfl ?_
  refine r_lload_n C 1 (dall tdX6_comeTo 1 rfl) rfl ?_
  refine r_land C (dall tdX6_comeTo 2 rfl) ?_
  refine r_lstore (lv' := [(5, .long (a0_ &&& a2_)), (0, .long a0_), (2, .long a2_), (4, .int a4_)]) C (dall tdX6_comeTo 3 rfl) (by decide) rfl ?_
  refine r_lconst (v := 0) C (dall tdX6_comeTo 4 rfl) (by decide) ?_
  refine r_lstore (lv' := [(7, .long 0), (5, .long (a0_ &&& a2_)), (0, .long a0_), (2, .long a2_), (4, .int a4_)]) C (dall tdX6_comeTo 5 rfl) (by decide) rfl ?_
  refine r_iconst (v := 0) C (dall tdX6_comeTo 6 rfl) (by decide) ?_
  refine r_istore (lv' := [(9, .int 0), (7, .long 0), (5, .long (a0_ &&& a2_)), (0, .long a0_), (2, .long a2_), (4, .int a4_)]) C (dall tdX6_comeTo 7 rfl) (by decide) rfl ?_
  refine r_pick [4, 5, 2, 1, 0] rfl ?_
  exact lX6_comeTo_11 a2_ a4_ C hR  fu _ ok h
def fX6_comeTo (a0_ : Int64) (a2_ : Int64) (a4_ : Int32) : Int64 := pX6_comeTo_0  a0_ a2_ a4_
def gX6_comeTo (a0_ : Int64) (a2_ : Int64) (a4_ : Int32) : Prop := oX6_comeTo_0  a0_ a2_ a4_
set_option maxRecDepth 100000 in
theorem zX6_comeTo (a0_ : Int64) (a2_ : Int64) (a4_ : Int32) (ok : gX6_comeTo a0_ a2_ a4_) {D : va_G} {tys : List (ClassId × FieldType)} : Con yX6_comeTo cX6_comeTo 10 (some .long) 1 0 0 D tys [.long a0_, .long a2_, .int a4_] ([]) (eL ([]) (fX6_comeTo a0_ a2_ a4_)) :=
  Con.of (own := RX6) (by decide +kernel) rfl (Nat.le_of_ble_eq_true rfl) (Nat.zero_le _) (fun X A C hR _ => (wX6_comeTo_0 a0_ a2_ a4_ C hR  ok rfl))
theorem ms_X6_comeTo : MS_ yX6_comeTo cX6_comeTo 10 (some .long) 3 := ⟨ks_X6_comeTo, kn_X6, kc_X6_comeTo, by decide +kernel⟩
def tbX6_partAt : List (Nat × Instr × Nat) := [(0, .iload_n 1, 1), (1, .bipush 8, 2), (3, .irem, 1), (4, .istore_n 2, 1), (5, .iload_n 1, 1), (6, .bipush 8, 2), (8, .idiv, 1), (9, .istore_n 3, 1), (10, .iload_n 0, 1), (11, .ifCond .eq 8, 3), (14, .iload_n 0, 1), (15, .iconst 4, 1), (16, .if_icmp .ne 7, 3), (19, .iconst 0, 1), (20, .goto 13, 3), (23, .iload_n 0, 1), (24, .iconst 3, 1), (25, .if_icmp .ne 7, 3), (28, .iconst 2, 1), (29, .goto 4, 3), (32, .iconst 1, 1), (33, .istore 4, 2), (35, .iload_n 0, 1), (36, .iconst 2, 1), (37, .if_icmp .eq 8, 3), (40, .iload_n 0, 1), (41, .iconst 5, 1), (42, .if_icmp .ne 7, 3), (45, .iconst 1, 1), (46, .goto 13, 3), (49, .iload_n 0, 1), (50, .iconst 4, 1), (51, .if_icmp .ne 7, 3), (54, .iconst 2, 1), (55, .goto 4, 3), (58, .iconst 0, 1), (59, .istore 5, 2), (61, .iload_n 2, 1), (62, .iload 4, 2), (64, .iadd, 1), (65, .bipush 8, 2), (67, .if_icmp .ge 12, 3), (70, .iload_n 3, 1), (71, .iload 5, 2), (73, .iadd, 1), (74, .bipush 8, 2), (76, .if_icmp .lt 5, 3), (79, .lconst 0, 1), (80, .lreturn, 1), (81, .iload_n 0, 1), (82, .ifCond .ne 7, 3), (85, .lconst 1, 1), (86, .goto 50, 3), (89, .iload_n 0, 1), (90, .iconst 1, 1), (91, .if_icmp .ne 9, 3), (94, .ldc2_w 84, 3), (97, .goto 39, 3), (100, .iload_n 0, 1), (101, .iconst 2, 1), (102, .if_icmp .ne 9, 3), (105, .ldc2_w 383, 3), (108, .goto 28, 3), (111, .iload_n 0, 1), (112, .iconst 3, 1), (113, .if_icmp .ne 9, 3), (116, .ldc2_w 385, 3), (119, .goto 17, 3), (122, .iload_n 0, 1), (123, .iconst 4, 1), (124, .if_icmp .ne 9, 3), (127, .ldc2_w 387, 3), (130, .goto 6, 3), (133, .ldc2_w 389, 3), (136, .lstore 6, 2), (138, .lload 6, 2), (140, .iload_n 1, 1), (141, .lshl, 1), (142, .lreturn, 1)]
theorem tdX6_partAt : tbX6_partAt.all (fun q => decide (decode cX6_partAt q.1 = .ok q.2)) = true := by decide +kernel
def pX6_partAt_136  (a1_ : Int32) (b0_ : Int64) : Int64 := jshl b0_ a1_
set_option maxHeartbeats 4000000 in
set_option maxRecDepth 100000 in
theorem wX6_partAt_136 {X : CX} {tys : List (ClassId × FieldType)} {D : va_G} {A : Nat → Prop} {res : Int64} (a1_ : Int32) (b0_ : Int64) (C : Cx X cX6_partAt RX6 8 D tys A 0 0 0) (hR : Rt X (some .long) D tys A 0 0 (eL ([]) res))  (h : pX6_partAt_136  a1_ b0_ = res) : At X D A 8 0 0 136 [(1, .int a1_)] [.long b0_] (([] : va_W)) := by
  unfold pX6_partAt_136 at h
  refine r_lstore (lv' := [(6, .long b0_), (1, .int a1_)]) C (dall tdX6_partAt 74 rfl) (by decide) rfl ?_
  refine r_lload C 0 (dall tdX6_partAt 75 rfl) rfl ?_
  refine r_iload_n C 1 (dall tdX6_partAt 76 rfl) rfl ?_
  refine r_lshl C (dall tdX6_partAt 77 rfl) ?_
  exact r_lret C hR (dall tdX6_partAt 78 rfl) (by subst h; exact ⟨rfl, rfl⟩)
def pX6_partAt_59  (a0_ : Int32) (a1_ : Int32) (a2_ : Int32) (a3_ : Int32) (a4_ : Int32) (b0_ : Int32) : Int64 := if 8 ≤ (a2_ + a4_) then 0 else if (a3_ + b0_) < 8 then if a0_ = 0 then pX6_partAt_136  a1_ 1 else if a0_ = 1 then pX6_partAt_136  a1_ (3) else if a0_ = 2 then pX6_partAt_136  a1_ (515) else if a0_ = 3 then pX6_partAt_136  a1_ (7) else if a0_ = 4 then pX6_partAt_136  a1_ (65793) else pX6_partAt_136  a1_ (771) else 0
set_option maxHeartbeats 4000000 in
set_option maxRecDepth 100000 in
theorem wX6_partAt_59 {X : CX} {tys : List (ClassId × FieldType)} {D : va_G} {A : Nat → Prop} {res : Int64} (a0_ : Int32) (a1_ : Int32) (a2_ : Int32) (a3_ : Int32) (a4_ : Int32) (b0_ : Int32) (C : Cx X cX6_partAt RX6 8 D tys A 0 0 0) (hR : Rt X (some .long) D tys A 0 0 (eL ([]) res))  (h : pX6_partAt_59  a0_ a1_ a2_ a3_ a4_ b0_ = res) : At X D A 8 0 0 59 [(0, .int a0_), (1, .int a1_), (2, .int a2_), (3, .int a3_), (4, .int a4_)] [.int b0_] (([] : va_W)) := by
  unfold pX6_partAt_59 at h
  refine r_istore (lv' := [(5, .int b0_), (0, .int a0_), (1, .int a1_), (2, .int a2_), (3, .int a3_), (4, .int a4_)]) C (dall tdX6_partAt 36 rfl) (by decide) rfl ?_
  refine r_iload_n C 3 (dall tdX6_partAt 37 rfl) rfl ?_
  refine r_iload C 5 (dall tdX6_partAt 38 rfl) rfl ?_
  refine r_iadd C (dall tdX6_partAt 39 rfl) ?_
  refine r_bipush (v := 8) C (dall tdX6_partAt 40 rfl) (by decide) ?_
  refine r_icmp_ge (tgt := 79) C (dall tdX6_partAt 41 rfl) (by decide) (fun c1 => ?_) (fun c1 => ?_)
  · have h := (if_pos c1).symm.trans h
    refine r_lconst (v := 0) C (dall tdX6_partAt 47 rfl) (by decide) ?_
    exact r_lret C hR (dall tdX6_partAt 48 rfl) (by subst h; exact ⟨rfl, rfl⟩)
  · have h := (if_neg c1).symm.trans h
    refine r_iload_n C 4 (dall tdX6_partAt 42 rfl) rfl ?_
    refine r_iload C 0 (dall tdX6_partAt 43 rfl) rfl ?_
    refine r_iadd C (dall tdX6_partAt 44 rfl) ?_
    refine r_bipush (v := 8) C (dall tdX6_partAt 45 rfl) (by decide) ?_
    refine r_icmp_lt (tgt := 81) C (dall tdX6_partAt 46 rfl) (by decide) (fun c2 => ?_) (fun c2 => ?_)
    · have h := (if_pos c2).symm.trans h
      refine r_iload_n C 1 (dall tdX6_partAt 49 rfl) rfl ?_
      refine r_if_ne (tgt := 89) C (dall tdX6_partAt 50 rfl) (by decide) (fun c3 => ?_) (fun c3 => ?_)
      · have h := (if_neg c3).symm.trans h
        refine r_iload_n C 1 (dall tdX6_partAt 53 rfl) rfl ?_
        refine r_iconst (v := 1) C (dall tdX6_partAt 54 rfl) (by decide) ?_
        refine r_icmp_ne (tgt := 100) C (dall tdX6_partAt 55 rfl) (by decide) (fun c4 => ?_) (fun c4 => ?_)
        · have h := (if_neg c4).symm.trans h
          refine r_iload_n C 1 (dall tdX6_partAt 58 rfl) rfl ?_
          refine r_iconst (v := 2) C (dall tdX6_partAt 59 rfl) (by decide) ?_
          refine r_icmp_ne (tgt := 111) C (dall tdX6_partAt 60 rfl) (by decide) (fun c5 => ?_) (fun c5 => ?_)
          · have h := (if_neg c5).symm.trans h
            refine r_iload_n C 1 (dall tdX6_partAt 63 rfl) rfl ?_
            refine r_iconst (v := 3) C (dall tdX6_partAt 64 rfl) (by decide) ?_
            refine r_icmp_ne (tgt := 122) C (dall tdX6_partAt 65 rfl) (by decide) (fun c6 => ?_) (fun c6 => ?_)
            · have h := (if_neg c6).symm.trans h
              refine r_iload_n C 1 (dall tdX6_partAt 68 rfl) rfl ?_
              refine r_iconst (v := 4) C (dall tdX6_partAt 69 rfl) (by decide) ?_
              refine r_icmp_ne (tgt := 133) C (dall tdX6_partAt 70 rfl) (by decide) (fun c7 => ?_) (fun c7 => ?_)
              · have h := (if_neg c7).symm.trans h
                refine r_ldc2 C kk_X6_389 (dall tdX6_partAt 73 rfl) ?_
                refine r_pick [2] rfl ?_
                exact wX6_partAt_136 a1_ (771) C hR  h
              · have h := (if_pos c7).symm.trans h
                refine r_ldc2 C kk_X6_387 (dall tdX6_partAt 71 rfl) ?_
                refine r_goto (tgt := 136) C (dall tdX6_partAt 72 rfl) (by decide) ?_
                refine r_pick [2] rfl ?_
                exact wX6_partAt_136 a1_ (65793) C hR  h
            · have h := (if_pos c6).symm.trans h
              refine r_ldc2 C kk_X6_385 (dall tdX6_partAt 66 rfl) ?_
              refine r_goto (tgt := 136) C (dall tdX6_partAt 67 rfl) (by decide) ?_
              refine r_pick [2] rfl ?_
              exact wX6_partAt_136 a1_ (7) C hR  h
          · have h := (if_pos c5).symm.trans h
            refine r_ldc2 C kk_X6_383 (dall tdX6_partAt 61 rfl) ?_
            refine r_goto (tgt := 136) C (dall tdX6_partAt 62 rfl) (by decide) ?_
            refine r_pick [2] rfl ?_
            exact wX6_partAt_136 a1_ (515) C hR  h
        · have h := (if_pos c4).symm.trans h
          refine r_ldc2 C kk_X6_84 (dall tdX6_partAt 56 rfl) ?_
          refine r_goto (tgt := 136) C (dall tdX6_partAt 57 rfl) (by decide) ?_
          refine r_pick [2] rfl ?_
          exact wX6_partAt_136 a1_ (3) C hR  h
      · have h := (if_pos c3).symm.trans h
        refine r_lconst (v := 1) C (dall tdX6_partAt 51 rfl) (by decide) ?_
        refine r_goto (tgt := 136) C (dall tdX6_partAt 52 rfl) (by decide) ?_
        refine r_pick [2] rfl ?_
        exact wX6_partAt_136 a1_ 1 C hR  h
    · have h := (if_neg c2).symm.trans h
      refine r_lconst (v := 0) C (dall tdX6_partAt 47 rfl) (by decide) ?_
      exact r_lret C hR (dall tdX6_partAt 48 rfl) (by subst h; exact ⟨rfl, rfl⟩)
def pX6_partAt_45  (a0_ : Int32) (a1_ : Int32) (a2_ : Int32) (a3_ : Int32) (a4_ : Int32) : Int64 := pX6_partAt_59  a0_ a1_ a2_ a3_ a4_ 1
set_option maxHeartbeats 4000000 in
set_option maxRecDepth 100000 in
theorem wX6_partAt_45 {X : CX} {tys : List (ClassId × FieldType)} {D : va_G} {A : Nat → Prop} {res : Int64} (a0_ : Int32) (a1_ : Int32) (a2_ : Int32) (a3_ : Int32) (a4_ : Int32) (C : Cx X cX6_partAt RX6 8 D tys A 0 0 0) (hR : Rt X (some .long) D tys A 0 0 (eL ([]) res))  (h : pX6_partAt_45  a0_ a1_ a2_ a3_ a4_ = res) : At X D A 8 0 0 45 [(0, .int a0_), (1, .int a1_), (2, .int a2_), (3, .int a3_), (4, .int a4_)] [] (([] : va_W)) := by
  unfold pX6_partAt_45 at h
  refine r_iconst (v := 1) C (dall tdX6_partAt 28 rfl) (by decide) ?_
  refine r_goto (tgt := 59) C (dall tdX6_partAt 29 rfl) (by decide) ?_
  exact wX6_partAt_59 a0_ a1_ a2_ a3_ a4_ 1 C hR  h
def pX6_partAt_33  (a0_ : Int32) (a1_ : Int32) (a2_ : Int32) (a3_ : Int32) (b0_ : Int32) : Int64 := if a0_ = 2 then pX6_partAt_45  a0_ a1_ a2_ a3_ b0_ else if a0_ = 5 then pX6_partAt_45  a0_ a1_ a2_ a3_ b0_ else if a0_ = 4 then pX6_partAt_59  a0_ a1_ a2_ a3_ b0_ 2 else pX6_partAt_59  a0_ a1_ a2_ a3_ b0_ 0
set_option maxHeartbeats 4000000 in
set_option maxRecDepth 100000 in
theorem wX6_partAt_33 {X : CX} {tys : List (ClassId × FieldType)} {D : va_G} {A : Nat → Prop} {res : Int64} (a0_ : Int32) (a1_ : Int32) (a2_ : Int32) (a3_ : Int32) (b0_ : Int32) (C : Cx X cX6_partAt RX6 8 D tys A 0 0 0) (hR : Rt X (some .long) D tys A 0 0 (eL ([]) res))  (h : pX6_partAt_33  a0_ a1_ a2_ a3_ b0_ = res) : At X D A 8 0 0 33 [(0, .int a0_), (1, .int a1_), (2, .int a2_), (3, .int a3_)] [.int b0_] (([] : va_W)) := by
  unfold pX6_partAt_33 at h
  refine r_istore (lv' := [(4, .int b0_), (0, .int a0_), (1, .int a1_), (2, .int a2_), (3, .int a3_)]) C (dall tdX6_partAt 21 rfl) (by decide) rfl ?_
  refine r_iload_n C 1 (dall tdX6_partAt 22 rfl) rfl ?_
  refine r_iconst (v := 2) C (dall tdX6_partAt 23 rfl) (by decide) ?_
  refine r_icmp_eq (tgt := 45) C (dall tdX6_partAt 24 rfl) (by decide) (fun c8 => ?_) (fun c8 => ?_)
  · have h := (if_pos c8).symm.trans h
    refine r_pick [1, 2, 3, 4, 0] rfl ?_
    exact wX6_partAt_45 a0_ a1_ a2_ a3_ b0_ C hR  h
  · have h := (if_neg c8).symm.trans h
    refine r_iload_n C 1 (dall tdX6_partAt 25 rfl) rfl ?_
    refine r_iconst (v := 5) C (dall tdX6_partAt 26 rfl) (by decide) ?_
    refine r_icmp_ne (tgt := 49) C (dall tdX6_partAt 27 rfl) (by decide) (fun c9 => ?_) (fun c9 => ?_)
    · have h := (if_neg c9).symm.trans h
      refine r_iload_n C 1 (dall tdX6_partAt 30 rfl) rfl ?_
      refine r_iconst (v := 4) C (dall tdX6_partAt 31 rfl) (by decide) ?_
      refine r_icmp_ne (tgt := 58) C (dall tdX6_partAt 32 rfl) (by decide) (fun c10 => ?_) (fun c10 => ?_)
      · have h := (if_neg c10).symm.trans h
        refine r_iconst (v := 0) C (dall tdX6_partAt 35 rfl) (by decide) ?_
        refine r_pick [1, 2, 3, 4, 0] rfl ?_
        exact wX6_partAt_59 a0_ a1_ a2_ a3_ b0_ 0 C hR  h
      · have h := (if_pos c10).symm.trans h
        refine r_iconst (v := 2) C (dall tdX6_partAt 33 rfl) (by decide) ?_
        refine r_goto (tgt := 59) C (dall tdX6_partAt 34 rfl) (by decide) ?_
        refine r_pick [1, 2, 3, 4, 0] rfl ?_
        exact wX6_partAt_59 a0_ a1_ a2_ a3_ b0_ 2 C hR  h
    · have h := (if_pos c9).symm.trans h
      refine r_pick [1, 2, 3, 4, 0] rfl ?_
      exact wX6_partAt_45 a0_ a1_ a2_ a3_ b0_ C hR  h
def pX6_partAt_19  (a0_ : Int32) (a1_ : Int32) (a2_ : Int32) (a3_ : Int32) : Int64 := pX6_partAt_33  a0_ a1_ a2_ a3_ 0
set_option maxHeartbeats 4000000 in
set_option maxRecDepth 100000 in
theorem wX6_partAt_19 {X : CX} {tys : List (ClassId × FieldType)} {D : va_G} {A : Nat → Prop} {res : Int64} (a0_ : Int32) (a1_ : Int32) (a2_ : Int32) (a3_ : Int32) (C : Cx X cX6_partAt RX6 8 D tys A 0 0 0) (hR : Rt X (some .long) D tys A 0 0 (eL ([]) res))  (h : pX6_partAt_19  a0_ a1_ a2_ a3_ = res) : At X D A 8 0 0 19 [(0, .int a0_), (1, .int a1_), (2, .int a2_), (3, .int a3_)] [] (([] : va_W)) := by
  unfold pX6_partAt_19 at h
  refine r_iconst (v := 0) C (dall tdX6_partAt 13 rfl) (by decide) ?_
  refine r_goto (tgt := 33) C (dall tdX6_partAt 14 rfl) (by decide) ?_
  exact wX6_partAt_33 a0_ a1_ a2_ a3_ 0 C hR  h
def pX6_partAt_0  (a0_ : Int32) (a1_ : Int32) : Int64 := if a0_ = 0 then pX6_partAt_19  a0_ a1_ (a1_ - a1_ / 8 * 8) (a1_ / 8) else if a0_ = 4 then pX6_partAt_19  a0_ a1_ (a1_ - a1_ / 8 * 8) (a1_ / 8) else if a0_ = 3 then pX6_partAt_33  a0_ a1_ (a1_ - a1_ / 8 * 8) (a1_ / 8) 2 else pX6_partAt_33  a0_ a1_ (a1_ - a1_ / 8 * 8) (a1_ / 8) 1
set_option maxHeartbeats 4000000 in
set_option maxRecDepth 100000 in
theorem wX6_partAt_0 {X : CX} {tys : List (ClassId × FieldType)} {D : va_G} {A : Nat → Prop} {res : Int64} (a0_ : Int32) (a1_ : Int32) (C : Cx X cX6_partAt RX6 8 D tys A 0 0 0) (hR : Rt X (some .long) D tys A 0 0 (eL ([]) res))  (h : pX6_partAt_0  a0_ a1_ = res) : At X D A 8 0 0 0 [(0, .int a0_), (1, .int a1_)] [] (([] : va_W)) := by
  unfold pX6_partAt_0 at h
  refine r_iload_n C 1 (dall tdX6_partAt 0 rfl) rfl ?_
  refine r_bipush (v := 8) C (dall tdX6_partAt 1 rfl) (by decide) ?_
  refine r_irem C (dall tdX6_partAt 2 rfl) (by decide) ?_
  refine r_istore_n (lv' := [(2, .int (a1_ - a1_ / 8 * 8)), (0, .int a0_), (1, .int a1_)]) C (dall tdX6_partAt 3 rfl) (by decide) rfl ?_
  refine r_iload_n C 2 (dall tdX6_partAt 4 rfl) rfl ?_
  refine r_bipush (v := 8) C (dall tdX6_partAt 5 rfl) (by decide) ?_
  refine r_idiv C (dall tdX6_partAt 6 rfl) (by decide) ?_
  refine r_istore_n (lv' := [(3, .int (a1_ / 8)), (2, .int (a1_ - a1_ / 8 * 8)), (0, .int a0_), (1, .int a1_)]) C (dall tdX6_partAt 7 rfl) (by decide) rfl ?_
  refine r_iload_n C 2 (dall tdX6_partAt 8 rfl) rfl ?_
  refine r_if_eq (tgt := 19) C (dall tdX6_partAt 9 rfl) (by decide) (fun c11 => ?_) (fun c11 => ?_)
  · have h := (if_pos c11).symm.trans h
    refine r_pick [2, 3, 1, 0] rfl ?_
    exact wX6_partAt_19 a0_ a1_ (a1_ - a1_ / 8 * 8) (a1_ / 8) C hR  h
  · have h := (if_neg c11).symm.trans h
    refine r_iload_n C 2 (dall tdX6_partAt 10 rfl) rfl ?_
    refine r_iconst (v := 4) C (dall tdX6_partAt 11 rfl) (by decide) ?_
    refine r_icmp_ne (tgt := 23) C (dall tdX6_partAt 12 rfl) (by decide) (fun c12 => ?_) (fun c12 => ?_)
    · have h := (if_neg c12).symm.trans h
      refine r_iload_n C 2 (dall tdX6_partAt 15 rfl) rfl ?_
      refine r_iconst (v := 3) C (dall tdX6_partAt 16 rfl) (by decide) ?_
      refine r_icmp_ne (tgt := 32) C (dall tdX6_partAt 17 rfl) (by decide) (fun c13 => ?_) (fun c13 => ?_)
      · have h := (if_neg c13).symm.trans h
        refine r_iconst (v := 1) C (dall tdX6_partAt 20 rfl) (by decide) ?_
        refine r_pick [2, 3, 1, 0] rfl ?_
        exact wX6_partAt_33 a0_ a1_ (a1_ - a1_ / 8 * 8) (a1_ / 8) 1 C hR  h
      · have h := (if_pos c13).symm.trans h
        refine r_iconst (v := 2) C (dall tdX6_partAt 18 rfl) (by decide) ?_
        refine r_goto (tgt := 33) C (dall tdX6_partAt 19 rfl) (by decide) ?_
        refine r_pick [2, 3, 1, 0] rfl ?_
        exact wX6_partAt_33 a0_ a1_ (a1_ - a1_ / 8 * 8) (a1_ / 8) 2 C hR  h
    · have h := (if_pos c12).symm.trans h
      refine r_pick [2, 3, 1, 0] rfl ?_
      exact wX6_partAt_19 a0_ a1_ (a1_ - a1_ / 8 * 8) (a1_ / 8) C hR  h
def fX6_partAt (a0_ : Int32) (a1_ : Int32) : Int64 := pX6_partAt_0  a0_ a1_
set_option maxRecDepth 100000 in
theorem zX6_partAt (a0_ : Int32) (a1_ : Int32) {D : va_G} {tys : List (ClassId × FieldType)} : Con yX6_partAt cX6_partAt 8 (some .long) 0 0 0 D tys [.int a0_, .int a1_] ([]) (eL ([]) (fX6_partAt a0_ a1_)) :=
  Con.of (own := RX6) (by decide +kernel) rfl (Nat.le_of_ble_eq_true rfl) (Nat.zero_le _) (fun X A C hR _ => (wX6_partAt_0 a0_ a1_ C hR  rfl))
theorem ms_X6_partAt : MS_ yX6_partAt cX6_partAt 8 (some .long) 2 := ⟨ks_X6_partAt, kn_X6, kc_X6_partAt, by decide +kernel⟩
def tbX6_can : List (Nat × Instr × Nat) := [(0, .lload_n 0, 1), (1, .lconst 0, 1), (2, .lcmp, 1), (3, .ifCond .eq 26, 3), (6, .lload_n 0, 1), (7, .lload_n 2, 1), (8, .land, 1), (9, .lconst 0, 1), (10, .lcmp, 1), (11, .ifCond .ne 18, 3), (14, .lload_n 0, 1), (15, .invokestatic 372, 3), (18, .lload_n 2, 1), (19, .land, 1), (20, .lconst 0, 1), (21, .lcmp, 1), (22, .ifCond .eq 7, 3), (25, .iconst 1, 1), (26, .goto 4, 3), (29, .iconst 0, 1), (30, .ireturn, 1)]
theorem tdX6_can : tbX6_can.all (fun q => decide (decode cX6_can q.1 = .ok q.2)) = true := by decide +kernel
def pX6_can_0  (a0_ : Int64) (a2_ : Int64) : Int32 := if a0_ = 0 then 0 else if (a0_ &&& a2_) = 0 then if ((fX6_beside a0_) &&& a2_) = 0 then 0 else 1 else 0
set_option maxHeartbeats 4000000 in
set_option maxRecDepth 100000 in
theorem wX6_can_0 {X : CX} {tys : List (ClassId × FieldType)} {D : va_G} {A : Nat → Prop} {res : Int32} (a0_ : Int64) (a2_ : Int64) (C : Cx X cX6_can RX6 4 D tys A 1 0 0) (hR : Rt X (some .boolean) D tys A 0 0 (eI ([]) res))  (h : pX6_can_0  a0_ a2_ = res) : At X D A 4 0 0 0 [(0, .long a0_), (2, .long a2_)] [] (([] : va_W)) := by
  unfold pX6_can_0 at h
  refine r_lload_n C 0 (dall tdX6_can 0 rfl) rfl ?_
  refine r_lconst (v := 0) C (dall tdX6_can 1 rfl) (by decide) ?_
  refine r_lif_eq (tgt := 29) C (dall tdX6_can 2 rfl) (dall tdX6_can 3 rfl) (by decide) (fun c1 => ?_) (fun c1 => ?_)
  · have h := (if_pos c1).symm.trans h
    refine r_iconst (v := 0) C (dall tdX6_can 19 rfl) (by decide) ?_
    exact r_zret C (by decide) hR (dall tdX6_can 20 rfl) (by subst h; exact ⟨rfl, rfl⟩)
  · have h := (if_neg c1).symm.trans h
    refine r_lload_n C 0 (dall tdX6_can 4 rfl) rfl ?_
    refine r_lload_n C 1 (dall tdX6_can 5 rfl) rfl ?_
    refine r_land C (dall tdX6_can 6 rfl) ?_
    refine r_lconst (v := 0) C (dall tdX6_can 7 rfl) (by decide) ?_
    refine r_lif_ne (tgt := 29) C (dall tdX6_can 8 rfl) (dall tdX6_can 9 rfl) (by decide) (fun c2 => ?_) (fun c2 => ?_)
    · have h := (if_neg c2).symm.trans h
      refine r_iconst (v := 0) C (dall tdX6_can 19 rfl) (by decide) ?_
      exact r_zret C (by decide) hR (dall tdX6_can 20 rfl) (by subst h; exact ⟨rfl, rfl⟩)
    · have h := (if_pos c2).symm.trans h
      refine r_lload_n C 0 (dall tdX6_can 10 rfl) rfl ?_
      refine r_s0L (as := [.long a0_]) C (zX6_beside a0_ ) ms_X6_beside km_X6_372 (by decide) (by decide) ⟨Nat.le_refl _, Nat.le_refl _⟩ rfl rfl (Nat.le_of_ble_eq_true rfl) (dall tdX6_can 11 rfl) ?_
      refine r_lload_n C 1 (dall tdX6_can 12 rfl) rfl ?_
      refine r_land C (dall tdX6_can 13 rfl) ?_
      refine r_lconst (v := 0) C (dall tdX6_can 14 rfl) (by decide) ?_
      refine r_lif_eq (tgt := 29) C (dall tdX6_can 15 rfl) (dall tdX6_can 16 rfl) (by decide) (fun c3 => ?_) (fun c3 => ?_)
      · have h := (if_pos c3).symm.trans h
        refine r_iconst (v := 0) C (dall tdX6_can 19 rfl) (by decide) ?_
        exact r_zret C (by decide) hR (dall tdX6_can 20 rfl) (by subst h; exact ⟨rfl, rfl⟩)
      · have h := (if_neg c3).symm.trans h
        refine r_iconst (v := 1) C (dall tdX6_can 17 rfl) (by decide) ?_
        refine r_goto (tgt := 30) C (dall tdX6_can 18 rfl) (by decide) ?_
        exact r_zret C (by decide) hR (dall tdX6_can 20 rfl) (by subst h; exact ⟨rfl, rfl⟩)
def fX6_can (a0_ : Int64) (a2_ : Int64) : Int32 := pX6_can_0  a0_ a2_
set_option maxRecDepth 100000 in
theorem zX6_can (a0_ : Int64) (a2_ : Int64) {D : va_G} {tys : List (ClassId × FieldType)} : Con yX6_can cX6_can 4 (some .boolean) 1 0 0 D tys [.long a0_, .long a2_] ([]) (eI ([]) (fX6_can a0_ a2_)) :=
  Con.of (own := RX6) (by decide +kernel) rfl (Nat.le_of_ble_eq_true rfl) (Nat.zero_le _) (fun X A C hR _ => (wX6_can_0 a0_ a2_ C hR  rfl))
theorem ms_X6_can : MS_ yX6_can cX6_can 4 (some .boolean) 2 := ⟨ks_X6_can, kn_X6, kc_X6_can, by decide +kernel⟩
def tbX6_byOne : List (Nat × Instr × Nat) := [(0, .iconst 0, 1), (1, .istore_n 3, 1), (2, .iload_n 3, 1), (3, .sipush 384, 3), (6, .if_icmp .ge 42, 3), (9, .iload_n 3, 1), (10, .bipush 64, 2), (12, .idiv, 1), (13, .iload_n 3, 1), (14, .bipush 64, 2), (16, .irem, 1), (17, .invokestatic 391, 3), (20, .lstore 4, 2), (22, .lload 4, 2), (24, .iload_n 0, 1), (25, .invokestatic 97, 3), (28, .ifCond .eq 14, 3), (31, .lload 4, 2), (33, .lload_n 1, 1), (34, .invokestatic 395, 3), (37, .ifCond .eq 5, 3), (40, .iconst 1, 1), (41, .ireturn, 1), (42, .iinc 3 1, 3), (45, .goto (-43), 3), (48, .iconst 0, 1), (49, .ireturn, 1)]
theorem tdX6_byOne : tbX6_byOne.all (fun q => decide (decode cX6_byOne q.1 = .ok q.2)) = true := by decide +kernel
def pX6_byOne_42 (kR2 : Int32 → Int32) (a0_ : Int32) (a1_ : Int64) (a3_ : Int32) : Int32 := kR2 (a3_ + 1)
def oX6_byOne_42 (kO2 : Int32 → Prop) (a0_ : Int32) (a1_ : Int64) (a3_ : Int32) : Prop := kO2 (a3_ + 1)
set_option maxHeartbeats 4000000 in
set_option maxRecDepth 100000 in
theorem wX6_byOne_42 {X : CX} {tys : List (ClassId × FieldType)} {D : va_G} {A : Nat → Prop} {res : Int32} (a0_ : Int32) (a1_ : Int64) (a3_ : Int32) (C : Cx X cX6_byOne RX6 6 D tys A 2 0 0) (hR : Rt X (some .boolean) D tys A 0 0 (eI ([]) res)) (kR2 : Int32 → Int32) (kO2 : Int32 → Prop) (hk2 : ∀ z, kO2 z → kR2 z = res → At X D A 6 0 0 2 [(0, .int a0_), (1, .long a1_), (3, .int z)] [] (([] : va_W))) (ok : oX6_byOne_42 kO2 a0_ a1_ a3_) (h : pX6_byOne_42 kR2 a0_ a1_ a3_ = res) : At X D A 6 0 0 42 [(0, .int a0_), (1, .long a1_), (3, .int a3_)] [] (([] : va_W)) := by
  unfold pX6_byOne_42 at h
  unfold oX6_byOne_42 at ok
  refine r_iinc (v := a3_ + 1) (lv' := [(3, .int (a3_ + 1)), (0, .int a0_), (1, .long a1_)]) C 2 (dall tdX6_byOne 23 rfl) rfl rfl (by decide) rfl ?_
  refine r_goto (tgt := 2) C (dall tdX6_byOne 24 rfl) (by decide) ?_
  refine r_pick [1, 2, 0] rfl ?_
  exact hk2 (a3_ + 1) ok h
def bX6_byOne_2 (a0_ : Int32) (a1_ : Int64)  (kR2 : Int32 → Int32) (v : Int32) : Int32 := if 384 ≤ v then 0 else if (fX6_has (fX6_partAt (v / 64) (v - v / 64 * 64)) a0_) = 0 then pX6_byOne_42 kR2 a0_ a1_ v else if (fX6_can (fX6_partAt (v / 64) (v - v / 64 * 64)) a1_) = 0 then pX6_byOne_42 kR2 a0_ a1_ v else 1
def kX6_byOne_2 (a0_ : Int32) (a1_ : Int64)  (kO2 : Int32 → Prop) (v : Int32) : Prop := (384 ≤ v → True) ∧ (¬ (384 ≤ v) → ((fX6_has (fX6_partAt (v / 64) (v - v / 64 * 64)) a0_) = 0 → oX6_byOne_42 kO2 a0_ a1_ v) ∧ (¬ ((fX6_has (fX6_partAt (v / 64) (v - v / 64 * 64)) a0_) = 0) → ((fX6_can (fX6_partAt (v / 64) (v - v / 64 * 64)) a1_) = 0 → oX6_byOne_42 kO2 a0_ a1_ v) ∧ (¬ ((fX6_can (fX6_partAt (v / 64) (v - v / 64 * 64)) a1_) = 0) → True)))
set_option maxHeartbeats 4000000 in
set_option maxRecDepth 100000 in
theorem wX6_byOne_2 {X : CX} {tys : List (ClassId × FieldType)} {D : va_G} {A : Nat → Prop} {res : Int32} (a0_ : Int32) (a1_ : Int64) (C : Cx X cX6_byOne RX6 6 D tys A 2 0 0) (hR : Rt X (some .boolean) D tys A 0 0 (eI ([]) res)) (kR2 : Int32 → Int32) (kO2 : Int32 → Prop) (hk2 : ∀ z, kO2 z → kR2 z = res → At X D A 6 0 0 2 [(0, .int a0_), (1, .long a1_), (3, .int z)] [] (([] : va_W))) (v : Int32) (ok : kX6_byOne_2 a0_ a1_ kO2 v) (h : bX6_byOne_2 a0_ a1_ kR2 v = res) : At X D A 6 0 0 2 [(0, .int a0_), (1, .long a1_), (3, .int v)] [] (([] : va_W)) := by
  unfold bX6_byOne_2 at h
  unfold kX6_byOne_2 at ok
  refine r_iload_n C 2 (dall tdX6_byOne 2 rfl) rfl ?_
  refine r_sipush (v := 384) C (dall tdX6_byOne 3 rfl) (by decide) ?_
  refine r_icmp_ge (tgt := 48) C (dall tdX6_byOne 4 rfl) (by decide) (fun c1 => ?_) (fun c1 => ?_)
  · have h := (if_pos c1).symm.trans h
    have ok := ok.1 c1
    refine r_iconst (v := 0) C (dall tdX6_byOne 25 rfl) (by decide) ?_
    exact r_zret C (by decide) hR (dall tdX6_byOne 26 rfl) (by subst h; exact ⟨rfl, rfl⟩)
  · have h := (if_neg c1).symm.trans h
    have ok := ok.2 c1
    refine r_iload_n C 2 (dall tdX6_byOne 5 rfl) rfl ?_
    refine r_bipush (v := 64) C (dall tdX6_byOne 6 rfl) (by decide) ?_
    refine r_idiv C (dall tdX6_byOne 7 rfl) (by decide) ?_
    refine r_iload_n C 2 (dall tdX6_byOne 8 rfl) rfl ?_
    refine r_bipush (v := 64) C (dall tdX6_byOne 9 rfl) (by decide) ?_
    refine r_irem C (dall tdX6_byOne 10 rfl) (by decide) ?_
    refine r_s0L (as := [.int (v / 64), .int (v - v / 64 * 64)]) C (zX6_partAt (v / 64) (v - v / 64 * 64) ) ms_X6_partAt km_X6_391 (by decide) (by decide) ⟨Nat.le_refl _, Nat.le_refl _⟩ rfl rfl (Nat.le_of_ble_eq_true rfl) (dall tdX6_byOne 11 rfl) ?_
    refine r_lstore (lv' := [(4, .long (fX6_partAt (v / 64) (v - v / 64 * 64))), (0, .int a0_), (1, .long a1_), (3, .int v)]) C (dall tdX6_byOne 12 rfl) (by decide) rfl ?_
    refine r_lload C 0 (dall tdX6_byOne 13 rfl) rfl ?_
    refine r_iload_n C 1 (dall tdX6_byOne 14 rfl) rfl ?_
    refine r_s0I (as := [.long (fX6_partAt (v / 64) (v - v / 64 * 64)), .int a0_]) C (zX6_has (fX6_partAt (v / 64) (v - v / 64 * 64)) a0_ ) ms_X6_has km_X6_97 (by decide) (by decide) ⟨Nat.le_refl _, Nat.le_refl _⟩ rfl rfl (Nat.le_of_ble_eq_true rfl) (dall tdX6_byOne 15 rfl) ?_
    refine r_if_eq (tgt := 42) C (dall tdX6_byOne 16 rfl) (by decide) (fun c2 => ?_) (fun c2 => ?_)
    · have h := (if_pos c2).symm.trans h
      have ok := ok.1 c2
      refine r_pick [1, 2, 3] rfl ?_
      exact wX6_byOne_42 a0_ a1_ v C hR kR2 kO2 hk2 ok h
    · have h := (if_neg c2).symm.trans h
      have ok := ok.2 c2
      refine r_lload C 0 (dall tdX6_byOne 17 rfl) rfl ?_
      refine r_lload_n C 2 (dall tdX6_byOne 18 rfl) rfl ?_
      refine r_s0I (as := [.long (fX6_partAt (v / 64) (v - v / 64 * 64)), .long a1_]) C (zX6_can (fX6_partAt (v / 64) (v - v / 64 * 64)) a1_ ) ms_X6_can km_X6_395 (by decide) (by decide) ⟨Nat.le_refl _, Nat.le_refl _⟩ rfl rfl (Nat.le_of_ble_eq_true rfl) (dall tdX6_byOne 19 rfl) ?_
      refine r_if_eq (tgt := 42) C (dall tdX6_byOne 20 rfl) (by decide) (fun c3 => ?_) (fun c3 => ?_)
      · have h := (if_pos c3).symm.trans h
        have ok := ok.1 c3
        refine r_pick [1, 2, 3] rfl ?_
        exact wX6_byOne_42 a0_ a1_ v C hR kR2 kO2 hk2 ok h
      · have h := (if_neg c3).symm.trans h
        have ok := ok.2 c3
        refine r_iconst (v := 1) C (dall tdX6_byOne 21 rfl) (by decide) ?_
        exact r_zret C (by decide) hR (dall tdX6_byOne 22 rfl) (by subst h; exact ⟨rfl, rfl⟩)
set_option maxHeartbeats 4000000 in
set_option maxRecDepth 100000 in
theorem lX6_byOne_2 {X : CX} {tys : List (ClassId × FieldType)} {D : va_G} {A : Nat → Prop} {res : Int32} (a0_ : Int32) (a1_ : Int64) (C : Cx X cX6_byOne RX6 6 D tys A 2 0 0) (hR : Rt X (some .boolean) D tys A 0 0 (eI ([]) res))  (n : Nat) (v : Int32) (ok : lpOk (kX6_byOne_2 a0_ a1_ ) n v) (h : lp 0 (bX6_byOne_2 a0_ a1_ ) n v = res) : At X D A 6 0 0 2 [(0, .int a0_), (1, .long a1_), (3, .int v)] [] (([] : va_W)) :=
  lp_rule (fun v r => r = res → At X D A 6 0 0 2 [(0, .int a0_), (1, .long a1_), (3, .int v)] [] (([] : va_W))) (fun kR kO hk v ok h => wX6_byOne_2 a0_ a1_ C hR  kR kO hk v ok h) n v ok h
def pX6_byOne_0  (a0_ : Int32) (a1_ : Int64) : Int32 := lp 0 (bX6_byOne_2 a0_ a1_ ) fu 0
def oX6_byOne_0  (a0_ : Int32) (a1_ : Int64) : Prop := lpOk (kX6_byOne_2 a0_ a1_ ) fu 0
set_option maxHeartbeats 4000000 in
set_option maxRecDepth 100000 in
theorem wX6_byOne_0 {X : CX} {tys : List (ClassId × FieldType)} {D : va_G} {A : Nat → Prop} {res : Int32} (a0_ : Int32) (a1_ : Int64) (C : Cx X cX6_byOne RX6 6 D tys A 2 0 0) (hR : Rt X (some .boolean) D tys A 0 0 (eI ([]) res))  (ok : oX6_byOne_0  a0_ a1_) (h : pX6_byOne_0  a0_ a1_ = res) : At X D A 6 0 0 0 [(0, .int a0_), (1, .long a1_)] [] (([] : va_W)) := by
  unfold pX6_byOne_0 at h
  unfold oX6_byOne_0 at ok
  refine r_iconst (v := 0) C (dall tdX6_byOne 0 rfl) (by decide) ?_
  refine r_istore_n (lv' := [(3, .int 0), (0, .int a0_), (1, .long a1_)]) C (dall tdX6_byOne 1 rfl) (by decide) rfl ?_
  refine r_pick [1, 2, 0] rfl ?_
  exact lX6_byOne_2 a0_ a1_ C hR  fu _ ok h
def fX6_byOne (a0_ : Int32) (a1_ : Int64) : Int32 := pX6_byOne_0  a0_ a1_
def gX6_byOne (a0_ : Int32) (a1_ : Int64) : Prop := oX6_byOne_0  a0_ a1_
set_option maxRecDepth 100000 in
theorem zX6_byOne (a0_ : Int32) (a1_ : Int64) (ok : gX6_byOne a0_ a1_) {D : va_G} {tys : List (ClassId × FieldType)} : Con yX6_byOne cX6_byOne 6 (some .boolean) 2 0 0 D tys [.int a0_, .long a1_] ([]) (eI ([]) (fX6_byOne a0_ a1_)) :=
  Con.of (own := RX6) (by decide +kernel) rfl (Nat.le_of_ble_eq_true rfl) (Nat.zero_le _) (fun X A C hR _ => (wX6_byOne_0 a0_ a1_ C hR  ok rfl))
theorem ms_X6_byOne : MS_ yX6_byOne cX6_byOne 6 (some .boolean) 2 := ⟨ks_X6_byOne, kn_X6, kc_X6_byOne, by decide +kernel⟩
def tbX6_byTwo : List (Nat × Instr × Nat) := [(0, .iconst 0, 1), (1, .istore_n 3, 1), (2, .iload_n 3, 1), (3, .sipush 384, 3), (6, .if_icmp .ge 44, 3), (9, .iload_n 3, 1), (10, .bipush 64, 2), (12, .idiv, 1), (13, .iload_n 3, 1), (14, .bipush 64, 2), (16, .irem, 1), (17, .invokestatic 391, 3), (20, .lstore 4, 2), (22, .lload 4, 2), (24, .lload_n 1, 1), (25, .invokestatic 395, 3), (28, .ifCond .eq 16, 3), (31, .iload_n 0, 1), (32, .lload_n 1, 1), (33, .lload 4, 2), (35, .lor, 1), (36, .invokestatic 415, 3), (39, .ifCond .eq 5, 3), (42, .iconst 1, 1), (43, .ireturn, 1), (44, .iinc 3 1, 3), (47, .goto (-45), 3), (50, .iconst 0, 1), (51, .ireturn, 1)]
theorem tdX6_byTwo : tbX6_byTwo.all (fun q => decide (decode cX6_byTwo q.1 = .ok q.2)) = true := by decide +kernel
def pX6_byTwo_44 (kR2 : Int32 → Int32) (a0_ : Int32) (a1_ : Int64) (a3_ : Int32) : Int32 := kR2 (a3_ + 1)
def oX6_byTwo_44 (kO2 : Int32 → Prop) (a0_ : Int32) (a1_ : Int64) (a3_ : Int32) : Prop := kO2 (a3_ + 1)
set_option maxHeartbeats 4000000 in
set_option maxRecDepth 100000 in
theorem wX6_byTwo_44 {X : CX} {tys : List (ClassId × FieldType)} {D : va_G} {A : Nat → Prop} {res : Int32} (a0_ : Int32) (a1_ : Int64) (a3_ : Int32) (C : Cx X cX6_byTwo RX6 6 D tys A 3 0 0) (hR : Rt X (some .boolean) D tys A 0 0 (eI ([]) res)) (kR2 : Int32 → Int32) (kO2 : Int32 → Prop) (hk2 : ∀ z, kO2 z → kR2 z = res → At X D A 6 0 0 2 [(0, .int a0_), (1, .long a1_), (3, .int z)] [] (([] : va_W))) (ok : oX6_byTwo_44 kO2 a0_ a1_ a3_) (h : pX6_byTwo_44 kR2 a0_ a1_ a3_ = res) : At X D A 6 0 0 44 [(0, .int a0_), (1, .long a1_), (3, .int a3_)] [] (([] : va_W)) := by
  unfold pX6_byTwo_44 at h
  unfold oX6_byTwo_44 at ok
  refine r_iinc (v := a3_ + 1) (lv' := [(3, .int (a3_ + 1)), (0, .int a0_), (1, .long a1_)]) C 2 (dall tdX6_byTwo 25 rfl) rfl rfl (by decide) rfl ?_
  refine r_goto (tgt := 2) C (dall tdX6_byTwo 26 rfl) (by decide) ?_
  refine r_pick [1, 2, 0] rfl ?_
  exact hk2 (a3_ + 1) ok h
def bX6_byTwo_2 (a0_ : Int32) (a1_ : Int64)  (kR2 : Int32 → Int32) (v : Int32) : Int32 := if 384 ≤ v then 0 else if (fX6_can (fX6_partAt (v / 64) (v - v / 64 * 64)) a1_) = 0 then pX6_byTwo_44 kR2 a0_ a1_ v else if (fX6_byOne a0_ (a1_ ||| (fX6_partAt (v / 64) (v - v / 64 * 64)))) = 0 then pX6_byTwo_44 kR2 a0_ a1_ v else 1
def kX6_byTwo_2 (a0_ : Int32) (a1_ : Int64)  (kO2 : Int32 → Prop) (v : Int32) : Prop := (384 ≤ v → True) ∧ (¬ (384 ≤ v) → ((fX6_can (fX6_partAt (v / 64) (v - v / 64 * 64)) a1_) = 0 → oX6_byTwo_44 kO2 a0_ a1_ v) ∧ (¬ ((fX6_can (fX6_partAt (v / 64) (v - v / 64 * 64)) a1_) = 0) → (gX6_byOne a0_ (a1_ ||| (fX6_partAt (v / 64) (v - v / 64 * 64)))) ∧ (((fX6_byOne a0_ (a1_ ||| (fX6_partAt (v / 64) (v - v / 64 * 64)))) = 0 → oX6_byTwo_44 kO2 a0_ a1_ v) ∧ (¬ ((fX6_byOne a0_ (a1_ ||| (fX6_partAt (v / 64) (v - v / 64 * 64)))) = 0) → True))))
set_option maxHeartbeats 4000000 in
set_option maxRecDepth 100000 in
theorem wX6_byTwo_2 {X : CX} {tys : List (ClassId × FieldType)} {D : va_G} {A : Nat → Prop} {res : Int32} (a0_ : Int32) (a1_ : Int64) (C : Cx X cX6_byTwo RX6 6 D tys A 3 0 0) (hR : Rt X (some .boolean) D tys A 0 0 (eI ([]) res)) (kR2 : Int32 → Int32) (kO2 : Int32 → Prop) (hk2 : ∀ z, kO2 z → kR2 z = res → At X D A 6 0 0 2 [(0, .int a0_), (1, .long a1_), (3, .int z)] [] (([] : va_W))) (v : Int32) (ok : kX6_byTwo_2 a0_ a1_ kO2 v) (h : bX6_byTwo_2 a0_ a1_ kR2 v = res) : At X D A 6 0 0 2 [(0, .int a0_), (1, .long a1_), (3, .int v)] [] (([] : va_W)) := by
  unfold bX6_byTwo_2 at h
  unfold kX6_byTwo_2 at ok
  refine r_iload_n C 2 (dall tdX6_byTwo 2 rfl) rfl ?_
  refine r_sipush (v := 384) C (dall tdX6_byTwo 3 rfl) (by decide) ?_
  refine r_icmp_ge (tgt := 50) C (dall tdX6_byTwo 4 rfl) (by decide) (fun c1 => ?_) (fun c1 => ?_)
  · have h := (if_pos c1).symm.trans h
    have ok := ok.1 c1
    refine r_iconst (v := 0) C (dall tdX6_byTwo 27 rfl) (by decide) ?_
    exact r_zret C (by decide) hR (dall tdX6_byTwo 28 rfl) (by subst h; exact ⟨rfl, rfl⟩)
  · have h := (if_neg c1).symm.trans h
    have ok := ok.2 c1
    refine r_iload_n C 2 (dall tdX6_byTwo 5 rfl) rfl ?_
    refine r_bipush (v := 64) C (dall tdX6_byTwo 6 rfl) (by decide) ?_
    refine r_idiv C (dall tdX6_byTwo 7 rfl) (by decide) ?_
    refine r_iload_n C 2 (dall tdX6_byTwo 8 rfl) rfl ?_
    refine r_bipush (v := 64) C (dall tdX6_byTwo 9 rfl) (by decide) ?_
    refine r_irem C (dall tdX6_byTwo 10 rfl) (by decide) ?_
    refine r_s0L (as := [.int (v / 64), .int (v - v / 64 * 64)]) C (zX6_partAt (v / 64) (v - v / 64 * 64) ) ms_X6_partAt km_X6_391 (by decide) (by decide) ⟨Nat.le_refl _, Nat.le_refl _⟩ rfl rfl (Nat.le_of_ble_eq_true rfl) (dall tdX6_byTwo 11 rfl) ?_
    refine r_lstore (lv' := [(4, .long (fX6_partAt (v / 64) (v - v / 64 * 64))), (0, .int a0_), (1, .long a1_), (3, .int v)]) C (dall tdX6_byTwo 12 rfl) (by decide) rfl ?_
    refine r_lload C 0 (dall tdX6_byTwo 13 rfl) rfl ?_
    refine r_lload_n C 2 (dall tdX6_byTwo 14 rfl) rfl ?_
    refine r_s0I (as := [.long (fX6_partAt (v / 64) (v - v / 64 * 64)), .long a1_]) C (zX6_can (fX6_partAt (v / 64) (v - v / 64 * 64)) a1_ ) ms_X6_can km_X6_395 (by decide) (by decide) ⟨Nat.le_refl _, Nat.le_refl _⟩ rfl rfl (Nat.le_of_ble_eq_true rfl) (dall tdX6_byTwo 15 rfl) ?_
    refine r_if_eq (tgt := 44) C (dall tdX6_byTwo 16 rfl) (by decide) (fun c2 => ?_) (fun c2 => ?_)
    · have h := (if_pos c2).symm.trans h
      have ok := ok.1 c2
      refine r_pick [1, 2, 3] rfl ?_
      exact wX6_byTwo_44 a0_ a1_ v C hR kR2 kO2 hk2 ok h
    · have h := (if_neg c2).symm.trans h
      have ok := ok.2 c2
      refine r_iload_n C 1 (dall tdX6_byTwo 17 rfl) rfl ?_
      refine r_lload_n C 2 (dall tdX6_byTwo 18 rfl) rfl ?_
      refine r_lload C 0 (dall tdX6_byTwo 19 rfl) rfl ?_
      refine r_lor C (dall tdX6_byTwo 20 rfl) ?_
      obtain ⟨o3, ok⟩ := ok
      refine r_s0I (as := [.int a0_, .long (a1_ ||| (fX6_partAt (v / 64) (v - v / 64 * 64)))]) C (zX6_byOne a0_ (a1_ ||| (fX6_partAt (v / 64) (v - v / 64 * 64))) o3) ms_X6_byOne km_X6_415 (by decide) (by decide) ⟨Nat.le_refl _, Nat.le_refl _⟩ rfl rfl (Nat.le_of_ble_eq_true rfl) (dall tdX6_byTwo 21 rfl) ?_
      refine r_if_eq (tgt := 44) C (dall tdX6_byTwo 22 rfl) (by decide) (fun c4 => ?_) (fun c4 => ?_)
      · have h := (if_pos c4).symm.trans h
        have ok := ok.1 c4
        refine r_pick [1, 2, 3] rfl ?_
        exact wX6_byTwo_44 a0_ a1_ v C hR kR2 kO2 hk2 ok h
      · have h := (if_neg c4).symm.trans h
        have ok := ok.2 c4
        refine r_iconst (v := 1) C (dall tdX6_byTwo 23 rfl) (by decide) ?_
        exact r_zret C (by decide) hR (dall tdX6_byTwo 24 rfl) (by subst h; exact ⟨rfl, rfl⟩)
set_option maxHeartbeats 4000000 in
set_option maxRecDepth 100000 in
theorem lX6_byTwo_2 {X : CX} {tys : List (ClassId × FieldType)} {D : va_G} {A : Nat → Prop} {res : Int32} (a0_ : Int32) (a1_ : Int64) (C : Cx X cX6_byTwo RX6 6 D tys A 3 0 0) (hR : Rt X (some .boolean) D tys A 0 0 (eI ([]) res))  (n : Nat) (v : Int32) (ok : lpOk (kX6_byTwo_2 a0_ a1_ ) n v) (h : lp 0 (bX6_byTwo_2 a0_ a1_ ) n v = res) : At X D A 6 0 0 2 [(0, .int a0_), (1, .long a1_), (3, .int v)] [] (([] : va_W)) :=
  lp_rule (fun v r => r = res → At X D A 6 0 0 2 [(0, .int a0_), (1, .long a1_), (3, .int v)] [] (([] : va_W))) (fun kR kO hk v ok h => wX6_byTwo_2 a0_ a1_ C hR  kR kO hk v ok h) n v ok h
def pX6_byTwo_0  (a0_ : Int32) (a1_ : Int64) : Int32 := lp 0 (bX6_byTwo_2 a0_ a1_ ) fu 0
def oX6_byTwo_0  (a0_ : Int32) (a1_ : Int64) : Prop := lpOk (kX6_byTwo_2 a0_ a1_ ) fu 0
set_option maxHeartbeats 4000000 in
set_option maxRecDepth 100000 in
theorem wX6_byTwo_0 {X : CX} {tys : List (ClassId × FieldType)} {D : va_G} {A : Nat → Prop} {res : Int32} (a0_ : Int32) (a1_ : Int64) (C : Cx X cX6_byTwo RX6 6 D tys A 3 0 0) (hR : Rt X (some .boolean) D tys A 0 0 (eI ([]) res))  (ok : oX6_byTwo_0  a0_ a1_) (h : pX6_byTwo_0  a0_ a1_ = res) : At X D A 6 0 0 0 [(0, .int a0_), (1, .long a1_)] [] (([] : va_W)) := by
  unfold pX6_byTwo_0 at h
  unfold oX6_byTwo_0 at ok
  refine r_iconst (v := 0) C (dall tdX6_byTwo 0 rfl) (by decide) ?_
  refine r_istore_n (lv' := [(3, .int 0), (0, .int a0_), (1, .long a1_)]) C (dall tdX6_byTwo 1 rfl) (by decide) rfl ?_
  refine r_pick [1, 2, 0] rfl ?_
  exact lX6_byTwo_2 a0_ a1_ C hR  fu _ ok h
def fX6_byTwo (a0_ : Int32) (a1_ : Int64) : Int32 := pX6_byTwo_0  a0_ a1_
def gX6_byTwo (a0_ : Int32) (a1_ : Int64) : Prop := oX6_byTwo_0  a0_ a1_
set_option maxRecDepth 100000 in
theorem zX6_byTwo (a0_ : Int32) (a1_ : Int64) (ok : gX6_byTwo a0_ a1_) {D : va_G} {tys : List (ClassId × FieldType)} : Con yX6_byTwo cX6_byTwo 6 (some .boolean) 3 0 0 D tys [.int a0_, .long a1_] ([]) (eI ([]) (fX6_byTwo a0_ a1_)) :=
  Con.of (own := RX6) (by decide +kernel) rfl (Nat.le_of_ble_eq_true rfl) (Nat.zero_le _) (fun X A C hR _ => (wX6_byTwo_0 a0_ a1_ C hR  ok rfl))
theorem ms_X6_byTwo : MS_ yX6_byTwo cX6_byTwo 6 (some .boolean) 2 := ⟨ks_X6_byTwo, kn_X6, kc_X6_byTwo, by decide +kernel⟩
def tbX6_lowest : List (Nat × Instr × Nat) := [(0, .lload_n 0, 1), (1, .lstore 5, 2), (3, .lload_n 2, 1), (4, .lstore 7, 2), (6, .lload 7, 2), (8, .lconst 0, 1), (9, .lcmp, 1), (10, .ifCond .eq 21, 3), (13, .lload 5, 2), (15, .lload 7, 2), (17, .lrem, 1), (18, .lstore 9, 2), (20, .lload 7, 2), (22, .lstore 5, 2), (24, .lload 9, 2), (26, .lstore 7, 2), (28, .goto (-22), 3), (31, .iload 4, 2), (33, .ifCond .ne 10, 3), (36, .lload_n 0, 1), (37, .lload 5, 2), (39, .ldiv, 1), (40, .goto 7, 3), (43, .lload_n 2, 1), (44, .lload 5, 2), (46, .ldiv, 1), (47, .lreturn, 1)]
theorem tdX6_lowest : tbX6_lowest.all (fun q => decide (decode cX6_lowest q.1 = .ok q.2)) = true := by decide +kernel
def bX6_lowest_6 (a0_ : Int64) (a2_ : Int64) (a4_ : Int32)  (kR6 : Int64 × Int64 → Int64) (v : Int64 × Int64) : Int64 := if v.2 = 0 then if a4_ = 0 then a0_ / v.1 else a2_ / v.1 else kR6 (v.2, v.1 - v.1 / v.2 * v.2)
def kX6_lowest_6 (a0_ : Int64) (a2_ : Int64) (a4_ : Int32)  (kO6 : Int64 × Int64 → Prop) (v : Int64 × Int64) : Prop := (v.2 = 0 → (a4_ = 0 → ¬ v.1 = 0) ∧ (¬ (a4_ = 0) → ¬ v.1 = 0)) ∧ (¬ (v.2 = 0) → (¬ v.2 = 0) ∧ (kO6 (v.2, v.1 - v.1 / v.2 * v.2)))
set_option maxHeartbeats 4000000 in
set_option maxRecDepth 100000 in
theorem wX6_lowest_6 {X : CX} {tys : List (ClassId × FieldType)} {D : va_G} {A : Nat → Prop} {res : Int64} (a0_ : Int64) (a2_ : Int64) (a4_ : Int32) (C : Cx X cX6_lowest RX6 11 D tys A 0 0 0) (hR : Rt X (some .long) D tys A 0 0 (eL ([]) res)) (kR6 : Int64 × Int64 → Int64) (kO6 : Int64 × Int64 → Prop) (hk6 : ∀ z, kO6 z → kR6 z = res → At X D A 11 0 0 6 [(0, .long a0_), (2, .long a2_), (4, .int a4_), (5, .long z.1), (7, .long z.2)] [] (([] : va_W))) (v : Int64 × Int64) (ok : kX6_lowest_6 a0_ a2_ a4_ kO6 v) (h : bX6_lowest_6 a0_ a2_ a4_ kR6 v = res) : At X D A 11 0 0 6 [(0, .long a0_), (2, .long a2_), (4, .int a4_), (5, .long v.1), (7, .long v.2)] [] (([] : va_W)) := by
  unfold bX6_lowest_6 at h
  unfold kX6_lowest_6 at ok
  refine r_lload C 4 (dall tdX6_lowest 4 rfl) rfl ?_
  refine r_lconst (v := 0) C (dall tdX6_lowest 5 rfl) (by decide) ?_
  refine r_lif_eq (tgt := 31) C (dall tdX6_lowest 6 rfl) (dall tdX6_lowest 7 rfl) (by decide) (fun c1 => ?_) (fun c1 => ?_)
  · have h := (if_pos c1).symm.trans h
    have ok := ok.1 c1
    refine r_iload C 2 (dall tdX6_lowest 17 rfl) rfl ?_
    refine r_if_ne (tgt := 43) C (dall tdX6_lowest 18 rfl) (by decide) (fun c2 => ?_) (fun c2 => ?_)
    · have h := (if_neg c2).symm.trans h
      have ok := ok.2 c2
      refine r_lload_n C 1 (dall tdX6_lowest 23 rfl) rfl ?_
      refine r_lload C 3 (dall tdX6_lowest 24 rfl) rfl ?_
      have o3 := ok
      refine r_ldiv C (dall tdX6_lowest 25 rfl) o3 ?_
      exact r_lret C hR (dall tdX6_lowest 26 rfl) (by subst h; exact ⟨rfl, rfl⟩)
    · have h := (if_pos c2).symm.trans h
      have ok := ok.1 c2
      refine r_lload_n C 0 (dall tdX6_lowest 19 rfl) rfl ?_
      refine r_lload C 3 (dall tdX6_lowest 20 rfl) rfl ?_
      have o4 := ok
      refine r_ldiv C (dall tdX6_lowest 21 rfl) o4 ?_
      refine r_goto (tgt := 47) C (dall tdX6_lowest 22 rfl) (by decide) ?_
      exact r_lret C hR (dall tdX6_lowest 26 rfl) (by subst h; exact ⟨rfl, rfl⟩)
  · have h := (if_neg c1).symm.trans h
    have ok := ok.2 c1
    refine r_lload C 3 (dall tdX6_lowest 8 rfl) rfl ?_
    refine r_lload C 4 (dall tdX6_lowest 9 rfl) rfl ?_
    obtain ⟨o5, ok⟩ := ok
    refine r_lrem C (dall tdX6_lowest 10 rfl) o5 ?_
    refine r_lstore (lv' := [(9, .long (v.1 - v.1 / v.2 * v.2)), (0, .long a0_), (2, .long a2_), (4, .int a4_), (5, .long v.1), (7, .long v.2)]) C (dall tdX6_lowest 11 rfl) (by decide) rfl ?_
    refine r_lload C 5 (dall tdX6_lowest 12 rfl) rfl ?_
    refine r_lstore (lv' := [(5, .long v.2), (9, .long (v.1 - v.1 / v.2 * v.2)), (0, .long a0_), (2, .long a2_), (4, .int a4_), (7, .long v.2)]) C (dall tdX6_lowest 13 rfl) (by decide) rfl ?_
    refine r_lload C 1 (dall tdX6_lowest 14 rfl) rfl ?_
    refine r_lstore (lv' := [(7, .long (v.1 - v.1 / v.2 * v.2)), (5, .long v.2), (9, .long (v.1 - v.1 / v.2 * v.2)), (0, .long a0_), (2, .long a2_), (4, .int a4_)]) C (dall tdX6_lowest 15 rfl) (by decide) rfl ?_
    refine r_goto (tgt := 6) C (dall tdX6_lowest 16 rfl) (by decide) ?_
    refine r_pick [3, 4, 5, 1, 0] rfl ?_
    exact hk6 (v.2, v.1 - v.1 / v.2 * v.2) ok h
set_option maxHeartbeats 4000000 in
set_option maxRecDepth 100000 in
theorem lX6_lowest_6 {X : CX} {tys : List (ClassId × FieldType)} {D : va_G} {A : Nat → Prop} {res : Int64} (a0_ : Int64) (a2_ : Int64) (a4_ : Int32) (C : Cx X cX6_lowest RX6 11 D tys A 0 0 0) (hR : Rt X (some .long) D tys A 0 0 (eL ([]) res))  (n : Nat) (v : Int64 × Int64) (ok : lpOk (kX6_lowest_6 a0_ a2_ a4_ ) n v) (h : lp 0 (bX6_lowest_6 a0_ a2_ a4_ ) n v = res) : At X D A 11 0 0 6 [(0, .long a0_), (2, .long a2_), (4, .int a4_), (5, .long v.1), (7, .long v.2)] [] (([] : va_W)) :=
  lp_rule (fun v r => r = res → At X D A 11 0 0 6 [(0, .long a0_), (2, .long a2_), (4, .int a4_), (5, .long v.1), (7, .long v.2)] [] (([] : va_W))) (fun kR kO hk v ok h => wX6_lowest_6 a0_ a2_ a4_ C hR  kR kO hk v ok h) n v ok h
def pX6_lowest_0  (a0_ : Int64) (a2_ : Int64) (a4_ : Int32) : Int64 := lp 0 (bX6_lowest_6 a0_ a2_ a4_ ) fu (a0_, a2_)
def oX6_lowest_0  (a0_ : Int64) (a2_ : Int64) (a4_ : Int32) : Prop := lpOk (kX6_lowest_6 a0_ a2_ a4_ ) fu (a0_, a2_)
set_option maxHeartbeats 4000000 in
set_option maxRecDepth 100000 in
theorem wX6_lowest_0 {X : CX} {tys : List (ClassId × FieldType)} {D : va_G} {A : Nat → Prop} {res : Int64} (a0_ : Int64) (a2_ : Int64) (a4_ : Int32) (C : Cx X cX6_lowest RX6 11 D tys A 0 0 0) (hR : Rt X (some .long) D tys A 0 0 (eL ([]) res))  (ok : oX6_lowest_0  a0_ a2_ a4_) (h : pX6_lowest_0  a0_ a2_ a4_ = res) : At X D A 11 0 0 0 [(0, .long a0_), (2, .long a2_), (4, .int a4_)] [] (([] : va_W)) := by
  unfold pX6_lowest_0 at h
  unfold oX6_lowest_0 at ok
  refine r_lload_n C 0 (dall tdX6_lowest 0 rfl) rfl ?_
  refine r_lstore (lv' := [(5, .long a0_), (0, .long a0_), (2, .long a2_), (4, .int a4_)]) C (dall tdX6_lowest 1 rfl) (by decide) rfl ?_
  refine r_lload_n C 2 (dall tdX6_lowest 2 rfl) rfl ?_
  refine r_lstore (lv' := [(7, .long a2_), (5, .long a0_), (0, .long a0_), (2, .long a2_), (4, .int a4_)]) C (dall tdX6_lowest 3 rfl) (by decide) rfl ?_
  refine r_pick [2, 3, 4, 1, 0] rfl ?_
  exact lX6_lowest_6 a0_ a2_ a4_ C hR  fu _ ok h
def fX6_lowest (a0_ : Int64) (a2_ : Int64) (a4_ : Int32) : Int64 := pX6_lowest_0  a0_ a2_ a4_
def gX6_lowest (a0_ : Int64) (a2_ : Int64) (a4_ : Int32) : Prop := oX6_lowest_0  a0_ a2_ a4_
set_option maxRecDepth 100000 in
theorem zX6_lowest (a0_ : Int64) (a2_ : Int64) (a4_ : Int32) (ok : gX6_lowest a0_ a2_ a4_) {D : va_G} {tys : List (ClassId × FieldType)} : Con yX6_lowest cX6_lowest 11 (some .long) 0 0 0 D tys [.long a0_, .long a2_, .int a4_] ([]) (eL ([]) (fX6_lowest a0_ a2_ a4_)) :=
  Con.of (own := RX6) (by decide +kernel) rfl (Nat.le_of_ble_eq_true rfl) (Nat.zero_le _) (fun X A C hR _ => (wX6_lowest_0 a0_ a2_ a4_ C hR  ok rfl))
theorem ms_X6_lowest : MS_ yX6_lowest cX6_lowest 11 (some .long) 3 := ⟨ks_X6_lowest, kn_X6, kc_X6_lowest, by decide +kernel⟩
def tbX6_isSheet : List (Nat × Instr × Nat) := [(0, .iload_n 0, 1), (1, .i2l, 1), (2, .lconst 0, 1), (3, .ldc2_w 84, 3), (6, .invokestatic 74, 3), (9, .ireturn, 1)]
theorem tdX6_isSheet : tbX6_isSheet.all (fun q => decide (decode cX6_isSheet q.1 = .ok q.2)) = true := by decide +kernel
def pX6_isSheet_0  (a0_ : Int32) : Int32 := fX6_in a0_.toInt64 0 (3)
def oX6_isSheet_0  (a0_ : Int32) : Prop := narrow .boolean (.int (fX6_in a0_.toInt64 0 (3))) = .int (fX6_in a0_.toInt64 0 (3))
set_option maxHeartbeats 4000000 in
set_option maxRecDepth 100000 in
theorem wX6_isSheet_0 {X : CX} {tys : List (ClassId × FieldType)} {D : va_G} {A : Nat → Prop} {res : Int32} (a0_ : Int32) (C : Cx X cX6_isSheet RX6 1 D tys A 1 0 0) (hR : Rt X (some .boolean) D tys A 0 0 (eI ([]) res))  (ok : oX6_isSheet_0  a0_) (h : pX6_isSheet_0  a0_ = res) : At X D A 1 0 0 0 [(0, .int a0_)] [] (([] : va_W)) := by
  unfold pX6_isSheet_0 at h
  unfold oX6_isSheet_0 at ok
  refine r_iload_n C 0 (dall tdX6_isSheet 0 rfl) rfl ?_
  refine r_i2l C (dall tdX6_isSheet 1 rfl) ?_
  refine r_lconst (v := 0) C (dall tdX6_isSheet 2 rfl) (by decide) ?_
  refine r_ldc2 C kk_X6_84 (dall tdX6_isSheet 3 rfl) ?_
  refine r_s0I (as := [.long a0_.toInt64, .long 0, .long (3)]) C (zX6_in a0_.toInt64 0 (3) ) ms_X6_in km_X6_74 (by decide) (by decide) ⟨Nat.le_refl _, Nat.le_refl _⟩ rfl rfl (Nat.le_of_ble_eq_true rfl) (dall tdX6_isSheet 4 rfl) ?_
  have o1 := ok
  exact r_zret C o1 hR (dall tdX6_isSheet 5 rfl) (by subst h; exact ⟨rfl, rfl⟩)
def fX6_isSheet (a0_ : Int32) : Int32 := pX6_isSheet_0  a0_
def gX6_isSheet (a0_ : Int32) : Prop := oX6_isSheet_0  a0_
set_option maxRecDepth 100000 in
theorem zX6_isSheet (a0_ : Int32) (ok : gX6_isSheet a0_) {D : va_G} {tys : List (ClassId × FieldType)} : Con yX6_isSheet cX6_isSheet 1 (some .boolean) 1 0 0 D tys [.int a0_] ([]) (eI ([]) (fX6_isSheet a0_)) :=
  Con.of (own := RX6) (by decide +kernel) rfl (Nat.le_of_ble_eq_true rfl) (Nat.zero_le _) (fun X A C hR _ => (wX6_isSheet_0 a0_ C hR  ok rfl))
theorem ms_X6_isSheet : MS_ yX6_isSheet cX6_isSheet 1 (some .boolean) 1 := ⟨ks_X6_isSheet, kn_X6, kc_X6_isSheet, by decide +kernel⟩
def tbX6_over : List (Nat × Instr × Nat) := [(0, .iload_n 0, 1), (1, .ifCond .ne 7, 3), (4, .iconst (-1), 1), (5, .goto 22, 3), (8, .iload_n 0, 1), (9, .iconst 3, 1), (10, .if_icmp .ne 7, 3), (13, .iconst 1, 1), (14, .goto 13, 3), (17, .iload_n 0, 1), (18, .iconst 4, 1), (19, .if_icmp .ne 7, 3), (22, .iconst 2, 1), (23, .goto 4, 3), (26, .iconst 0, 1), (27, .ireturn, 1)]
theorem tdX6_over : tbX6_over.all (fun q => decide (decode cX6_over q.1 = .ok q.2)) = true := by decide +kernel
def pX6_over_0  (a0_ : Int32) : Int32 := if a0_ = 0 then (-1) else if a0_ = 3 then 1 else if a0_ = 4 then 2 else 0
set_option maxHeartbeats 4000000 in
set_option maxRecDepth 100000 in
theorem wX6_over_0 {X : CX} {tys : List (ClassId × FieldType)} {D : va_G} {A : Nat → Prop} {res : Int32} (a0_ : Int32) (C : Cx X cX6_over RX6 1 D tys A 0 0 0) (hR : Rt X (some .int) D tys A 0 0 (eI ([]) res))  (h : pX6_over_0  a0_ = res) : At X D A 1 0 0 0 [(0, .int a0_)] [] (([] : va_W)) := by
  unfold pX6_over_0 at h
  refine r_iload_n C 0 (dall tdX6_over 0 rfl) rfl ?_
  refine r_if_ne (tgt := 8) C (dall tdX6_over 1 rfl) (by decide) (fun c1 => ?_) (fun c1 => ?_)
  · have h := (if_neg c1).symm.trans h
    refine r_iload_n C 0 (dall tdX6_over 4 rfl) rfl ?_
    refine r_iconst (v := 3) C (dall tdX6_over 5 rfl) (by decide) ?_
    refine r_icmp_ne (tgt := 17) C (dall tdX6_over 6 rfl) (by decide) (fun c2 => ?_) (fun c2 => ?_)
    · have h := (if_neg c2).symm.trans h
      refine r_iload_n C 0 (dall tdX6_over 9 rfl) rfl ?_
      refine r_iconst (v := 4) C (dall tdX6_over 10 rfl) (by decide) ?_
      refine r_icmp_ne (tgt := 26) C (dall tdX6_over 11 rfl) (by decide) (fun c3 => ?_) (fun c3 => ?_)
      · have h := (if_neg c3).symm.trans h
        refine r_iconst (v := 0) C (dall tdX6_over 14 rfl) (by decide) ?_
        exact r_iret C hR (dall tdX6_over 15 rfl) (by subst h; exact ⟨rfl, rfl⟩)
      · have h := (if_pos c3).symm.trans h
        refine r_iconst (v := 2) C (dall tdX6_over 12 rfl) (by decide) ?_
        refine r_goto (tgt := 27) C (dall tdX6_over 13 rfl) (by decide) ?_
        exact r_iret C hR (dall tdX6_over 15 rfl) (by subst h; exact ⟨rfl, rfl⟩)
    · have h := (if_pos c2).symm.trans h
      refine r_iconst (v := 1) C (dall tdX6_over 7 rfl) (by decide) ?_
      refine r_goto (tgt := 27) C (dall tdX6_over 8 rfl) (by decide) ?_
      exact r_iret C hR (dall tdX6_over 15 rfl) (by subst h; exact ⟨rfl, rfl⟩)
  · have h := (if_pos c1).symm.trans h
    refine r_iconst (v := -1) C (dall tdX6_over 2 rfl) (by decide) ?_
    refine r_goto (tgt := 27) C (dall tdX6_over 3 rfl) (by decide) ?_
    exact r_iret C hR (dall tdX6_over 15 rfl) (by subst h; exact ⟨rfl, rfl⟩)
def fX6_over (a0_ : Int32) : Int32 := pX6_over_0  a0_
set_option maxRecDepth 100000 in
theorem zX6_over (a0_ : Int32) {D : va_G} {tys : List (ClassId × FieldType)} : Con yX6_over cX6_over 1 (some .int) 0 0 0 D tys [.int a0_] ([]) (eI ([]) (fX6_over a0_)) :=
  Con.of (own := RX6) (by decide +kernel) rfl (Nat.le_of_ble_eq_true rfl) (Nat.zero_le _) (fun X A C hR _ => (wX6_over_0 a0_ C hR  rfl))
theorem ms_X6_over : MS_ yX6_over cX6_over 1 (some .int) 1 := ⟨ks_X6_over, kn_X6, kc_X6_over, by decide +kernel⟩
end
section
abbrev fX6 (q : Nat → Nat) (σ : OS) : List Value := [.int (σ.1 0), .ref (q 1), .ref (q 2), .int (σ.1 3), .int (σ.1 4), .ref (q 5), .int (σ.1 6), .int (σ.1 7), .int (σ.1 8), .long (σ.2.1 9), .ref (q 10), .ref (q 11), .int (σ.1 12), .int (σ.1 13), .int (σ.1 14), .int (σ.1 15), .int (σ.1 16), .int (σ.1 17), .int (σ.1 18), .int (σ.1 19), .int (σ.1 20), .int (σ.1 21), .int (σ.1 22), .int (σ.1 23), .long (σ.2.1 24), .int (σ.1 25), .int (σ.1 26), .int (σ.1 27), .ref (q 28), .ref (q 29), .ref (q 30), .ref (q 31), .int (σ.1 32), .int (σ.1 33), .int (σ.1 34), .int (σ.1 35), .long (σ.2.1 36), .ref (q 37), .ref (q 38), .ref (q 39), .ref (q 40)]
def wX6 (cy : Nat → ClassId) (q : Nat → Nat) (σ : OS) : va_W := [(q 41, .inr (5, fX6 q σ)), (q 1, .inl (cy 0, 960, .inl (σ.2.2.1 1))), (q 2, .inl (cy 0, 6, .inl (σ.2.2.1 2))), (q 5, .inl (cy 0, 160, .inl (σ.2.2.1 5))), (q 10, .inl (cy 0, 15, .inl (σ.2.2.1 10))), (q 11, .inl (cy 1, 5, .inr (.inl (σ.2.2.2 11)))), (q 28, .inl (cy 0, 17, .inl (σ.2.2.1 28))), (q 29, .inl (cy 1, 5, .inr (.inl (σ.2.2.2 29)))), (q 30, .inl (cy 0, 15, .inl (σ.2.2.1 30))), (q 31, .inl (cy 1, 5, .inr (.inl (σ.2.2.2 31)))), (q 37, .inl (cy 2, 4, .inl (σ.2.2.1 37))), (q 38, .inl (cy 0, 4, .inl (σ.2.2.1 38))), (q 39, .inl (cy 0, 4, .inl (σ.2.2.1 39))), (q 40, .inl (cy 0, 160, .inl (σ.2.2.1 40)))]
theorem pu_X6_0 (cy : Nat → ClassId) (q : Nat → Nat) (σ : OS) (v : Int32) : (wX6 cy q σ).set 0 (q 41, .inr (5, (fX6 q σ).set 0 (.int v))) = wX6 cy q (oI σ 0 v) := rfl
theorem pu_X6_3 (cy : Nat → ClassId) (q : Nat → Nat) (σ : OS) (v : Int32) : (wX6 cy q σ).set 0 (q 41, .inr (5, (fX6 q σ).set 3 (.int v))) = wX6 cy q (oI σ 3 v) := rfl
theorem pu_X6_4 (cy : Nat → ClassId) (q : Nat → Nat) (σ : OS) (v : Int32) : (wX6 cy q σ).set 0 (q 41, .inr (5, (fX6 q σ).set 4 (.int v))) = wX6 cy q (oI σ 4 v) := rfl
theorem pu_X6_6 (cy : Nat → ClassId) (q : Nat → Nat) (σ : OS) (v : Int32) : (wX6 cy q σ).set 0 (q 41, .inr (5, (fX6 q σ).set 6 (.int v))) = wX6 cy q (oI σ 6 v) := rfl
theorem pu_X6_7 (cy : Nat → ClassId) (q : Nat → Nat) (σ : OS) (v : Int32) : (wX6 cy q σ).set 0 (q 41, .inr (5, (fX6 q σ).set 7 (.int v))) = wX6 cy q (oI σ 7 v) := rfl
theorem pu_X6_8 (cy : Nat → ClassId) (q : Nat → Nat) (σ : OS) (v : Int32) : (wX6 cy q σ).set 0 (q 41, .inr (5, (fX6 q σ).set 8 (.int v))) = wX6 cy q (oI σ 8 v) := rfl
theorem pu_X6_9 (cy : Nat → ClassId) (q : Nat → Nat) (σ : OS) (v : Int64) : (wX6 cy q σ).set 0 (q 41, .inr (5, (fX6 q σ).set 9 (.long v))) = wX6 cy q (oL σ 9 v) := rfl
theorem pu_X6_12 (cy : Nat → ClassId) (q : Nat → Nat) (σ : OS) (v : Int32) : (wX6 cy q σ).set 0 (q 41, .inr (5, (fX6 q σ).set 12 (.int v))) = wX6 cy q (oI σ 12 v) := rfl
theorem pu_X6_13 (cy : Nat → ClassId) (q : Nat → Nat) (σ : OS) (v : Int32) : (wX6 cy q σ).set 0 (q 41, .inr (5, (fX6 q σ).set 13 (.int v))) = wX6 cy q (oI σ 13 v) := rfl
theorem pu_X6_14 (cy : Nat → ClassId) (q : Nat → Nat) (σ : OS) (v : Int32) : (wX6 cy q σ).set 0 (q 41, .inr (5, (fX6 q σ).set 14 (.int v))) = wX6 cy q (oI σ 14 v) := rfl
theorem pu_X6_15 (cy : Nat → ClassId) (q : Nat → Nat) (σ : OS) (v : Int32) : (wX6 cy q σ).set 0 (q 41, .inr (5, (fX6 q σ).set 15 (.int v))) = wX6 cy q (oI σ 15 v) := rfl
theorem pu_X6_16 (cy : Nat → ClassId) (q : Nat → Nat) (σ : OS) (v : Int32) : (wX6 cy q σ).set 0 (q 41, .inr (5, (fX6 q σ).set 16 (.int v))) = wX6 cy q (oI σ 16 v) := rfl
theorem pu_X6_17 (cy : Nat → ClassId) (q : Nat → Nat) (σ : OS) (v : Int32) : (wX6 cy q σ).set 0 (q 41, .inr (5, (fX6 q σ).set 17 (.int v))) = wX6 cy q (oI σ 17 v) := rfl
theorem pu_X6_18 (cy : Nat → ClassId) (q : Nat → Nat) (σ : OS) (v : Int32) : (wX6 cy q σ).set 0 (q 41, .inr (5, (fX6 q σ).set 18 (.int v))) = wX6 cy q (oI σ 18 v) := rfl
theorem pu_X6_19 (cy : Nat → ClassId) (q : Nat → Nat) (σ : OS) (v : Int32) : (wX6 cy q σ).set 0 (q 41, .inr (5, (fX6 q σ).set 19 (.int v))) = wX6 cy q (oI σ 19 v) := rfl
theorem pu_X6_20 (cy : Nat → ClassId) (q : Nat → Nat) (σ : OS) (v : Int32) : (wX6 cy q σ).set 0 (q 41, .inr (5, (fX6 q σ).set 20 (.int v))) = wX6 cy q (oI σ 20 v) := rfl
theorem pu_X6_21 (cy : Nat → ClassId) (q : Nat → Nat) (σ : OS) (v : Int32) : (wX6 cy q σ).set 0 (q 41, .inr (5, (fX6 q σ).set 21 (.int v))) = wX6 cy q (oI σ 21 v) := rfl
theorem pu_X6_22 (cy : Nat → ClassId) (q : Nat → Nat) (σ : OS) (v : Int32) : (wX6 cy q σ).set 0 (q 41, .inr (5, (fX6 q σ).set 22 (.int v))) = wX6 cy q (oI σ 22 v) := rfl
theorem pu_X6_23 (cy : Nat → ClassId) (q : Nat → Nat) (σ : OS) (v : Int32) : (wX6 cy q σ).set 0 (q 41, .inr (5, (fX6 q σ).set 23 (.int v))) = wX6 cy q (oI σ 23 v) := rfl
theorem pu_X6_24 (cy : Nat → ClassId) (q : Nat → Nat) (σ : OS) (v : Int64) : (wX6 cy q σ).set 0 (q 41, .inr (5, (fX6 q σ).set 24 (.long v))) = wX6 cy q (oL σ 24 v) := rfl
theorem pu_X6_25 (cy : Nat → ClassId) (q : Nat → Nat) (σ : OS) (v : Int32) : (wX6 cy q σ).set 0 (q 41, .inr (5, (fX6 q σ).set 25 (.int v))) = wX6 cy q (oI σ 25 v) := rfl
theorem pu_X6_26 (cy : Nat → ClassId) (q : Nat → Nat) (σ : OS) (v : Int32) : (wX6 cy q σ).set 0 (q 41, .inr (5, (fX6 q σ).set 26 (.int v))) = wX6 cy q (oI σ 26 v) := rfl
theorem pu_X6_27 (cy : Nat → ClassId) (q : Nat → Nat) (σ : OS) (v : Int32) : (wX6 cy q σ).set 0 (q 41, .inr (5, (fX6 q σ).set 27 (.int v))) = wX6 cy q (oI σ 27 v) := rfl
theorem pu_X6_32 (cy : Nat → ClassId) (q : Nat → Nat) (σ : OS) (v : Int32) : (wX6 cy q σ).set 0 (q 41, .inr (5, (fX6 q σ).set 32 (.int v))) = wX6 cy q (oI σ 32 v) := rfl
theorem pu_X6_33 (cy : Nat → ClassId) (q : Nat → Nat) (σ : OS) (v : Int32) : (wX6 cy q σ).set 0 (q 41, .inr (5, (fX6 q σ).set 33 (.int v))) = wX6 cy q (oI σ 33 v) := rfl
theorem pu_X6_34 (cy : Nat → ClassId) (q : Nat → Nat) (σ : OS) (v : Int32) : (wX6 cy q σ).set 0 (q 41, .inr (5, (fX6 q σ).set 34 (.int v))) = wX6 cy q (oI σ 34 v) := rfl
theorem pu_X6_35 (cy : Nat → ClassId) (q : Nat → Nat) (σ : OS) (v : Int32) : (wX6 cy q σ).set 0 (q 41, .inr (5, (fX6 q σ).set 35 (.int v))) = wX6 cy q (oI σ 35 v) := rfl
theorem pu_X6_36 (cy : Nat → ClassId) (q : Nat → Nat) (σ : OS) (v : Int64) : (wX6 cy q σ).set 0 (q 41, .inr (5, (fX6 q σ).set 36 (.long v))) = wX6 cy q (oL σ 36 v) := rfl
theorem pa_X6_1 (cy : Nat → ClassId) (q : Nat → Nat) (σ : OS) (i : Nat) (x : Int32) : (wX6 cy q σ).set 1 (q 1, .inl (cy 0, 960, .inl (upd (σ.2.2.1 1) i x))) = wX6 cy q (oS σ 1 i x) := rfl
theorem pa_X6_2 (cy : Nat → ClassId) (q : Nat → Nat) (σ : OS) (i : Nat) (x : Int32) : (wX6 cy q σ).set 2 (q 2, .inl (cy 0, 6, .inl (upd (σ.2.2.1 2) i x))) = wX6 cy q (oS σ 2 i x) := rfl
theorem pa_X6_5 (cy : Nat → ClassId) (q : Nat → Nat) (σ : OS) (i : Nat) (x : Int32) : (wX6 cy q σ).set 3 (q 5, .inl (cy 0, 160, .inl (upd (σ.2.2.1 5) i x))) = wX6 cy q (oS σ 5 i x) := rfl
theorem pa_X6_10 (cy : Nat → ClassId) (q : Nat → Nat) (σ : OS) (i : Nat) (x : Int32) : (wX6 cy q σ).set 4 (q 10, .inl (cy 0, 15, .inl (upd (σ.2.2.1 10) i x))) = wX6 cy q (oS σ 10 i x) := rfl
theorem pa_X6_11 (cy : Nat → ClassId) (q : Nat → Nat) (σ : OS) (i : Nat) (x : Int64) : (wX6 cy q σ).set 5 (q 11, .inl (cy 1, 5, .inr (.inl (vp_updL (σ.2.2.2 11) i x)))) = wX6 cy q (oT σ 11 i x) := rfl
theorem pa_X6_28 (cy : Nat → ClassId) (q : Nat → Nat) (σ : OS) (i : Nat) (x : Int32) : (wX6 cy q σ).set 6 (q 28, .inl (cy 0, 17, .inl (upd (σ.2.2.1 28) i x))) = wX6 cy q (oS σ 28 i x) := rfl
theorem pa_X6_29 (cy : Nat → ClassId) (q : Nat → Nat) (σ : OS) (i : Nat) (x : Int64) : (wX6 cy q σ).set 7 (q 29, .inl (cy 1, 5, .inr (.inl (vp_updL (σ.2.2.2 29) i x)))) = wX6 cy q (oT σ 29 i x) := rfl
theorem pa_X6_30 (cy : Nat → ClassId) (q : Nat → Nat) (σ : OS) (i : Nat) (x : Int32) : (wX6 cy q σ).set 8 (q 30, .inl (cy 0, 15, .inl (upd (σ.2.2.1 30) i x))) = wX6 cy q (oS σ 30 i x) := rfl
theorem pa_X6_31 (cy : Nat → ClassId) (q : Nat → Nat) (σ : OS) (i : Nat) (x : Int64) : (wX6 cy q σ).set 9 (q 31, .inl (cy 1, 5, .inr (.inl (vp_updL (σ.2.2.2 31) i x)))) = wX6 cy q (oT σ 31 i x) := rfl
theorem pa_X6_37 (cy : Nat → ClassId) (q : Nat → Nat) (σ : OS) (i : Nat) (x : Int32) : (wX6 cy q σ).set 10 (q 37, .inl (cy 2, 4, .inl (upd (σ.2.2.1 37) i x))) = wX6 cy q (oS σ 37 i x) := rfl
theorem pa_X6_38 (cy : Nat → ClassId) (q : Nat → Nat) (σ : OS) (i : Nat) (x : Int32) : (wX6 cy q σ).set 11 (q 38, .inl (cy 0, 4, .inl (upd (σ.2.2.1 38) i x))) = wX6 cy q (oS σ 38 i x) := rfl
theorem pa_X6_39 (cy : Nat → ClassId) (q : Nat → Nat) (σ : OS) (i : Nat) (x : Int32) : (wX6 cy q σ).set 12 (q 39, .inl (cy 0, 4, .inl (upd (σ.2.2.1 39) i x))) = wX6 cy q (oS σ 39 i x) := rfl
theorem pa_X6_40 (cy : Nat → ClassId) (q : Nat → Nat) (σ : OS) (i : Nat) (x : Int32) : (wX6 cy q σ).set 13 (q 40, .inl (cy 0, 160, .inl (upd (σ.2.2.1 40) i x))) = wX6 cy q (oS σ 40 i x) := rfl
def tbX6_spell : List (Nat × Instr × Nat) := [(0, .aload_n 0, 1), (1, .getfield 13, 3), (4, .iload_n 1, 1), (5, .iload_n 2, 1), (6, .iastore, 1), (7, .aload_n 0, 1), (8, .getfield 13, 3), (11, .iload_n 1, 1), (12, .iconst 1, 1), (13, .iadd, 1), (14, .iload_n 3, 1), (15, .iastore, 1), (16, .aload_n 0, 1), (17, .getfield 13, 3), (20, .iload_n 1, 1), (21, .iconst 2, 1), (22, .iadd, 1), (23, .iload 4, 2), (25, .iastore, 1), (26, .aload_n 0, 1), (27, .getfield 13, 3), (30, .iload_n 1, 1), (31, .iconst 3, 1), (32, .iadd, 1), (33, .iload 5, 2), (35, .iastore, 1), (36, .aload_n 0, 1), (37, .getfield 13, 3), (40, .iload_n 1, 1), (41, .iconst 4, 1), (42, .iadd, 1), (43, .iload 6, 2), (45, .iastore, 1), (46, .aload_n 0, 1), (47, .getfield 13, 3), (50, .iload_n 1, 1), (51, .iconst 5, 1), (52, .iadd, 1), (53, .iload 7, 2), (55, .iastore, 1), (56, .aload_n 0, 1), (57, .getfield 13, 3), (60, .iload_n 1, 1), (61, .bipush 6, 2), (63, .iadd, 1), (64, .iload 8, 2), (66, .iastore, 1), (67, .aload_n 0, 1), (68, .getfield 13, 3), (71, .iload_n 1, 1), (72, .bipush 7, 2), (74, .iadd, 1), (75, .iload 9, 2), (77, .iastore, 1), (78, .return_, 1)]
theorem tdX6_spell : tbX6_spell.all (fun q => decide (decode cX6_spell q.1 = .ok q.2)) = true := by decide +kernel
def pX6_spell_0  (σ : OS) (a1_ : Int32) (a2_ : Int32) (a3_ : Int32) (a4_ : Int32) (a5_ : Int32) (a6_ : Int32) (a7_ : Int32) (a8_ : Int32) (a9_ : Int32) : OS := oS (oS (oS (oS (oS (oS (oS (oS σ 1 a1_.toNatClampNeg a2_) 1 ((a1_ + 1).toNatClampNeg) a3_) 1 ((a1_ + 2).toNatClampNeg) a4_) 1 ((a1_ + 3).toNatClampNeg) a5_) 1 ((a1_ + 4).toNatClampNeg) a6_) 1 ((a1_ + 5).toNatClampNeg) a7_) 1 ((a1_ + 6).toNatClampNeg) a8_) 1 ((a1_ + 7).toNatClampNeg) a9_
def oX6_spell_0  (σ : OS) (a1_ : Int32) (a2_ : Int32) (a3_ : Int32) (a4_ : Int32) (a5_ : Int32) (a6_ : Int32) (a7_ : Int32) (a8_ : Int32) (a9_ : Int32) : Prop := (vp_in a1_ 960) ∧ ((vp_in (a1_ + 1) 960) ∧ ((vp_in (a1_ + 2) 960) ∧ ((vp_in (a1_ + 3) 960) ∧ ((vp_in (a1_ + 4) 960) ∧ ((vp_in (a1_ + 5) 960) ∧ ((vp_in (a1_ + 6) 960) ∧ (vp_in (a1_ + 7) 960)))))))
set_option maxHeartbeats 4000000 in
set_option maxRecDepth 100000 in
theorem wX6_spell_0 {X : CX} {cy : Nat → ClassId} {q : Nat → Nat} {D : va_G} {A : Nat → Prop} {res : OS} (σ : OS) (a1_ : Int32) (a2_ : Int32) (a3_ : Int32) (a4_ : Int32) (a5_ : Int32) (a6_ : Int32) (a7_ : Int32) (a8_ : Int32) (a9_ : Int32) (C : Cx X cX6_spell RX6 10 D (gty cy) A 0 0 0) (hR : Rt X none D (gty cy) A 0 0 (eV (wX6 cy q res)))  (ok : oX6_spell_0  σ a1_ a2_ a3_ a4_ a5_ a6_ a7_ a8_ a9_) (h : pX6_spell_0  σ a1_ a2_ a3_ a4_ a5_ a6_ a7_ a8_ a9_ = res) : At X D A 10 0 0 0 [(0, .ref (q 41)), (1, .int a1_), (2, .int a2_), (3, .int a3_), (4, .int a4_), (5, .int a5_), (6, .int a6_), (7, .int a7_), (8, .int a8_), (9, .int a9_)] [] (wX6 cy q σ) := by
  unfold pX6_spell_0 at h
  unfold oX6_spell_0 at ok
  refine r_aload_n C 0 (dall tdX6_spell 0 rfl) rfl ?_
  refine r_get C 0 kw_X6 rfl rfl (by decide) kf_X6_13 rfl rfl (dall tdX6_spell 1 rfl) ?_
  refine r_iload_n C 1 (dall tdX6_spell 2 rfl) rfl ?_
  refine r_iload_n C 2 (dall tdX6_spell 3 rfl) rfl ?_
  obtain ⟨o1, ok⟩ := ok
  refine r_iast C 1 0 rfl rfl o1 (pa_X6_1 cy q σ a1_.toNatClampNeg a2_) (dall tdX6_spell 4 rfl) ?_
  refine r_aload_n C 0 (dall tdX6_spell 5 rfl) rfl ?_
  refine r_get C 0 kw_X6 rfl rfl (by decide) kf_X6_13 rfl rfl (dall tdX6_spell 6 rfl) ?_
  refine r_iload_n C 1 (dall tdX6_spell 7 rfl) rfl ?_
  refine r_iconst (v := 1) C (dall tdX6_spell 8 rfl) (by decide) ?_
  refine r_iadd C (dall tdX6_spell 9 rfl) ?_
  refine r_iload_n C 3 (dall tdX6_spell 10 rfl) rfl ?_
  obtain ⟨o2, ok⟩ := ok
  refine r_iast C 1 0 rfl rfl o2 (pa_X6_1 cy q (oS σ 1 a1_.toNatClampNeg a2_) ((a1_ + 1).toNatClampNeg) a3_) (dall tdX6_spell 11 rfl) ?_
  refine r_aload_n C 0 (dall tdX6_spell 12 rfl) rfl ?_
  refine r_get C 0 kw_X6 rfl rfl (by decide) kf_X6_13 rfl rfl (dall tdX6_spell 13 rfl) ?_
  refine r_iload_n C 1 (dall tdX6_spell 14 rfl) rfl ?_
  refine r_iconst (v := 2) C (dall tdX6_spell 15 rfl) (by decide) ?_
  refine r_iadd C (dall tdX6_spell 16 rfl) ?_
  refine r_iload C 4 (dall tdX6_spell 17 rfl) rfl ?_
  obtain ⟨o3, ok⟩ := ok
  refine r_iast C 1 0 rfl rfl o3 (pa_X6_1 cy q (oS (oS σ 1 a1_.toNatClampNeg a2_) 1 ((a1_ + 1).toNatClampNeg) a3_) ((a1_ + 2).toNatClampNeg) a4_) (dall tdX6_spell 18 rfl) ?_
  refine r_aload_n C 0 (dall tdX6_spell 19 rfl) rfl ?_
  refine r_get C 0 kw_X6 rfl rfl (by decide) kf_X6_13 rfl rfl (dall tdX6_spell 20 rfl) ?_
  refine r_iload_n C 1 (dall tdX6_spell 21 rfl) rfl ?_
  refine r_iconst (v := 3) C (dall tdX6_spell 22 rfl) (by decide) ?_
  refine r_iadd C (dall tdX6_spell 23 rfl) ?_
  refine r_iload C 5 (dall tdX6_spell 24 rfl) rfl ?_
  obtain ⟨o4, ok⟩ := ok
  refine r_iast C 1 0 rfl rfl o4 (pa_X6_1 cy q (oS (oS (oS σ 1 a1_.toNatClampNeg a2_) 1 ((a1_ + 1).toNatClampNeg) a3_) 1 ((a1_ + 2).toNatClampNeg) a4_) ((a1_ + 3).toNatClampNeg) a5_) (dall tdX6_spell 25 rfl) ?_
  refine r_aload_n C 0 (dall tdX6_spell 26 rfl) rfl ?_
  refine r_get C 0 kw_X6 rfl rfl (by decide) kf_X6_13 rfl rfl (dall tdX6_spell 27 rfl) ?_
  refine r_iload_n C 1 (dall tdX6_spell 28 rfl) rfl ?_
  refine r_iconst (v := 4) C (dall tdX6_spell 29 rfl) (by decide) ?_
  refine r_iadd C (dall tdX6_spell 30 rfl) ?_
  refine r_iload C 6 (dall tdX6_spell 31 rfl) rfl ?_
  obtain ⟨o5, ok⟩ := ok
  refine r_iast C 1 0 rfl rfl o5 (pa_X6_1 cy q (oS (oS (oS (oS σ 1 a1_.toNatClampNeg a2_) 1 ((a1_ + 1).toNatClampNeg) a3_) 1 ((a1_ + 2).toNatClampNeg) a4_) 1 ((a1_ + 3).toNatClampNeg) a5_) ((a1_ + 4).toNatClampNeg) a6_) (dall tdX6_spell 32 rfl) ?_
  refine r_aload_n C 0 (dall tdX6_spell 33 rfl) rfl ?_
  refine r_get C 0 kw_X6 rfl rfl (by decide) kf_X6_13 rfl rfl (dall tdX6_spell 34 rfl) ?_
  refine r_iload_n C 1 (dall tdX6_spell 35 rfl) rfl ?_
  refine r_iconst (v := 5) C (dall tdX6_spell 36 rfl) (by decide) ?_
  refine r_iadd C (dall tdX6_spell 37 rfl) ?_
  refine r_iload C 7 (dall tdX6_spell 38 rfl) rfl ?_
  obtain ⟨o6, ok⟩ := ok
  refine r_iast C 1 0 rfl rfl o6 (pa_X6_1 cy q (oS (oS (oS (oS (oS σ 1 a1_.toNatClampNeg a2_) 1 ((a1_ + 1).toNatClampNeg) a3_) 1 ((a1_ + 2).toNatClampNeg) a4_) 1 ((a1_ + 3).toNatClampNeg) a5_) 1 ((a1_ + 4).toNatClampNeg) a6_) ((a1_ + 5).toNatClampNeg) a7_) (dall tdX6_spell 39 rfl) ?_
  refine r_aload_n C 0 (dall tdX6_spell 40 rfl) rfl ?_
  refine r_get C 0 kw_X6 rfl rfl (by decide) kf_X6_13 rfl rfl (dall tdX6_spell 41 rfl) ?_
  refine r_iload_n C 1 (dall tdX6_spell 42 rfl) rfl ?_
  refine r_bipush (v := 6) C (dall tdX6_spell 43 rfl) (by decide) ?_
  refine r_iadd C (dall tdX6_spell 44 rfl) ?_
  refine r_iload C 8 (dall tdX6_spell 45 rfl) rfl ?_
  obtain ⟨o7, ok⟩ := ok
  refine r_iast C 1 0 rfl rfl o7 (pa_X6_1 cy q (oS (oS (oS (oS (oS (oS σ 1 a1_.toNatClampNeg a2_) 1 ((a1_ + 1).toNatClampNeg) a3_) 1 ((a1_ + 2).toNatClampNeg) a4_) 1 ((a1_ + 3).toNatClampNeg) a5_) 1 ((a1_ + 4).toNatClampNeg) a6_) 1 ((a1_ + 5).toNatClampNeg) a7_) ((a1_ + 6).toNatClampNeg) a8_) (dall tdX6_spell 46 rfl) ?_
  refine r_aload_n C 0 (dall tdX6_spell 47 rfl) rfl ?_
  refine r_get C 0 kw_X6 rfl rfl (by decide) kf_X6_13 rfl rfl (dall tdX6_spell 48 rfl) ?_
  refine r_iload_n C 1 (dall tdX6_spell 49 rfl) rfl ?_
  refine r_bipush (v := 7) C (dall tdX6_spell 50 rfl) (by decide) ?_
  refine r_iadd C (dall tdX6_spell 51 rfl) ?_
  refine r_iload C 9 (dall tdX6_spell 52 rfl) rfl ?_
  have o8 := ok
  refine r_iast C 1 0 rfl rfl o8 (pa_X6_1 cy q (oS (oS (oS (oS (oS (oS (oS σ 1 a1_.toNatClampNeg a2_) 1 ((a1_ + 1).toNatClampNeg) a3_) 1 ((a1_ + 2).toNatClampNeg) a4_) 1 ((a1_ + 3).toNatClampNeg) a5_) 1 ((a1_ + 4).toNatClampNeg) a6_) 1 ((a1_ + 5).toNatClampNeg) a7_) 1 ((a1_ + 6).toNatClampNeg) a8_) ((a1_ + 7).toNatClampNeg) a9_) (dall tdX6_spell 53 rfl) ?_
  exact r_vret C hR (dall tdX6_spell 54 rfl) (by subst h; exact ⟨rfl, rfl⟩)
def fX6_spell (σ : OS) (a1_ : Int32) (a2_ : Int32) (a3_ : Int32) (a4_ : Int32) (a5_ : Int32) (a6_ : Int32) (a7_ : Int32) (a8_ : Int32) (a9_ : Int32) : OS := pX6_spell_0  σ a1_ a2_ a3_ a4_ a5_ a6_ a7_ a8_ a9_
def gX6_spell (σ : OS) (a1_ : Int32) (a2_ : Int32) (a3_ : Int32) (a4_ : Int32) (a5_ : Int32) (a6_ : Int32) (a7_ : Int32) (a8_ : Int32) (a9_ : Int32) : Prop := oX6_spell_0  σ a1_ a2_ a3_ a4_ a5_ a6_ a7_ a8_ a9_
set_option maxRecDepth 100000 in
theorem zX6_spell (cy : Nat → ClassId) (q : Nat → Nat) (σ : OS) (a1_ : Int32) (a2_ : Int32) (a3_ : Int32) (a4_ : Int32) (a5_ : Int32) (a6_ : Int32) (a7_ : Int32) (a8_ : Int32) (a9_ : Int32) (ok : gX6_spell σ a1_ a2_ a3_ a4_ a5_ a6_ a7_ a8_ a9_) {D : va_G} : Con yX6_spell cX6_spell 10 none 0 0 0 D (gty cy) [.ref (q 41), .int a1_, .int a2_, .int a3_, .int a4_, .int a5_, .int a6_, .int a7_, .int a8_, .int a9_] (wX6 cy q σ) (eV (wX6 cy q (fX6_spell σ a1_ a2_ a3_ a4_ a5_ a6_ a7_ a8_ a9_))) :=
  Con.of (own := RX6) (by decide +kernel) rfl (Nat.le_of_ble_eq_true rfl) (Nat.zero_le _) (fun X A C hR _ => (wX6_spell_0 σ a1_ a2_ a3_ a4_ a5_ a6_ a7_ a8_ a9_ C hR  ok rfl))
theorem mv_X6_spell : MV yX6_spell cX6_spell 10 none RX6 9 := ⟨ki_X6_spell, kv_X6_spell, kn_X6, kc_X6_spell, by decide +kernel⟩
def tbX6_isOne : List (Nat × Instr × Nat) := [(0, .iload_n 1, 1), (1, .i2l, 1), (2, .lconst 0, 1), (3, .aload_n 0, 1), (4, .getfield 71, 3), (7, .iconst 1, 1), (8, .isub, 1), (9, .i2l, 1), (10, .invokestatic 74, 3), (13, .ireturn, 1)]
theorem tdX6_isOne : tbX6_isOne.all (fun q => decide (decode cX6_isOne q.1 = .ok q.2)) = true := by decide +kernel
def pX6_isOne_0  (σ : OS) (a1_ : Int32) : Int32 := fX6_in a1_.toInt64 0 (((σ.1 12) - 1).toInt64)
def oX6_isOne_0  (σ : OS) (a1_ : Int32) : Prop := narrow .boolean (.int (fX6_in a1_.toInt64 0 (((σ.1 12) - 1).toInt64))) = .int (fX6_in a1_.toInt64 0 (((σ.1 12) - 1).toInt64))
set_option maxHeartbeats 4000000 in
set_option maxRecDepth 100000 in
theorem wX6_isOne_0 {X : CX} {cy : Nat → ClassId} {q : Nat → Nat} {D : va_G} {A : Nat → Prop} {res : Int32} (σ : OS) (a1_ : Int32) (C : Cx X cX6_isOne RX6 2 D (gty cy) A 1 0 0) (hR : Rt X (some .boolean) D (gty cy) A 0 0 (eI (wX6 cy q σ) res))  (ok : oX6_isOne_0  σ a1_) (h : pX6_isOne_0  σ a1_ = res) : At X D A 2 0 0 0 [(0, .ref (q 41)), (1, .int a1_)] [] (wX6 cy q σ) := by
  unfold pX6_isOne_0 at h
  unfold oX6_isOne_0 at ok
  refine r_iload_n C 1 (dall tdX6_isOne 0 rfl) rfl ?_
  refine r_i2l C (dall tdX6_isOne 1 rfl) ?_
  refine r_lconst (v := 0) C (dall tdX6_isOne 2 rfl) (by decide) ?_
  refine r_aload_n C 0 (dall tdX6_isOne 3 rfl) rfl ?_
  refine r_get C 0 kw_X6 rfl rfl (by decide) kf_X6_71 rfl rfl (dall tdX6_isOne 4 rfl) ?_
  refine r_iconst (v := 1) C (dall tdX6_isOne 5 rfl) (by decide) ?_
  refine r_isub C (dall tdX6_isOne 6 rfl) ?_
  refine r_i2l C (dall tdX6_isOne 7 rfl) ?_
  refine r_s0I (as := [.long a1_.toInt64, .long 0, .long (((σ.1 12) - 1).toInt64)]) C (zX6_in a1_.toInt64 0 (((σ.1 12) - 1).toInt64) ) ms_X6_in km_X6_74 (by decide) (by decide) ⟨Nat.le_refl _, Nat.le_refl _⟩ rfl rfl (Nat.le_of_ble_eq_true rfl) (dall tdX6_isOne 8 rfl) ?_
  have o1 := ok
  exact r_zret C o1 hR (dall tdX6_isOne 9 rfl) (by subst h; exact ⟨rfl, rfl⟩)
def fX6_isOne (σ : OS) (a1_ : Int32) : Int32 := pX6_isOne_0  σ a1_
def gX6_isOne (σ : OS) (a1_ : Int32) : Prop := oX6_isOne_0  σ a1_
set_option maxRecDepth 100000 in
theorem zX6_isOne (cy : Nat → ClassId) (q : Nat → Nat) (σ : OS) (a1_ : Int32) (ok : gX6_isOne σ a1_) {D : va_G} : Con yX6_isOne cX6_isOne 2 (some .boolean) 1 0 0 D (gty cy) [.ref (q 41), .int a1_] (wX6 cy q σ) (eI (wX6 cy q σ) (fX6_isOne σ a1_)) :=
  Con.of (own := RX6) (by decide +kernel) rfl (Nat.le_of_ble_eq_true rfl) (Nat.zero_le _) (fun X A C hR _ => (wX6_isOne_0 σ a1_ C hR  ok rfl))
theorem mv_X6_isOne : MV yX6_isOne cX6_isOne 2 (some .boolean) RX6 1 := ⟨ki_X6_isOne, kv_X6_isOne, kn_X6, kc_X6_isOne, by decide +kernel⟩
def tbX6_putAll : List (Nat × Instr × Nat) := [(0, .lconst 0, 1), (1, .lstore_n 1, 1), (2, .iconst 0, 1), (3, .istore_n 3, 1), (4, .iload_n 3, 1), (5, .aload_n 0, 1), (6, .getfield 71, 3), (9, .if_icmp .ge 18, 3), (12, .lload_n 1, 1), (13, .aload_n 0, 1), (14, .getfield 32, 3), (17, .iload_n 3, 1), (18, .laload, 1), (19, .lor, 1), (20, .lstore_n 1, 1), (21, .iinc 3 1, 3), (24, .goto (-20), 3), (27, .lload_n 1, 1), (28, .lreturn, 1)]
theorem tdX6_putAll : tbX6_putAll.all (fun q => decide (decode cX6_putAll q.1 = .ok q.2)) = true := by decide +kernel
def bX6_putAll_4 (σ : OS)  (kR4 : Int64 × Int32 → Int64) (v : Int64 × Int32) : Int64 := if (σ.1 12) ≤ v.2 then v.1 else kR4 (v.1 ||| (σ.2.2.2 11 v.2.toNatClampNeg), v.2 + 1)
def kX6_putAll_4 (σ : OS)  (kO4 : Int64 × Int32 → Prop) (v : Int64 × Int32) : Prop := ((σ.1 12) ≤ v.2 → True) ∧ (¬ ((σ.1 12) ≤ v.2) → (vp_in v.2 5) ∧ (kO4 (v.1 ||| (σ.2.2.2 11 v.2.toNatClampNeg), v.2 + 1)))
set_option maxHeartbeats 4000000 in
set_option maxRecDepth 100000 in
theorem wX6_putAll_4 {X : CX} {cy : Nat → ClassId} {q : Nat → Nat} {D : va_G} {A : Nat → Prop} {res : Int64} (σ : OS) (C : Cx X cX6_putAll RX6 4 D (gty cy) A 0 0 0) (hR : Rt X (some .long) D (gty cy) A 0 0 (eL (wX6 cy q σ) res)) (kR4 : Int64 × Int32 → Int64) (kO4 : Int64 × Int32 → Prop) (hk4 : ∀ z, kO4 z → kR4 z = res → At X D A 4 0 0 4 [(0, .ref (q 41)), (1, .long z.1), (3, .int z.2)] [] (wX6 cy q σ)) (v : Int64 × Int32) (ok : kX6_putAll_4 σ kO4 v) (h : bX6_putAll_4 σ kR4 v = res) : At X D A 4 0 0 4 [(0, .ref (q 41)), (1, .long v.1), (3, .int v.2)] [] (wX6 cy q σ) := by
  unfold bX6_putAll_4 at h
  unfold kX6_putAll_4 at ok
  refine r_iload_n C 2 (dall tdX6_putAll 4 rfl) rfl ?_
  refine r_aload_n C 0 (dall tdX6_putAll 5 rfl) rfl ?_
  refine r_get C 0 kw_X6 rfl rfl (by decide) kf_X6_71 rfl rfl (dall tdX6_putAll 6 rfl) ?_
  refine r_icmp_ge (tgt := 27) C (dall tdX6_putAll 7 rfl) (by decide) (fun c1 => ?_) (fun c1 => ?_)
  · have h := (if_pos c1).symm.trans h
    have ok := ok.1 c1
    refine r_lload_n C 1 (dall tdX6_putAll 17 rfl) rfl ?_
    exact r_lret C hR (dall tdX6_putAll 18 rfl) (by subst h; exact ⟨rfl, rfl⟩)
  · have h := (if_neg c1).symm.trans h
    have ok := ok.2 c1
    refine r_lload_n C 1 (dall tdX6_putAll 8 rfl) rfl ?_
    refine r_aload_n C 0 (dall tdX6_putAll 9 rfl) rfl ?_
    refine r_get C 0 kw_X6 rfl rfl (by decide) kf_X6_32 rfl rfl (dall tdX6_putAll 10 rfl) ?_
    refine r_iload_n C 2 (dall tdX6_putAll 11 rfl) rfl ?_
    obtain ⟨o2, ok⟩ := ok
    refine r_lald C 5 1 rfl rfl o2 (dall tdX6_putAll 12 rfl) ?_
    refine r_lor C (dall tdX6_putAll 13 rfl) ?_
    refine r_lstore_n (lv' := [(1, .long (v.1 ||| (σ.2.2.2 11 v.2.toNatClampNeg))), (0, .ref (q 41)), (3, .int v.2)]) C (dall tdX6_putAll 14 rfl) (by decide) rfl ?_
    refine r_iinc (v := v.2 + 1) (lv' := [(3, .int (v.2 + 1)), (1, .long (v.1 ||| (σ.2.2.2 11 v.2.toNatClampNeg))), (0, .ref (q 41))]) C 2 (dall tdX6_putAll 15 rfl) rfl rfl (by decide) rfl ?_
    refine r_goto (tgt := 4) C (dall tdX6_putAll 16 rfl) (by decide) ?_
    refine r_pick [2, 1, 0] rfl ?_
    exact hk4 (v.1 ||| (σ.2.2.2 11 v.2.toNatClampNeg), v.2 + 1) ok h
set_option maxHeartbeats 4000000 in
set_option maxRecDepth 100000 in
theorem lX6_putAll_4 {X : CX} {cy : Nat → ClassId} {q : Nat → Nat} {D : va_G} {A : Nat → Prop} {res : Int64} (σ : OS) (C : Cx X cX6_putAll RX6 4 D (gty cy) A 0 0 0) (hR : Rt X (some .long) D (gty cy) A 0 0 (eL (wX6 cy q σ) res))  (n : Nat) (v : Int64 × Int32) (ok : lpOk (kX6_putAll_4 σ ) n v) (h : lp 0 (bX6_putAll_4 σ ) n v = res) : At X D A 4 0 0 4 [(0, .ref (q 41)), (1, .long v.1), (3, .int v.2)] [] (wX6 cy q σ) :=
  lp_rule (fun v r => r = res → At X D A 4 0 0 4 [(0, .ref (q 41)), (1, .long v.1), (3, .int v.2)] [] (wX6 cy q σ)) (fun kR kO hk v ok h => wX6_putAll_4 σ C hR  kR kO hk v ok h) n v ok h
def pX6_putAll_0  (σ : OS) : Int64 := lp 0 (bX6_putAll_4 σ ) fu (0, 0)
def oX6_putAll_0  (σ : OS) : Prop := lpOk (kX6_putAll_4 σ ) fu (0, 0)
set_option maxHeartbeats 4000000 in
set_option maxRecDepth 100000 in
theorem wX6_putAll_0 {X : CX} {cy : Nat → ClassId} {q : Nat → Nat} {D : va_G} {A : Nat → Prop} {res : Int64} (σ : OS) (C : Cx X cX6_putAll RX6 4 D (gty cy) A 0 0 0) (hR : Rt X (some .long) D (gty cy) A 0 0 (eL (wX6 cy q σ) res))  (ok : oX6_putAll_0  σ) (h : pX6_putAll_0  σ = res) : At X D A 4 0 0 0 [(0, .ref (q 41))] [] (wX6 cy q σ) := by
  unfold pX6_putAll_0 at h
  unfold oX6_putAll_0 at ok
  refine r_lconst (v := 0) C (dall tdX6_putAll 0 rfl) (by decide) ?_
  refine r_lstore_n (lv' := [(1, .long 0), (0, .ref (q 41))]) C (dall tdX6_putAll 1 rfl) (by decide) rfl ?_
  refine r_iconst (v := 0) C (dall tdX6_putAll 2 rfl) (by decide) ?_
  refine r_istore_n (lv' := [(3, .int 0), (1, .long 0), (0, .ref (q 41))]) C (dall tdX6_putAll 3 rfl) (by decide) rfl ?_
  refine r_pick [2, 1, 0] rfl ?_
  exact lX6_putAll_4 σ C hR  fu _ ok h
def fX6_putAll (σ : OS) : Int64 := pX6_putAll_0  σ
def gX6_putAll (σ : OS) : Prop := oX6_putAll_0  σ
set_option maxRecDepth 100000 in
theorem zX6_putAll (cy : Nat → ClassId) (q : Nat → Nat) (σ : OS) (ok : gX6_putAll σ ) {D : va_G} : Con yX6_putAll cX6_putAll 4 (some .long) 0 0 0 D (gty cy) [.ref (q 41)] (wX6 cy q σ) (eL (wX6 cy q σ) (fX6_putAll σ )) :=
  Con.of (own := RX6) (by decide +kernel) rfl (Nat.le_of_ble_eq_true rfl) (Nat.zero_le _) (fun X A C hR _ => (wX6_putAll_0 σ C hR  ok rfl))
theorem mv_X6_putAll : MV yX6_putAll cX6_putAll 4 (some .long) RX6 0 := ⟨ki_X6_putAll, kv_X6_putAll, kn_X6, kc_X6_putAll, by decide +kernel⟩
def tbX6_stands : List (Nat × Instr × Nat) := [(0, .aload_n 0, 1), (1, .getfield 25, 3), (4, .aload_n 0, 1), (5, .invokevirtual 80, 3), (8, .lor, 1), (9, .lreturn, 1)]
theorem tdX6_stands : tbX6_stands.all (fun q => decide (decode cX6_stands q.1 = .ok q.2)) = true := by decide +kernel
def pX6_stands_0  (σ : OS) : Int64 := (σ.2.1 9) ||| (fX6_putAll σ)
def oX6_stands_0  (σ : OS) : Prop := gX6_putAll σ 
set_option maxHeartbeats 4000000 in
set_option maxRecDepth 100000 in
theorem wX6_stands_0 {X : CX} {cy : Nat → ClassId} {q : Nat → Nat} {D : va_G} {A : Nat → Prop} {res : Int64} (σ : OS) (C : Cx X cX6_stands RX6 1 D (gty cy) A 1 0 0) (hR : Rt X (some .long) D (gty cy) A 0 0 (eL (wX6 cy q σ) res))  (ok : oX6_stands_0  σ) (h : pX6_stands_0  σ = res) : At X D A 1 0 0 0 [(0, .ref (q 41))] [] (wX6 cy q σ) := by
  unfold pX6_stands_0 at h
  unfold oX6_stands_0 at ok
  refine r_aload_n C 0 (dall tdX6_stands 0 rfl) rfl ?_
  refine r_get C 0 kw_X6 rfl rfl (by decide) kf_X6_25 rfl rfl (dall tdX6_stands 1 rfl) ?_
  refine r_aload_n C 0 (dall tdX6_stands 2 rfl) rfl ?_
  have o1 := ok
  refine r_vL (as := []) C (zX6_putAll cy q σ  o1) mv_X6_putAll km_X6_80 (by decide) (by decide) ⟨Nat.le_refl _, Nat.le_refl _⟩ rfl rfl rfl rfl (Nat.le_of_ble_eq_true rfl) (dall tdX6_stands 3 rfl) ?_
  refine r_lor C (dall tdX6_stands 4 rfl) ?_
  exact r_lret C hR (dall tdX6_stands 5 rfl) (by subst h; exact ⟨rfl, rfl⟩)
def fX6_stands (σ : OS) : Int64 := pX6_stands_0  σ
def gX6_stands (σ : OS) : Prop := oX6_stands_0  σ
set_option maxRecDepth 100000 in
theorem zX6_stands (cy : Nat → ClassId) (q : Nat → Nat) (σ : OS) (ok : gX6_stands σ ) {D : va_G} : Con yX6_stands cX6_stands 1 (some .long) 1 0 0 D (gty cy) [.ref (q 41)] (wX6 cy q σ) (eL (wX6 cy q σ) (fX6_stands σ )) :=
  Con.of (own := RX6) (by decide +kernel) rfl (Nat.le_of_ble_eq_true rfl) (Nat.zero_le _) (fun X A C hR _ => (wX6_stands_0 σ C hR  ok rfl))
theorem mv_X6_stands : MV yX6_stands cX6_stands 1 (some .long) RX6 0 := ⟨ki_X6_stands, kv_X6_stands, kn_X6, kc_X6_stands, by decide +kernel⟩
def tbX6_byteAt : List (Nat × Instr × Nat) := [(0, .iload_n 1, 1), (1, .aload_n 0, 1), (2, .getfield 153, 3), (5, .if_icmp .ge 17, 3), (8, .aload_n 0, 1), (9, .getfield 13, 3), (12, .aload_n 0, 1), (13, .getfield 156, 3), (16, .iload_n 1, 1), (17, .iadd, 1), (18, .iaload, 1), (19, .goto 4, 3), (22, .iconst (-1), 1), (23, .ireturn, 1)]
theorem tdX6_byteAt : tbX6_byteAt.all (fun q => decide (decode cX6_byteAt q.1 = .ok q.2)) = true := by decide +kernel
def pX6_byteAt_0  (σ : OS) (a1_ : Int32) : Int32 := if (σ.1 20) ≤ a1_ then (-1) else σ.2.2.1 1 ((σ.1 19) + a1_).toNatClampNeg
def oX6_byteAt_0  (σ : OS) (a1_ : Int32) : Prop := ((σ.1 20) ≤ a1_ → True) ∧ (¬ ((σ.1 20) ≤ a1_) → vp_in ((σ.1 19) + a1_) 960)
set_option maxHeartbeats 4000000 in
set_option maxRecDepth 100000 in
theorem wX6_byteAt_0 {X : CX} {cy : Nat → ClassId} {q : Nat → Nat} {D : va_G} {A : Nat → Prop} {res : Int32} (σ : OS) (a1_ : Int32) (C : Cx X cX6_byteAt RX6 2 D (gty cy) A 0 0 0) (hR : Rt X (some .int) D (gty cy) A 0 0 (eI (wX6 cy q σ) res))  (ok : oX6_byteAt_0  σ a1_) (h : pX6_byteAt_0  σ a1_ = res) : At X D A 2 0 0 0 [(0, .ref (q 41)), (1, .int a1_)] [] (wX6 cy q σ) := by
  unfold pX6_byteAt_0 at h
  unfold oX6_byteAt_0 at ok
  refine r_iload_n C 1 (dall tdX6_byteAt 0 rfl) rfl ?_
  refine r_aload_n C 0 (dall tdX6_byteAt 1 rfl) rfl ?_
  refine r_get C 0 kw_X6 rfl rfl (by decide) kf_X6_153 rfl rfl (dall tdX6_byteAt 2 rfl) ?_
  refine r_icmp_ge (tgt := 22) C (dall tdX6_byteAt 3 rfl) (by decide) (fun c1 => ?_) (fun c1 => ?_)
  · have h := (if_pos c1).symm.trans h
    have ok := ok.1 c1
    refine r_iconst (v := -1) C (dall tdX6_byteAt 12 rfl) (by decide) ?_
    exact r_iret C hR (dall tdX6_byteAt 13 rfl) (by subst h; exact ⟨rfl, rfl⟩)
  · have h := (if_neg c1).symm.trans h
    have ok := ok.2 c1
    refine r_aload_n C 0 (dall tdX6_byteAt 4 rfl) rfl ?_
    refine r_get C 0 kw_X6 rfl rfl (by decide) kf_X6_13 rfl rfl (dall tdX6_byteAt 5 rfl) ?_
    refine r_aload_n C 0 (dall tdX6_byteAt 6 rfl) rfl ?_
    refine r_get C 0 kw_X6 rfl rfl (by decide) kf_X6_156 rfl rfl (dall tdX6_byteAt 7 rfl) ?_
    refine r_iload_n C 1 (dall tdX6_byteAt 8 rfl) rfl ?_
    refine r_iadd C (dall tdX6_byteAt 9 rfl) ?_
    have o2 := ok
    refine r_iald C 1 0 rfl rfl o2 (dall tdX6_byteAt 10 rfl) ?_
    refine r_goto (tgt := 23) C (dall tdX6_byteAt 11 rfl) (by decide) ?_
    exact r_iret C hR (dall tdX6_byteAt 13 rfl) (by subst h; exact ⟨rfl, rfl⟩)
def fX6_byteAt (σ : OS) (a1_ : Int32) : Int32 := pX6_byteAt_0  σ a1_
def gX6_byteAt (σ : OS) (a1_ : Int32) : Prop := oX6_byteAt_0  σ a1_
set_option maxRecDepth 100000 in
theorem zX6_byteAt (cy : Nat → ClassId) (q : Nat → Nat) (σ : OS) (a1_ : Int32) (ok : gX6_byteAt σ a1_) {D : va_G} : Con yX6_byteAt cX6_byteAt 2 (some .int) 0 0 0 D (gty cy) [.ref (q 41), .int a1_] (wX6 cy q σ) (eI (wX6 cy q σ) (fX6_byteAt σ a1_)) :=
  Con.of (own := RX6) (by decide +kernel) rfl (Nat.le_of_ble_eq_true rfl) (Nat.zero_le _) (fun X A C hR _ => (wX6_byteAt_0 σ a1_ C hR  ok rfl))
theorem mv_X6_byteAt : MV yX6_byteAt cX6_byteAt 2 (some .int) RX6 1 := ⟨ki_X6_byteAt, kv_X6_byteAt, kn_X6, kc_X6_byteAt, by decide +kernel⟩
def tbX6_next : List (Nat × Instr × Nat) := [(0, .aload_n 0, 1), (1, .aload_n 0, 1), (2, .getfield 159, 3), (5, .invokevirtual 162, 3), (8, .bipush 32, 2), (10, .if_icmp .eq 16, 3), (13, .aload_n 0, 1), (14, .aload_n 0, 1), (15, .getfield 159, 3), (18, .invokevirtual 162, 3), (21, .bipush 10, 2), (23, .if_icmp .ne 16, 3), (26, .aload_n 0, 1), (27, .dup, 1), (28, .getfield 159, 3), (31, .iconst 1, 1), (32, .iadd, 1), (33, .putfield 159, 3), (36, .goto (-36), 3), (39, .aload_n 0, 1), (40, .aload_n 0, 1), (41, .getfield 159, 3), (44, .putfield 165, 3), (47, .aload_n 0, 1), (48, .aload_n 0, 1), (49, .getfield 159, 3), (52, .invokevirtual 162, 3), (55, .istore_n 1, 1), (56, .aload_n 0, 1), (57, .iconst 4, 1), (58, .putfield 168, 3), (61, .iload_n 1, 1), (62, .ifCond .ge 19, 3), (65, .aload_n 0, 1), (66, .iconst 0, 1), (67, .putfield 168, 3), (70, .aload_n 0, 1), (71, .aload_n 0, 1), (72, .getfield 153, 3), (75, .putfield 165, 3), (78, .goto 243, 3), (81, .iload_n 1, 1), (82, .i2l, 1), (83, .ldc2_w 171, 3), (86, .ldc2_w 173, 3), (89, .invokestatic 74, 3), (92, .ifCond .eq 42, 3), (95, .aload_n 0, 1), (96, .iconst 1, 1), (97, .putfield 168, 3), (100, .aload_n 0, 1), (101, .aload_n 0, 1), (102, .getfield 159, 3), (105, .invokevirtual 162, 3), (108, .i2l, 1), (109, .ldc2_w 171, 3), (112, .ldc2_w 173, 3), (115, .invokestatic 74, 3), (118, .ifCond .eq 203, 3), (121, .aload_n 0, 1), (122, .dup, 1), (123, .getfield 159, 3), (126, .iconst 1, 1), (127, .iadd, 1), (128, .putfield 159, 3), (131, .goto (-31), 3), (134, .iload_n 1, 1), (135, .i2l, 1), (136, .ldc2_w 175, 3), (139, .ldc2_w 177, 3), (142, .invokestatic 74, 3), (145, .ifCond .eq 107, 3), (148, .aload_n 0, 1), (149, .iconst 2, 1), (150, .putfield 168, 3), (153, .aload_n 0, 1), (154, .lconst 0, 1), (155, .putfield 179, 3), (158, .iconst 0, 1), (159, .istore_n 2, 1), (160, .aload_n 0, 1), (161, .aload_n 0, 1), (162, .getfield 159, 3), (165, .invokevirtual 162, 3), (168, .i2l, 1), (169, .ldc2_w 175, 3), (172, .ldc2_w 177, 3), (175, .invokestatic 74, 3), (178, .ifCond .eq 57, 3), (181, .aload_n 0, 1), (182, .iload_n 2, 1), (183, .iconst 4, 1), (184, .if_icmp .ge 28, 3), (187, .ldc2_w 182, 3), (190, .aload_n 0, 1), (191, .getfield 179, 3), (194, .lmul, 1), (195, .aload_n 0, 1), (196, .aload_n 0, 1), (197, .getfield 159, 3), (200, .invokevirtual 162, 3), (203, .i2l, 1), (204, .ladd, 1), (205, .ldc2_w 175, 3), (208, .lsub, 1), (209, .goto 7, 3), (212, .aload_n 0, 1), (213, .getfield 179, 3), (216, .putfield 179, 3), (219, .iinc 2 1, 3), (222, .aload_n 0, 1), (223, .dup, 1), (224, .getfield 159, 3), (227, .iconst 1, 1), (228, .iadd, 1), (229, .putfield 159, 3), (232, .goto (-72), 3), (235, .aload_n 0, 1), (236, .iload_n 2, 1), (237, .iconst 4, 1), (238, .if_icmp .le 7, 3), (241, .iconst 4, 1), (242, .goto 4, 3), (245, .iconst 2, 1), (246, .putfield 168, 3), (249, .goto 72, 3), (252, .iload_n 1, 1), (253, .bipush 40, 2), (255, .if_icmp .eq 45, 3), (258, .iload_n 1, 1), (259, .bipush 41, 2), (261, .if_icmp .eq 39, 3), (264, .iload_n 1, 1), (265, .bipush 59, 2), (267, .if_icmp .eq 33, 3), (270, .iload_n 1, 1), (271, .bipush 43, 2), (273, .if_icmp .eq 27, 3), (276, .iload_n 1, 1), (277, .bipush 45, 2), (279, .if_icmp .eq 21, 3), (282, .iload_n 1, 1), (283, .bipush 42, 2), (285, .if_icmp .eq 15, 3), (288, .iload_n 1, 1), (289, .bipush 60, 2), (291, .if_icmp .eq 9, 3), (294, .iload_n 1, 1), (295, .bipush 61, 2), (297, .if_icmp .ne 24, 3), (300, .aload_n 0, 1), (301, .iconst 3, 1), (302, .putfield 168, 3), (305, .aload_n 0, 1), (306, .iload_n 1, 1), (307, .i2l, 1), (308, .putfield 179, 3), (311, .aload_n 0, 1), (312, .dup, 1), (313, .getfield 159, 3), (316, .iconst 1, 1), (317, .iadd, 1), (318, .putfield 159, 3), (321, .return_, 1)]
theorem tdX6_next : tbX6_next.all (fun q => decide (decode cX6_next q.1 = .ok q.2)) = true := by decide +kernel
def pX6_next_26 (kR0 : OS → OS) (σ : OS) : OS := kR0 (oI σ 21 ((σ.1 21) + 1))
def oX6_next_26 (kO0 : OS → Prop) (σ : OS) : Prop := kO0 (oI σ 21 ((σ.1 21) + 1))
set_option maxHeartbeats 4000000 in
set_option maxRecDepth 100000 in
theorem wX6_next_26 {X : CX} {cy : Nat → ClassId} {q : Nat → Nat} {D : va_G} {A : Nat → Prop} {res : OS} (σ : OS) (C : Cx X cX6_next RX6 3 D (gty cy) A 1 0 0) (hR : Rt X none D (gty cy) A 0 0 (eV (wX6 cy q res))) (kR0 : OS → OS) (kO0 : OS → Prop) (hk0 : ∀ z, kO0 z → kR0 z = res → At X D A 3 0 0 0 [(0, .ref (q 41))] [] (wX6 cy q z)) (ok : oX6_next_26 kO0 σ) (h : pX6_next_26 kR0 σ = res) : At X D A 3 0 0 26 [(0, .ref (q 41))] [] (wX6 cy q σ) := by
  unfold pX6_next_26 at h
  unfold oX6_next_26 at ok
  refine r_aload_n C 0 (dall tdX6_next 12 rfl) rfl ?_
  refine r_dup C (dall tdX6_next 13 rfl) rfl ?_
  refine r_get C 0 kw_X6 rfl rfl (by decide) kf_X6_159 rfl rfl (dall tdX6_next 14 rfl) ?_
  refine r_iconst (v := 1) C (dall tdX6_next 15 rfl) (by decide) ?_
  refine r_iadd C (dall tdX6_next 16 rfl) ?_
  refine r_put C 0 kw_X6 tyX6_ok nmX6 rfl rfl (by decide) kf_X6_159 rfl rfl rfl rfl rfl (Nat.le_of_ble_eq_true rfl) (pu_X6_21 cy q σ ((σ.1 21) + 1)) (dall tdX6_next 17 rfl) ?_
  refine r_goto (tgt := 0) C (dall tdX6_next 18 rfl) (by decide) ?_
  exact hk0 (oI σ 21 ((σ.1 21) + 1)) ok h
def pX6_next_300  (σ : OS) (a1_ : Int32) : OS := oI (oL (oI σ 22 3) 24 a1_.toInt64) 21 (((oL (oI σ 22 3) 24 a1_.toInt64).1 21) + 1)
set_option maxHeartbeats 4000000 in
set_option maxRecDepth 100000 in
theorem wX6_next_300 {X : CX} {cy : Nat → ClassId} {q : Nat → Nat} {D : va_G} {A : Nat → Prop} {res : OS} (σ : OS) (a1_ : Int32) (C : Cx X cX6_next RX6 3 D (gty cy) A 1 0 0) (hR : Rt X none D (gty cy) A 0 0 (eV (wX6 cy q res)))  (h : pX6_next_300  σ a1_ = res) : At X D A 3 0 0 300 [(0, .ref (q 41)), (1, .int a1_)] [] (wX6 cy q σ) := by
  unfold pX6_next_300 at h
  refine r_aload_n C 0 (dall tdX6_next 150 rfl) rfl ?_
  refine r_iconst (v := 3) C (dall tdX6_next 151 rfl) (by decide) ?_
  refine r_put C 0 kw_X6 tyX6_ok nmX6 rfl rfl (by decide) kf_X6_168 rfl rfl rfl rfl rfl (Nat.le_of_ble_eq_true rfl) (pu_X6_22 cy q σ 3) (dall tdX6_next 152 rfl) ?_
  refine r_aload_n C 0 (dall tdX6_next 153 rfl) rfl ?_
  refine r_iload_n C 1 (dall tdX6_next 154 rfl) rfl ?_
  refine r_i2l C (dall tdX6_next 155 rfl) ?_
  refine r_put C 0 kw_X6 tyX6_ok nmX6 rfl rfl (by decide) kf_X6_179 rfl rfl rfl rfl rfl (Nat.le_of_ble_eq_true rfl) (pu_X6_24 cy q (oI σ 22 3) a1_.toInt64) (dall tdX6_next 156 rfl) ?_
  refine r_aload_n C 0 (dall tdX6_next 157 rfl) rfl ?_
  refine r_dup C (dall tdX6_next 158 rfl) rfl ?_
  refine r_get C 0 kw_X6 rfl rfl (by decide) kf_X6_159 rfl rfl (dall tdX6_next 159 rfl) ?_
  refine r_iconst (v := 1) C (dall tdX6_next 160 rfl) (by decide) ?_
  refine r_iadd C (dall tdX6_next 161 rfl) ?_
  refine r_put C 0 kw_X6 tyX6_ok nmX6 rfl rfl (by decide) kf_X6_159 rfl rfl rfl rfl rfl (Nat.le_of_ble_eq_true rfl) (pu_X6_21 cy q (oL (oI σ 22 3) 24 a1_.toInt64) (((oL (oI σ 22 3) 24 a1_.toInt64).1 21) + 1)) (dall tdX6_next 162 rfl) ?_
  exact r_vret C hR (dall tdX6_next 163 rfl) (by subst h; exact ⟨rfl, rfl⟩)
def pX6_next_246  (σ : OS) (b0_ : Int32) : OS := oI σ 22 b0_
set_option maxHeartbeats 4000000 in
set_option maxRecDepth 100000 in
theorem wX6_next_246 {X : CX} {cy : Nat → ClassId} {q : Nat → Nat} {D : va_G} {A : Nat → Prop} {res : OS} (σ : OS) (b0_ : Int32) (C : Cx X cX6_next RX6 3 D (gty cy) A 1 0 0) (hR : Rt X none D (gty cy) A 0 0 (eV (wX6 cy q res)))  (h : pX6_next_246  σ b0_ = res) : At X D A 3 0 0 246 [] [.int b0_, .ref (q 41)] (wX6 cy q σ) := by
  unfold pX6_next_246 at h
  refine r_put C 0 kw_X6 tyX6_ok nmX6 rfl rfl (by decide) kf_X6_168 rfl rfl rfl rfl rfl (Nat.le_of_ble_eq_true rfl) (pu_X6_22 cy q σ b0_) (dall tdX6_next 124 rfl) ?_
  refine r_goto (tgt := 321) C (dall tdX6_next 125 rfl) (by decide) ?_
  exact r_vret C hR (dall tdX6_next 163 rfl) (by subst h; exact ⟨rfl, rfl⟩)
def pX6_next_216 (kR160 : OS × Int32 → OS) (σ : OS) (a2_ : Int32) (b0_ : Int64) : OS := kR160 (oI (oL σ 24 b0_) 21 (((oL σ 24 b0_).1 21) + 1), a2_ + 1)
def oX6_next_216 (kO160 : OS × Int32 → Prop) (σ : OS) (a2_ : Int32) (b0_ : Int64) : Prop := kO160 (oI (oL σ 24 b0_) 21 (((oL σ 24 b0_).1 21) + 1), a2_ + 1)
set_option maxHeartbeats 4000000 in
set_option maxRecDepth 100000 in
theorem wX6_next_216 {X : CX} {cy : Nat → ClassId} {q : Nat → Nat} {D : va_G} {A : Nat → Prop} {res : OS} (σ : OS) (a2_ : Int32) (b0_ : Int64) (C : Cx X cX6_next RX6 3 D (gty cy) A 1 0 0) (hR : Rt X none D (gty cy) A 0 0 (eV (wX6 cy q res))) (kR160 : OS × Int32 → OS) (kO160 : OS × Int32 → Prop) (hk160 : ∀ z, kO160 z → kR160 z = res → At X D A 3 0 0 160 [(0, .ref (q 41)), (2, .int z.2)] [] (wX6 cy q z.1)) (ok : oX6_next_216 kO160 σ a2_ b0_) (h : pX6_next_216 kR160 σ a2_ b0_ = res) : At X D A 3 0 0 216 [(0, .ref (q 41)), (2, .int a2_)] [.long b0_, .ref (q 41)] (wX6 cy q σ) := by
  unfold pX6_next_216 at h
  unfold oX6_next_216 at ok
  refine r_put C 0 kw_X6 tyX6_ok nmX6 rfl rfl (by decide) kf_X6_179 rfl rfl rfl rfl rfl (Nat.le_of_ble_eq_true rfl) (pu_X6_24 cy q σ b0_) (dall tdX6_next 108 rfl) ?_
  refine r_iinc (v := a2_ + 1) (lv' := [(2, .int (a2_ + 1)), (0, .ref (q 41))]) C 1 (dall tdX6_next 109 rfl) rfl rfl (by decide) rfl ?_
  refine r_aload_n C 1 (dall tdX6_next 110 rfl) rfl ?_
  refine r_dup C (dall tdX6_next 111 rfl) rfl ?_
  refine r_get C 0 kw_X6 rfl rfl (by decide) kf_X6_159 rfl rfl (dall tdX6_next 112 rfl) ?_
  refine r_iconst (v := 1) C (dall tdX6_next 113 rfl) (by decide) ?_
  refine r_iadd C (dall tdX6_next 114 rfl) ?_
  refine r_put C 0 kw_X6 tyX6_ok nmX6 rfl rfl (by decide) kf_X6_159 rfl rfl rfl rfl rfl (Nat.le_of_ble_eq_true rfl) (pu_X6_21 cy q (oL σ 24 b0_) (((oL σ 24 b0_).1 21) + 1)) (dall tdX6_next 115 rfl) ?_
  refine r_goto (tgt := 160) C (dall tdX6_next 116 rfl) (by decide) ?_
  refine r_pick [1, 0] rfl ?_
  exact hk160 (oI (oL σ 24 b0_) 21 (((oL σ 24 b0_).1 21) + 1), a2_ + 1) ok h
def bX6_next_160   (kR160 : OS × Int32 → OS) (v : OS × Int32) : OS := if (fX6_in ((fX6_byteAt v.1 (v.1.1 21)).toInt64) (48) (57)) = 0 then if v.2 ≤ 4 then pX6_next_246  v.1 2 else pX6_next_246  v.1 4 else if 4 ≤ v.2 then pX6_next_216 kR160 v.1 v.2 (v.1.2.1 24) else pX6_next_216 kR160 v.1 v.2 ((((10) * (v.1.2.1 24)) + ((fX6_byteAt v.1 (v.1.1 21)).toInt64)) - (48))
def kX6_next_160   (kO160 : OS × Int32 → Prop) (v : OS × Int32) : Prop := (gX6_byteAt v.1 (v.1.1 21)) ∧ (((fX6_in ((fX6_byteAt v.1 (v.1.1 21)).toInt64) (48) (57)) = 0 → True) ∧ (¬ ((fX6_in ((fX6_byteAt v.1 (v.1.1 21)).toInt64) (48) (57)) = 0) → (4 ≤ v.2 → oX6_next_216 kO160 v.1 v.2 (v.1.2.1 24)) ∧ (¬ (4 ≤ v.2) → (gX6_byteAt v.1 (v.1.1 21)) ∧ (oX6_next_216 kO160 v.1 v.2 ((((10) * (v.1.2.1 24)) + ((fX6_byteAt v.1 (v.1.1 21)).toInt64)) - (48))))))
set_option maxHeartbeats 4000000 in
set_option maxRecDepth 100000 in
theorem wX6_next_160 {X : CX} {cy : Nat → ClassId} {q : Nat → Nat} {D : va_G} {A : Nat → Prop} {res : OS}  (C : Cx X cX6_next RX6 3 D (gty cy) A 1 0 0) (hR : Rt X none D (gty cy) A 0 0 (eV (wX6 cy q res))) (kR160 : OS × Int32 → OS) (kO160 : OS × Int32 → Prop) (hk160 : ∀ z, kO160 z → kR160 z = res → At X D A 3 0 0 160 [(0, .ref (q 41)), (2, .int z.2)] [] (wX6 cy q z.1)) (v : OS × Int32) (ok : kX6_next_160  kO160 v) (h : bX6_next_160  kR160 v = res) : At X D A 3 0 0 160 [(0, .ref (q 41)), (2, .int v.2)] [] (wX6 cy q v.1) := by
  unfold bX6_next_160 at h
  unfold kX6_next_160 at ok
  refine r_aload_n C 0 (dall tdX6_next 80 rfl) rfl ?_
  refine r_aload_n C 0 (dall tdX6_next 81 rfl) rfl ?_
  refine r_get C 0 kw_X6 rfl rfl (by decide) kf_X6_159 rfl rfl (dall tdX6_next 82 rfl) ?_
  obtain ⟨o1, ok⟩ := ok
  refine r_vI (as := [.int (v.1.1 21)]) C (zX6_byteAt cy q v.1 (v.1.1 21) o1) mv_X6_byteAt km_X6_162 (by decide) (by decide) ⟨Nat.le_refl _, Nat.le_refl _⟩ rfl rfl rfl rfl (Nat.le_of_ble_eq_true rfl) (dall tdX6_next 83 rfl) ?_
  refine r_i2l C (dall tdX6_next 84 rfl) ?_
  refine r_ldc2 C kk_X6_175 (dall tdX6_next 85 rfl) ?_
  refine r_ldc2 C kk_X6_177 (dall tdX6_next 86 rfl) ?_
  refine r_s0I (as := [.long ((fX6_byteAt v.1 (v.1.1 21)).toInt64), .long (48), .long (57)]) C (zX6_in ((fX6_byteAt v.1 (v.1.1 21)).toInt64) (48) (57) ) ms_X6_in km_X6_74 (by decide) (by decide) ⟨Nat.le_refl _, Nat.le_refl _⟩ rfl rfl (Nat.le_of_ble_eq_true rfl) (dall tdX6_next 87 rfl) ?_
  refine r_if_eq (tgt := 235) C (dall tdX6_next 88 rfl) (by decide) (fun c2 => ?_) (fun c2 => ?_)
  · have h := (if_pos c2).symm.trans h
    have ok := ok.1 c2
    refine r_aload_n C 0 (dall tdX6_next 117 rfl) rfl ?_
    refine r_iload_n C 1 (dall tdX6_next 118 rfl) rfl ?_
    refine r_iconst (v := 4) C (dall tdX6_next 119 rfl) (by decide) ?_
    refine r_icmp_le (tgt := 245) C (dall tdX6_next 120 rfl) (by decide) (fun c3 => ?_) (fun c3 => ?_)
    · have h := (if_pos c3).symm.trans h
      refine r_iconst (v := 2) C (dall tdX6_next 123 rfl) (by decide) ?_
      refine r_pick [] rfl ?_
      exact wX6_next_246 v.1 2 C hR  h
    · have h := (if_neg c3).symm.trans h
      refine r_iconst (v := 4) C (dall tdX6_next 121 rfl) (by decide) ?_
      refine r_goto (tgt := 246) C (dall tdX6_next 122 rfl) (by decide) ?_
      refine r_pick [] rfl ?_
      exact wX6_next_246 v.1 4 C hR  h
  · have h := (if_neg c2).symm.trans h
    have ok := ok.2 c2
    refine r_aload_n C 0 (dall tdX6_next 89 rfl) rfl ?_
    refine r_iload_n C 1 (dall tdX6_next 90 rfl) rfl ?_
    refine r_iconst (v := 4) C (dall tdX6_next 91 rfl) (by decide) ?_
    refine r_icmp_ge (tgt := 212) C (dall tdX6_next 92 rfl) (by decide) (fun c4 => ?_) (fun c4 => ?_)
    · have h := (if_pos c4).symm.trans h
      have ok := ok.1 c4
      refine r_aload_n C 0 (dall tdX6_next 106 rfl) rfl ?_
      refine r_get C 0 kw_X6 rfl rfl (by decide) kf_X6_179 rfl rfl (dall tdX6_next 107 rfl) ?_
      exact wX6_next_216 v.1 v.2 (v.1.2.1 24) C hR kR160 kO160 hk160 ok h
    · have h := (if_neg c4).symm.trans h
      have ok := ok.2 c4
      refine r_ldc2 C kk_X6_182 (dall tdX6_next 93 rfl) ?_
      refine r_aload_n C 0 (dall tdX6_next 94 rfl) rfl ?_
      refine r_get C 0 kw_X6 rfl rfl (by decide) kf_X6_179 rfl rfl (dall tdX6_next 95 rfl) ?_
      refine r_lmul C (dall tdX6_next 96 rfl) ?_
      refine r_aload_n C 0 (dall tdX6_next 97 rfl) rfl ?_
      refine r_aload_n C 0 (dall tdX6_next 98 rfl) rfl ?_
      refine r_get C 0 kw_X6 rfl rfl (by decide) kf_X6_159 rfl rfl (dall tdX6_next 99 rfl) ?_
      obtain ⟨o5, ok⟩ := ok
      refine r_vI (as := [.int (v.1.1 21)]) C (zX6_byteAt cy q v.1 (v.1.1 21) o5) mv_X6_byteAt km_X6_162 (by decide) (by decide) ⟨Nat.le_refl _, Nat.le_refl _⟩ rfl rfl rfl rfl (Nat.le_of_ble_eq_true rfl) (dall tdX6_next 100 rfl) ?_
      refine r_i2l C (dall tdX6_next 101 rfl) ?_
      refine r_ladd C (dall tdX6_next 102 rfl) ?_
      refine r_ldc2 C kk_X6_175 (dall tdX6_next 103 rfl) ?_
      refine r_lsub C (dall tdX6_next 104 rfl) ?_
      refine r_goto (tgt := 216) C (dall tdX6_next 105 rfl) (by decide) ?_
      exact wX6_next_216 v.1 v.2 ((((10) * (v.1.2.1 24)) + ((fX6_byteAt v.1 (v.1.1 21)).toInt64)) - (48)) C hR kR160 kO160 hk160 ok h
set_option maxHeartbeats 4000000 in
set_option maxRecDepth 100000 in
theorem lX6_next_160 {X : CX} {cy : Nat → ClassId} {q : Nat → Nat} {D : va_G} {A : Nat → Prop} {res : OS}  (C : Cx X cX6_next RX6 3 D (gty cy) A 1 0 0) (hR : Rt X none D (gty cy) A 0 0 (eV (wX6 cy q res)))  (n : Nat) (v : OS × Int32) (ok : lpOk (kX6_next_160  ) n v) (h : lp o0 (bX6_next_160  ) n v = res) : At X D A 3 0 0 160 [(0, .ref (q 41)), (2, .int v.2)] [] (wX6 cy q v.1) :=
  lp_rule (fun v r => r = res → At X D A 3 0 0 160 [(0, .ref (q 41)), (2, .int v.2)] [] (wX6 cy q v.1)) (fun kR kO hk v ok h => wX6_next_160  C hR  kR kO hk v ok h) n v ok h
def bX6_next_100   (kR100 : OS → OS) (v : OS) : OS := if (fX6_in ((fX6_byteAt v (v.1 21)).toInt64) (97) (122)) = 0 then v else kR100 (oI v 21 ((v.1 21) + 1))
def kX6_next_100   (kO100 : OS → Prop) (v : OS) : Prop := (gX6_byteAt v (v.1 21)) ∧ (((fX6_in ((fX6_byteAt v (v.1 21)).toInt64) (97) (122)) = 0 → True) ∧ (¬ ((fX6_in ((fX6_byteAt v (v.1 21)).toInt64) (97) (122)) = 0) → kO100 (oI v 21 ((v.1 21) + 1))))
set_option maxHeartbeats 4000000 in
set_option maxRecDepth 100000 in
theorem wX6_next_100 {X : CX} {cy : Nat → ClassId} {q : Nat → Nat} {D : va_G} {A : Nat → Prop} {res : OS}  (C : Cx X cX6_next RX6 3 D (gty cy) A 1 0 0) (hR : Rt X none D (gty cy) A 0 0 (eV (wX6 cy q res))) (kR100 : OS → OS) (kO100 : OS → Prop) (hk100 : ∀ z, kO100 z → kR100 z = res → At X D A 3 0 0 100 [(0, .ref (q 41))] [] (wX6 cy q z)) (v : OS) (ok : kX6_next_100  kO100 v) (h : bX6_next_100  kR100 v = res) : At X D A 3 0 0 100 [(0, .ref (q 41))] [] (wX6 cy q v) := by
  unfold bX6_next_100 at h
  unfold kX6_next_100 at ok
  refine r_aload_n C 0 (dall tdX6_next 50 rfl) rfl ?_
  refine r_aload_n C 0 (dall tdX6_next 51 rfl) rfl ?_
  refine r_get C 0 kw_X6 rfl rfl (by decide) kf_X6_159 rfl rfl (dall tdX6_next 52 rfl) ?_
  obtain ⟨o6, ok⟩ := ok
  refine r_vI (as := [.int (v.1 21)]) C (zX6_byteAt cy q v (v.1 21) o6) mv_X6_byteAt km_X6_162 (by decide) (by decide) ⟨Nat.le_refl _, Nat.le_refl _⟩ rfl rfl rfl rfl (Nat.le_of_ble_eq_true rfl) (dall tdX6_next 53 rfl) ?_
  refine r_i2l C (dall tdX6_next 54 rfl) ?_
  refine r_ldc2 C kk_X6_171 (dall tdX6_next 55 rfl) ?_
  refine r_ldc2 C kk_X6_173 (dall tdX6_next 56 rfl) ?_
  refine r_s0I (as := [.long ((fX6_byteAt v (v.1 21)).toInt64), .long (97), .long (122)]) C (zX6_in ((fX6_byteAt v (v.1 21)).toInt64) (97) (122) ) ms_X6_in km_X6_74 (by decide) (by decide) ⟨Nat.le_refl _, Nat.le_refl _⟩ rfl rfl (Nat.le_of_ble_eq_true rfl) (dall tdX6_next 57 rfl) ?_
  refine r_if_eq (tgt := 321) C (dall tdX6_next 58 rfl) (by decide) (fun c7 => ?_) (fun c7 => ?_)
  · have h := (if_pos c7).symm.trans h
    have ok := ok.1 c7
    exact r_vret C hR (dall tdX6_next 163 rfl) (by subst h; exact ⟨rfl, rfl⟩)
  · have h := (if_neg c7).symm.trans h
    have ok := ok.2 c7
    refine r_aload_n C 0 (dall tdX6_next 59 rfl) rfl ?_
    refine r_dup C (dall tdX6_next 60 rfl) rfl ?_
    refine r_get C 0 kw_X6 rfl rfl (by decide) kf_X6_159 rfl rfl (dall tdX6_next 61 rfl) ?_
    refine r_iconst (v := 1) C (dall tdX6_next 62 rfl) (by decide) ?_
    refine r_iadd C (dall tdX6_next 63 rfl) ?_
    refine r_put C 0 kw_X6 tyX6_ok nmX6 rfl rfl (by decide) kf_X6_159 rfl rfl rfl rfl rfl (Nat.le_of_ble_eq_true rfl) (pu_X6_21 cy q v ((v.1 21) + 1)) (dall tdX6_next 64 rfl) ?_
    refine r_goto (tgt := 100) C (dall tdX6_next 65 rfl) (by decide) ?_
    exact hk100 (oI v 21 ((v.1 21) + 1)) ok h
set_option maxHeartbeats 4000000 in
set_option maxRecDepth 100000 in
theorem lX6_next_100 {X : CX} {cy : Nat → ClassId} {q : Nat → Nat} {D : va_G} {A : Nat → Prop} {res : OS}  (C : Cx X cX6_next RX6 3 D (gty cy) A 1 0 0) (hR : Rt X none D (gty cy) A 0 0 (eV (wX6 cy q res)))  (n : Nat) (v : OS) (ok : lpOk (kX6_next_100  ) n v) (h : lp o0 (bX6_next_100  ) n v = res) : At X D A 3 0 0 100 [(0, .ref (q 41))] [] (wX6 cy q v) :=
  lp_rule (fun v r => r = res → At X D A 3 0 0 100 [(0, .ref (q 41))] [] (wX6 cy q v)) (fun kR kO hk v ok h => wX6_next_100  C hR  kR kO hk v ok h) n v ok h
def bX6_next_0   (kR0 : OS → OS) (v : OS) : OS := if (fX6_byteAt v (v.1 21)) = 32 then pX6_next_26 kR0 v else if (fX6_byteAt v (v.1 21)) = 10 then pX6_next_26 kR0 v else if 0 ≤ (fX6_byteAt (oI v 23 (v.1 21)) ((oI v 23 (v.1 21)).1 21)) then if (fX6_in ((fX6_byteAt (oI v 23 (v.1 21)) ((oI v 23 (v.1 21)).1 21)).toInt64) (97) (122)) = 0 then if (fX6_in ((fX6_byteAt (oI v 23 (v.1 21)) ((oI v 23 (v.1 21)).1 21)).toInt64) (48) (57)) = 0 then if (fX6_byteAt (oI v 23 (v.1 21)) ((oI v 23 (v.1 21)).1 21)) = 40 then pX6_next_300  (oI (oI v 23 (v.1 21)) 22 4) (fX6_byteAt (oI v 23 (v.1 21)) ((oI v 23 (v.1 21)).1 21)) else if (fX6_byteAt (oI v 23 (v.1 21)) ((oI v 23 (v.1 21)).1 21)) = 41 then pX6_next_300  (oI (oI v 23 (v.1 21)) 22 4) (fX6_byteAt (oI v 23 (v.1 21)) ((oI v 23 (v.1 21)).1 21)) else if (fX6_byteAt (oI v 23 (v.1 21)) ((oI v 23 (v.1 21)).1 21)) = 59 then pX6_next_300  (oI (oI v 23 (v.1 21)) 22 4) (fX6_byteAt (oI v 23 (v.1 21)) ((oI v 23 (v.1 21)).1 21)) else if (fX6_byteAt (oI v 23 (v.1 21)) ((oI v 23 (v.1 21)).1 21)) = 43 then pX6_next_300  (oI (oI v 23 (v.1 21)) 22 4) (fX6_byteAt (oI v 23 (v.1 21)) ((oI v 23 (v.1 21)).1 21)) else if (fX6_byteAt (oI v 23 (v.1 21)) ((oI v 23 (v.1 21)).1 21)) = 45 then pX6_next_300  (oI (oI v 23 (v.1 21)) 22 4) (fX6_byteAt (oI v 23 (v.1 21)) ((oI v 23 (v.1 21)).1 21)) else if (fX6_byteAt (oI v 23 (v.1 21)) ((oI v 23 (v.1 21)).1 21)) = 42 then pX6_next_300  (oI (oI v 23 (v.1 21)) 22 4) (fX6_byteAt (oI v 23 (v.1 21)) ((oI v 23 (v.1 21)).1 21)) else if (fX6_byteAt (oI v 23 (v.1 21)) ((oI v 23 (v.1 21)).1 21)) = 60 then pX6_next_300  (oI (oI v 23 (v.1 21)) 22 4) (fX6_byteAt (oI v 23 (v.1 21)) ((oI v 23 (v.1 21)).1 21)) else if (fX6_byteAt (oI v 23 (v.1 21)) ((oI v 23 (v.1 21)).1 21)) = 61 then pX6_next_300  (oI (oI v 23 (v.1 21)) 22 4) (fX6_byteAt (oI v 23 (v.1 21)) ((oI v 23 (v.1 21)).1 21)) else oI (oI v 23 (v.1 21)) 22 4 else lp o0 (bX6_next_160  ) fu (oL (oI (oI (oI v 23 (v.1 21)) 22 4) 22 2) 24 0, 0) else lp o0 (bX6_next_100  ) fu (oI (oI (oI v 23 (v.1 21)) 22 4) 22 1) else oI (oI (oI (oI v 23 (v.1 21)) 22 4) 22 0) 23 ((oI (oI (oI v 23 (v.1 21)) 22 4) 22 0).1 20)
def kX6_next_0   (kO0 : OS → Prop) (v : OS) : Prop := (gX6_byteAt v (v.1 21)) ∧ (((fX6_byteAt v (v.1 21)) = 32 → oX6_next_26 kO0 v) ∧ (¬ ((fX6_byteAt v (v.1 21)) = 32) → (gX6_byteAt v (v.1 21)) ∧ (((fX6_byteAt v (v.1 21)) = 10 → oX6_next_26 kO0 v) ∧ (¬ ((fX6_byteAt v (v.1 21)) = 10) → (gX6_byteAt (oI v 23 (v.1 21)) ((oI v 23 (v.1 21)).1 21)) ∧ ((0 ≤ (fX6_byteAt (oI v 23 (v.1 21)) ((oI v 23 (v.1 21)).1 21)) → ((fX6_in ((fX6_byteAt (oI v 23 (v.1 21)) ((oI v 23 (v.1 21)).1 21)).toInt64) (97) (122)) = 0 → ((fX6_in ((fX6_byteAt (oI v 23 (v.1 21)) ((oI v 23 (v.1 21)).1 21)).toInt64) (48) (57)) = 0 → True) ∧ (¬ ((fX6_in ((fX6_byteAt (oI v 23 (v.1 21)) ((oI v 23 (v.1 21)).1 21)).toInt64) (48) (57)) = 0) → lpOk (kX6_next_160  ) fu (oL (oI (oI (oI v 23 (v.1 21)) 22 4) 22 2) 24 0, 0))) ∧ (¬ ((fX6_in ((fX6_byteAt (oI v 23 (v.1 21)) ((oI v 23 (v.1 21)).1 21)).toInt64) (97) (122)) = 0) → lpOk (kX6_next_100  ) fu (oI (oI (oI v 23 (v.1 21)) 22 4) 22 1))) ∧ (¬ (0 ≤ (fX6_byteAt (oI v 23 (v.1 21)) ((oI v 23 (v.1 21)).1 21))) → True))))))
set_option maxHeartbeats 4000000 in
set_option maxRecDepth 100000 in
theorem wX6_next_0 {X : CX} {cy : Nat → ClassId} {q : Nat → Nat} {D : va_G} {A : Nat → Prop} {res : OS}  (C : Cx X cX6_next RX6 3 D (gty cy) A 1 0 0) (hR : Rt X none D (gty cy) A 0 0 (eV (wX6 cy q res))) (kR0 : OS → OS) (kO0 : OS → Prop) (hk0 : ∀ z, kO0 z → kR0 z = res → At X D A 3 0 0 0 [(0, .ref (q 41))] [] (wX6 cy q z)) (v : OS) (ok : kX6_next_0  kO0 v) (h : bX6_next_0  kR0 v = res) : At X D A 3 0 0 0 [(0, .ref (q 41))] [] (wX6 cy q v) := by
  unfold bX6_next_0 at h
  unfold kX6_next_0 at ok
  refine r_aload_n C 0 (dall tdX6_next 0 rfl) rfl ?_
  refine r_aload_n C 0 (dall tdX6_next 1 rfl) rfl ?_
  refine r_get C 0 kw_X6 rfl rfl (by decide) kf_X6_159 rfl rfl (dall tdX6_next 2 rfl) ?_
  obtain ⟨o8, ok⟩ := ok
  refine r_vI (as := [.int (v.1 21)]) C (zX6_byteAt cy q v (v.1 21) o8) mv_X6_byteAt km_X6_162 (by decide) (by decide) ⟨Nat.le_refl _, Nat.le_refl _⟩ rfl rfl rfl rfl (Nat.le_of_ble_eq_true rfl) (dall tdX6_next 3 rfl) ?_
  refine r_bipush (v := 32) C (dall tdX6_next 4 rfl) (by decide) ?_
  refine r_icmp_eq (tgt := 26) C (dall tdX6_next 5 rfl) (by decide) (fun c9 => ?_) (fun c9 => ?_)
  · have h := (if_pos c9).symm.trans h
    have ok := ok.1 c9
    exact wX6_next_26 v C hR kR0 kO0 hk0 ok h
  · have h := (if_neg c9).symm.trans h
    have ok := ok.2 c9
    refine r_aload_n C 0 (dall tdX6_next 6 rfl) rfl ?_
    refine r_aload_n C 0 (dall tdX6_next 7 rfl) rfl ?_
    refine r_get C 0 kw_X6 rfl rfl (by decide) kf_X6_159 rfl rfl (dall tdX6_next 8 rfl) ?_
    obtain ⟨o10, ok⟩ := ok
    refine r_vI (as := [.int (v.1 21)]) C (zX6_byteAt cy q v (v.1 21) o10) mv_X6_byteAt km_X6_162 (by decide) (by decide) ⟨Nat.le_refl _, Nat.le_refl _⟩ rfl rfl rfl rfl (Nat.le_of_ble_eq_true rfl) (dall tdX6_next 9 rfl) ?_
    refine r_bipush (v := 10) C (dall tdX6_next 10 rfl) (by decide) ?_
    refine r_icmp_ne (tgt := 39) C (dall tdX6_next 11 rfl) (by decide) (fun c11 => ?_) (fun c11 => ?_)
    · have h := (if_neg c11).symm.trans h
      have ok := ok.2 c11
      refine r_aload_n C 0 (dall tdX6_next 19 rfl) rfl ?_
      refine r_aload_n C 0 (dall tdX6_next 20 rfl) rfl ?_
      refine r_get C 0 kw_X6 rfl rfl (by decide) kf_X6_159 rfl rfl (dall tdX6_next 21 rfl) ?_
      refine r_put C 0 kw_X6 tyX6_ok nmX6 rfl rfl (by decide) kf_X6_165 rfl rfl rfl rfl rfl (Nat.le_of_ble_eq_true rfl) (pu_X6_23 cy q v (v.1 21)) (dall tdX6_next 22 rfl) ?_
      refine r_aload_n C 0 (dall tdX6_next 23 rfl) rfl ?_
      refine r_aload_n C 0 (dall tdX6_next 24 rfl) rfl ?_
      refine r_get C 0 kw_X6 rfl rfl (by decide) kf_X6_159 rfl rfl (dall tdX6_next 25 rfl) ?_
      obtain ⟨o12, ok⟩ := ok
      refine r_vI (as := [.int ((oI v 23 (v.1 21)).1 21)]) C (zX6_byteAt cy q (oI v 23 (v.1 21)) ((oI v 23 (v.1 21)).1 21) o12) mv_X6_byteAt km_X6_162 (by decide) (by decide) ⟨Nat.le_refl _, Nat.le_refl _⟩ rfl rfl rfl rfl (Nat.le_of_ble_eq_true rfl) (dall tdX6_next 26 rfl) ?_
      refine r_istore_n (lv' := [(1, .int (fX6_byteAt (oI v 23 (v.1 21)) ((oI v 23 (v.1 21)).1 21))), (0, .ref (q 41))]) C (dall tdX6_next 27 rfl) (by decide) rfl ?_
      refine r_aload_n C 1 (dall tdX6_next 28 rfl) rfl ?_
      refine r_iconst (v := 4) C (dall tdX6_next 29 rfl) (by decide) ?_
      refine r_put C 0 kw_X6 tyX6_ok nmX6 rfl rfl (by decide) kf_X6_168 rfl rfl rfl rfl rfl (Nat.le_of_ble_eq_true rfl) (pu_X6_22 cy q (oI v 23 (v.1 21)) 4) (dall tdX6_next 30 rfl) ?_
      refine r_iload_n C 0 (dall tdX6_next 31 rfl) rfl ?_
      refine r_if_ge (tgt := 81) C (dall tdX6_next 32 rfl) (by decide) (fun c13 => ?_) (fun c13 => ?_)
      · have h := (if_pos c13).symm.trans h
        have ok := ok.1 c13
        refine r_iload_n C 0 (dall tdX6_next 41 rfl) rfl ?_
        refine r_i2l C (dall tdX6_next 42 rfl) ?_
        refine r_ldc2 C kk_X6_171 (dall tdX6_next 43 rfl) ?_
        refine r_ldc2 C kk_X6_173 (dall tdX6_next 44 rfl) ?_
        refine r_s0I (as := [.long ((fX6_byteAt (oI v 23 (v.1 21)) ((oI v 23 (v.1 21)).1 21)).toInt64), .long (97), .long (122)]) C (zX6_in ((fX6_byteAt (oI v 23 (v.1 21)) ((oI v 23 (v.1 21)).1 21)).toInt64) (97) (122) ) ms_X6_in km_X6_74 (by decide) (by decide) ⟨Nat.le_refl _, Nat.le_refl _⟩ rfl rfl (Nat.le_of_ble_eq_true rfl) (dall tdX6_next 45 rfl) ?_
        refine r_if_eq (tgt := 134) C (dall tdX6_next 46 rfl) (by decide) (fun c14 => ?_) (fun c14 => ?_)
        · have h := (if_pos c14).symm.trans h
          have ok := ok.1 c14
          refine r_iload_n C 0 (dall tdX6_next 66 rfl) rfl ?_
          refine r_i2l C (dall tdX6_next 67 rfl) ?_
          refine r_ldc2 C kk_X6_175 (dall tdX6_next 68 rfl) ?_
          refine r_ldc2 C kk_X6_177 (dall tdX6_next 69 rfl) ?_
          refine r_s0I (as := [.long ((fX6_byteAt (oI v 23 (v.1 21)) ((oI v 23 (v.1 21)).1 21)).toInt64), .long (48), .long (57)]) C (zX6_in ((fX6_byteAt (oI v 23 (v.1 21)) ((oI v 23 (v.1 21)).1 21)).toInt64) (48) (57) ) ms_X6_in km_X6_74 (by decide) (by decide) ⟨Nat.le_refl _, Nat.le_refl _⟩ rfl rfl (Nat.le_of_ble_eq_true rfl) (dall tdX6_next 70 rfl) ?_
          refine r_if_eq (tgt := 252) C (dall tdX6_next 71 rfl) (by decide) (fun c15 => ?_) (fun c15 => ?_)
          · have h := (if_pos c15).symm.trans h
            have ok := ok.1 c15
            refine r_iload_n C 0 (dall tdX6_next 126 rfl) rfl ?_
            refine r_bipush (v := 40) C (dall tdX6_next 127 rfl) (by decide) ?_
            refine r_icmp_eq (tgt := 300) C (dall tdX6_next 128 rfl) (by decide) (fun c16 => ?_) (fun c16 => ?_)
            · have h := (if_pos c16).symm.trans h
              refine r_pick [1, 0] rfl ?_
              exact wX6_next_300 (oI (oI v 23 (v.1 21)) 22 4) (fX6_byteAt (oI v 23 (v.1 21)) ((oI v 23 (v.1 21)).1 21)) C hR  h
            · have h := (if_neg c16).symm.trans h
              refine r_iload_n C 0 (dall tdX6_next 129 rfl) rfl ?_
              refine r_bipush (v := 41) C (dall tdX6_next 130 rfl) (by decide) ?_
              refine r_icmp_eq (tgt := 300) C (dall tdX6_next 131 rfl) (by decide) (fun c17 => ?_) (fun c17 => ?_)
              · have h := (if_pos c17).symm.trans h
                refine r_pick [1, 0] rfl ?_
                exact wX6_next_300 (oI (oI v 23 (v.1 21)) 22 4) (fX6_byteAt (oI v 23 (v.1 21)) ((oI v 23 (v.1 21)).1 21)) C hR  h
              · have h := (if_neg c17).symm.trans h
                refine r_iload_n C 0 (dall tdX6_next 132 rfl) rfl ?_
                refine r_bipush (v := 59) C (dall tdX6_next 133 rfl) (by decide) ?_
                refine r_icmp_eq (tgt := 300) C (dall tdX6_next 134 rfl) (by decide) (fun c18 => ?_) (fun c18 => ?_)
                · have h := (if_pos c18).symm.trans h
                  refine r_pick [1, 0] rfl ?_
                  exact wX6_next_300 (oI (oI v 23 (v.1 21)) 22 4) (fX6_byteAt (oI v 23 (v.1 21)) ((oI v 23 (v.1 21)).1 21)) C hR  h
                · have h := (if_neg c18).symm.trans h
                  refine r_iload_n C 0 (dall tdX6_next 135 rfl) rfl ?_
                  refine r_bipush (v := 43) C (dall tdX6_next 136 rfl) (by decide) ?_
                  refine r_icmp_eq (tgt := 300) C (dall tdX6_next 137 rfl) (by decide) (fun c19 => ?_) (fun c19 => ?_)
                  · have h := (if_pos c19).symm.trans h
                    refine r_pick [1, 0] rfl ?_
                    exact wX6_next_300 (oI (oI v 23 (v.1 21)) 22 4) (fX6_byteAt (oI v 23 (v.1 21)) ((oI v 23 (v.1 21)).1 21)) C hR  h
                  · have h := (if_neg c19).symm.trans h
                    refine r_iload_n C 0 (dall tdX6_next 138 rfl) rfl ?_
                    refine r_bipush (v := 45) C (dall tdX6_next 139 rfl) (by decide) ?_
                    refine r_icmp_eq (tgt := 300) C (dall tdX6_next 140 rfl) (by decide) (fun c20 => ?_) (fun c20 => ?_)
                    · have h := (if_pos c20).symm.trans h
                      refine r_pick [1, 0] rfl ?_
                      exact wX6_next_300 (oI (oI v 23 (v.1 21)) 22 4) (fX6_byteAt (oI v 23 (v.1 21)) ((oI v 23 (v.1 21)).1 21)) C hR  h
                    · have h := (if_neg c20).symm.trans h
                      refine r_iload_n C 0 (dall tdX6_next 141 rfl) rfl ?_
                      refine r_bipush (v := 42) C (dall tdX6_next 142 rfl) (by decide) ?_
                      refine r_icmp_eq (tgt := 300) C (dall tdX6_next 143 rfl) (by decide) (fun c21 => ?_) (fun c21 => ?_)
                      · have h := (if_pos c21).symm.trans h
                        refine r_pick [1, 0] rfl ?_
                        exact wX6_next_300 (oI (oI v 23 (v.1 21)) 22 4) (fX6_byteAt (oI v 23 (v.1 21)) ((oI v 23 (v.1 21)).1 21)) C hR  h
                      · have h := (if_neg c21).symm.trans h
                        refine r_iload_n C 0 (dall tdX6_next 144 rfl) rfl ?_
                        refine r_bipush (v := 60) C (dall tdX6_next 145 rfl) (by decide) ?_
                        refine r_icmp_eq (tgt := 300) C (dall tdX6_next 146 rfl) (by decide) (fun c22 => ?_) (fun c22 => ?_)
                        · have h := (if_pos c22).symm.trans h
                          refine r_pick [1, 0] rfl ?_
                          exact wX6_next_300 (oI (oI v 23 (v.1 21)) 22 4) (fX6_byteAt (oI v 23 (v.1 21)) ((oI v 23 (v.1 21)).1 21)) C hR  h
                        · have h := (if_neg c22).symm.trans h
                          refine r_iload_n C 0 (dall tdX6_next 147 rfl) rfl ?_
                          refine r_bipush (v := 61) C (dall tdX6_next 148 rfl) (by decide) ?_
                          refine r_icmp_ne (tgt := 321) C (dall tdX6_next 149 rfl) (by decide) (fun c23 => ?_) (fun c23 => ?_)
                          · have h := (if_neg c23).symm.trans h
                            exact r_vret C hR (dall tdX6_next 163 rfl) (by subst h; exact ⟨rfl, rfl⟩)
                          · have h := (if_pos c23).symm.trans h
                            refine r_pick [1, 0] rfl ?_
                            exact wX6_next_300 (oI (oI v 23 (v.1 21)) 22 4) (fX6_byteAt (oI v 23 (v.1 21)) ((oI v 23 (v.1 21)).1 21)) C hR  h
          · have h := (if_neg c15).symm.trans h
            have ok := ok.2 c15
            refine r_aload_n C 1 (dall tdX6_next 72 rfl) rfl ?_
            refine r_iconst (v := 2) C (dall tdX6_next 73 rfl) (by decide) ?_
            refine r_put C 0 kw_X6 tyX6_ok nmX6 rfl rfl (by decide) kf_X6_168 rfl rfl rfl rfl rfl (Nat.le_of_ble_eq_true rfl) (pu_X6_22 cy q (oI (oI v 23 (v.1 21)) 22 4) 2) (dall tdX6_next 74 rfl) ?_
            refine r_aload_n C 1 (dall tdX6_next 75 rfl) rfl ?_
            refine r_lconst (v := 0) C (dall tdX6_next 76 rfl) (by decide) ?_
            refine r_put C 0 kw_X6 tyX6_ok nmX6 rfl rfl (by decide) kf_X6_179 rfl rfl rfl rfl rfl (Nat.le_of_ble_eq_true rfl) (pu_X6_24 cy q (oI (oI (oI v 23 (v.1 21)) 22 4) 22 2) 0) (dall tdX6_next 77 rfl) ?_
            refine r_iconst (v := 0) C (dall tdX6_next 78 rfl) (by decide) ?_
            refine r_istore_n (lv' := [(2, .int 0), (1, .int (fX6_byteAt (oI v 23 (v.1 21)) ((oI v 23 (v.1 21)).1 21))), (0, .ref (q 41))]) C (dall tdX6_next 79 rfl) (by decide) rfl ?_
            refine r_pick [2, 0] rfl ?_
            exact lX6_next_160  C hR  fu _ ok h
        · have h := (if_neg c14).symm.trans h
          have ok := ok.2 c14
          refine r_aload_n C 1 (dall tdX6_next 47 rfl) rfl ?_
          refine r_iconst (v := 1) C (dall tdX6_next 48 rfl) (by decide) ?_
          refine r_put C 0 kw_X6 tyX6_ok nmX6 rfl rfl (by decide) kf_X6_168 rfl rfl rfl rfl rfl (Nat.le_of_ble_eq_true rfl) (pu_X6_22 cy q (oI (oI v 23 (v.1 21)) 22 4) 1) (dall tdX6_next 49 rfl) ?_
          refine r_pick [1] rfl ?_
          exact lX6_next_100  C hR  fu _ ok h
      · have h := (if_neg c13).symm.trans h
        have ok := ok.2 c13
        refine r_aload_n C 1 (dall tdX6_next 33 rfl) rfl ?_
        refine r_iconst (v := 0) C (dall tdX6_next 34 rfl) (by decide) ?_
        refine r_put C 0 kw_X6 tyX6_ok nmX6 rfl rfl (by decide) kf_X6_168 rfl rfl rfl rfl rfl (Nat.le_of_ble_eq_true rfl) (pu_X6_22 cy q (oI (oI v 23 (v.1 21)) 22 4) 0) (dall tdX6_next 35 rfl) ?_
        refine r_aload_n C 1 (dall tdX6_next 36 rfl) rfl ?_
        refine r_aload_n C 1 (dall tdX6_next 37 rfl) rfl ?_
        refine r_get C 0 kw_X6 rfl rfl (by decide) kf_X6_153 rfl rfl (dall tdX6_next 38 rfl) ?_
        refine r_put C 0 kw_X6 tyX6_ok nmX6 rfl rfl (by decide) kf_X6_165 rfl rfl rfl rfl rfl (Nat.le_of_ble_eq_true rfl) (pu_X6_23 cy q (oI (oI (oI v 23 (v.1 21)) 22 4) 22 0) ((oI (oI (oI v 23 (v.1 21)) 22 4) 22 0).1 20)) (dall tdX6_next 39 rfl) ?_
        refine r_goto (tgt := 321) C (dall tdX6_next 40 rfl) (by decide) ?_
        exact r_vret C hR (dall tdX6_next 163 rfl) (by subst h; exact ⟨rfl, rfl⟩)
    · have h := (if_pos c11).symm.trans h
      have ok := ok.1 c11
      exact wX6_next_26 v C hR kR0 kO0 hk0 ok h
set_option maxHeartbeats 4000000 in
set_option maxRecDepth 100000 in
theorem lX6_next_0 {X : CX} {cy : Nat → ClassId} {q : Nat → Nat} {D : va_G} {A : Nat → Prop} {res : OS}  (C : Cx X cX6_next RX6 3 D (gty cy) A 1 0 0) (hR : Rt X none D (gty cy) A 0 0 (eV (wX6 cy q res)))  (n : Nat) (v : OS) (ok : lpOk (kX6_next_0  ) n v) (h : lp o0 (bX6_next_0  ) n v = res) : At X D A 3 0 0 0 [(0, .ref (q 41))] [] (wX6 cy q v) :=
  lp_rule (fun v r => r = res → At X D A 3 0 0 0 [(0, .ref (q 41))] [] (wX6 cy q v)) (fun kR kO hk v ok h => wX6_next_0  C hR  kR kO hk v ok h) n v ok h
def fX6_next (σ : OS) : OS := lp o0 (bX6_next_0  ) fu σ
def gX6_next (σ : OS) : Prop := lpOk (kX6_next_0  ) fu σ
set_option maxRecDepth 100000 in
theorem zX6_next (cy : Nat → ClassId) (q : Nat → Nat) (σ : OS) (ok : gX6_next σ ) {D : va_G} : Con yX6_next cX6_next 3 none 1 0 0 D (gty cy) [.ref (q 41)] (wX6 cy q σ) (eV (wX6 cy q (fX6_next σ ))) :=
  Con.of (own := RX6) (by decide +kernel) rfl (Nat.le_of_ble_eq_true rfl) (Nat.zero_le _) (fun X A C hR _ => (lX6_next_0  C hR  fu _ ok rfl))
theorem mv_X6_next : MV yX6_next cX6_next 3 none RX6 0 := ⟨ki_X6_next, kv_X6_next, kn_X6, kc_X6_next, by decide +kernel⟩
def tbX6_isLetter : List (Nat × Instr × Nat) := [(0, .aload_n 0, 1), (1, .getfield 165, 3), (4, .iload_n 1, 1), (5, .iadd, 1), (6, .aload_n 0, 1), (7, .getfield 159, 3), (10, .if_icmp .ge 25, 3), (13, .aload_n 0, 1), (14, .aload_n 0, 1), (15, .getfield 165, 3), (18, .iload_n 1, 1), (19, .iadd, 1), (20, .invokevirtual 162, 3), (23, .iload_n 2, 1), (24, .if_icmp .ne 7, 3), (27, .iconst 1, 1), (28, .goto 16, 3), (31, .iconst 0, 1), (32, .goto 12, 3), (35, .iload_n 2, 1), (36, .ifCond .ne 7, 3), (39, .iconst 1, 1), (40, .goto 4, 3), (43, .iconst 0, 1), (44, .ireturn, 1)]
theorem tdX6_isLetter : tbX6_isLetter.all (fun q => decide (decode cX6_isLetter q.1 = .ok q.2)) = true := by decide +kernel
def pX6_isLetter_0  (σ : OS) (a1_ : Int32) (a2_ : Int32) : Int32 := if (σ.1 21) ≤ ((σ.1 23) + a1_) then if a2_ = 0 then 1 else 0 else if (fX6_byteAt σ ((σ.1 23) + a1_)) = a2_ then 1 else 0
def oX6_isLetter_0  (σ : OS) (a1_ : Int32) (a2_ : Int32) : Prop := ((σ.1 21) ≤ ((σ.1 23) + a1_) → True) ∧ (¬ ((σ.1 21) ≤ ((σ.1 23) + a1_)) → gX6_byteAt σ ((σ.1 23) + a1_))
set_option maxHeartbeats 4000000 in
set_option maxRecDepth 100000 in
theorem wX6_isLetter_0 {X : CX} {cy : Nat → ClassId} {q : Nat → Nat} {D : va_G} {A : Nat → Prop} {res : Int32} (σ : OS) (a1_ : Int32) (a2_ : Int32) (C : Cx X cX6_isLetter RX6 3 D (gty cy) A 1 0 0) (hR : Rt X (some .boolean) D (gty cy) A 0 0 (eI (wX6 cy q σ) res))  (ok : oX6_isLetter_0  σ a1_ a2_) (h : pX6_isLetter_0  σ a1_ a2_ = res) : At X D A 3 0 0 0 [(0, .ref (q 41)), (1, .int a1_), (2, .int a2_)] [] (wX6 cy q σ) := by
  unfold pX6_isLetter_0 at h
  unfold oX6_isLetter_0 at ok
  refine r_aload_n C 0 (dall tdX6_isLetter 0 rfl) rfl ?_
  refine r_get C 0 kw_X6 rfl rfl (by decide) kf_X6_165 rfl rfl (dall tdX6_isLetter 1 rfl) ?_
  refine r_iload_n C 1 (dall tdX6_isLetter 2 rfl) rfl ?_
  refine r_iadd C (dall tdX6_isLetter 3 rfl) ?_
  refine r_aload_n C 0 (dall tdX6_isLetter 4 rfl) rfl ?_
  refine r_get C 0 kw_X6 rfl rfl (by decide) kf_X6_159 rfl rfl (dall tdX6_isLetter 5 rfl) ?_
  refine r_icmp_ge (tgt := 35) C (dall tdX6_isLetter 6 rfl) (by decide) (fun c1 => ?_) (fun c1 => ?_)
  · have h := (if_pos c1).symm.trans h
    have ok := ok.1 c1
    refine r_iload_n C 2 (dall tdX6_isLetter 19 rfl) rfl ?_
    refine r_if_ne (tgt := 43) C (dall tdX6_isLetter 20 rfl) (by decide) (fun c2 => ?_) (fun c2 => ?_)
    · have h := (if_neg c2).symm.trans h
      refine r_iconst (v := 0) C (dall tdX6_isLetter 23 rfl) (by decide) ?_
      exact r_zret C (by decide) hR (dall tdX6_isLetter 24 rfl) (by subst h; exact ⟨rfl, rfl⟩)
    · have h := (if_pos c2).symm.trans h
      refine r_iconst (v := 1) C (dall tdX6_isLetter 21 rfl) (by decide) ?_
      refine r_goto (tgt := 44) C (dall tdX6_isLetter 22 rfl) (by decide) ?_
      exact r_zret C (by decide) hR (dall tdX6_isLetter 24 rfl) (by subst h; exact ⟨rfl, rfl⟩)
  · have h := (if_neg c1).symm.trans h
    have ok := ok.2 c1
    refine r_aload_n C 0 (dall tdX6_isLetter 7 rfl) rfl ?_
    refine r_aload_n C 0 (dall tdX6_isLetter 8 rfl) rfl ?_
    refine r_get C 0 kw_X6 rfl rfl (by decide) kf_X6_165 rfl rfl (dall tdX6_isLetter 9 rfl) ?_
    refine r_iload_n C 1 (dall tdX6_isLetter 10 rfl) rfl ?_
    refine r_iadd C (dall tdX6_isLetter 11 rfl) ?_
    have o3 := ok
    refine r_vI (as := [.int ((σ.1 23) + a1_)]) C (zX6_byteAt cy q σ ((σ.1 23) + a1_) o3) mv_X6_byteAt km_X6_162 (by decide) (by decide) ⟨Nat.le_refl _, Nat.le_refl _⟩ rfl rfl rfl rfl (Nat.le_of_ble_eq_true rfl) (dall tdX6_isLetter 12 rfl) ?_
    refine r_iload_n C 2 (dall tdX6_isLetter 13 rfl) rfl ?_
    refine r_icmp_ne (tgt := 31) C (dall tdX6_isLetter 14 rfl) (by decide) (fun c4 => ?_) (fun c4 => ?_)
    · have h := (if_neg c4).symm.trans h
      refine r_iconst (v := 0) C (dall tdX6_isLetter 17 rfl) (by decide) ?_
      refine r_goto (tgt := 44) C (dall tdX6_isLetter 18 rfl) (by decide) ?_
      exact r_zret C (by decide) hR (dall tdX6_isLetter 24 rfl) (by subst h; exact ⟨rfl, rfl⟩)
    · have h := (if_pos c4).symm.trans h
      refine r_iconst (v := 1) C (dall tdX6_isLetter 15 rfl) (by decide) ?_
      refine r_goto (tgt := 44) C (dall tdX6_isLetter 16 rfl) (by decide) ?_
      exact r_zret C (by decide) hR (dall tdX6_isLetter 24 rfl) (by subst h; exact ⟨rfl, rfl⟩)
def fX6_isLetter (σ : OS) (a1_ : Int32) (a2_ : Int32) : Int32 := pX6_isLetter_0  σ a1_ a2_
def gX6_isLetter (σ : OS) (a1_ : Int32) (a2_ : Int32) : Prop := oX6_isLetter_0  σ a1_ a2_
set_option maxRecDepth 100000 in
theorem zX6_isLetter (cy : Nat → ClassId) (q : Nat → Nat) (σ : OS) (a1_ : Int32) (a2_ : Int32) (ok : gX6_isLetter σ a1_ a2_) {D : va_G} : Con yX6_isLetter cX6_isLetter 3 (some .boolean) 1 0 0 D (gty cy) [.ref (q 41), .int a1_, .int a2_] (wX6 cy q σ) (eI (wX6 cy q σ) (fX6_isLetter σ a1_ a2_)) :=
  Con.of (own := RX6) (by decide +kernel) rfl (Nat.le_of_ble_eq_true rfl) (Nat.zero_le _) (fun X A C hR _ => (wX6_isLetter_0 σ a1_ a2_ C hR  ok rfl))
theorem mv_X6_isLetter : MV yX6_isLetter cX6_isLetter 3 (some .boolean) RX6 2 := ⟨ki_X6_isLetter, kv_X6_isLetter, kn_X6, kc_X6_isLetter, by decide +kernel⟩
def tbX6_isWord : List (Nat × Instr × Nat) := [(0, .aload_n 0, 1), (1, .getfield 184, 3), (4, .ifCond .ne 108, 3), (7, .aload_n 0, 1), (8, .getfield 168, 3), (11, .iconst 1, 1), (12, .if_icmp .ne 100, 3), (15, .aload_n 0, 1), (16, .getfield 159, 3), (19, .aload_n 0, 1), (20, .getfield 165, 3), (23, .bipush 8, 2), (25, .iadd, 1), (26, .if_icmp .gt 86, 3), (29, .aload_n 0, 1), (30, .iconst 0, 1), (31, .iload_n 1, 1), (32, .invokevirtual 191, 3), (35, .ifCond .eq 77, 3), (38, .aload_n 0, 1), (39, .iconst 1, 1), (40, .iload_n 2, 1), (41, .invokevirtual 191, 3), (44, .ifCond .eq 68, 3), (47, .aload_n 0, 1), (48, .iconst 2, 1), (49, .iload_n 3, 1), (50, .invokevirtual 191, 3), (53, .ifCond .eq 59, 3), (56, .aload_n 0, 1), (57, .iconst 3, 1), (58, .iload 4, 2), (60, .invokevirtual 191, 3), (63, .ifCond .eq 49, 3), (66, .aload_n 0, 1), (67, .iconst 4, 1), (68, .iload 5, 2), (70, .invokevirtual 191, 3), (73, .ifCond .eq 39, 3), (76, .aload_n 0, 1), (77, .iconst 5, 1), (78, .iload 6, 2), (80, .invokevirtual 191, 3), (83, .ifCond .eq 29, 3), (86, .aload_n 0, 1), (87, .bipush 6, 2), (89, .iload 7, 2), (91, .invokevirtual 191, 3), (94, .ifCond .eq 18, 3), (97, .aload_n 0, 1), (98, .bipush 7, 2), (100, .iload 8, 2), (102, .invokevirtual 191, 3), (105, .ifCond .eq 7, 3), (108, .iconst 1, 1), (109, .goto 4, 3), (112, .iconst 0, 1), (113, .ireturn, 1)]
theorem tdX6_isWord : tbX6_isWord.all (fun q => decide (decode cX6_isWord q.1 = .ok q.2)) = true := by decide +kernel
def pX6_isWord_0  (σ : OS) (a1_ : Int32) (a2_ : Int32) (a3_ : Int32) (a4_ : Int32) (a5_ : Int32) (a6_ : Int32) (a7_ : Int32) (a8_ : Int32) : Int32 := if (σ.1 26) = 0 then if (σ.1 22) = 1 then if ((σ.1 23) + 8) < (σ.1 21) then 0 else if (fX6_isLetter σ 0 a1_) = 0 then 0 else if (fX6_isLetter σ 1 a2_) = 0 then 0 else if (fX6_isLetter σ 2 a3_) = 0 then 0 else if (fX6_isLetter σ 3 a4_) = 0 then 0 else if (fX6_isLetter σ 4 a5_) = 0 then 0 else if (fX6_isLetter σ 5 a6_) = 0 then 0 else if (fX6_isLetter σ 6 a7_) = 0 then 0 else if (fX6_isLetter σ 7 a8_) = 0 then 0 else 1 else 0 else 0
def oX6_isWord_0  (σ : OS) (a1_ : Int32) (a2_ : Int32) (a3_ : Int32) (a4_ : Int32) (a5_ : Int32) (a6_ : Int32) (a7_ : Int32) (a8_ : Int32) : Prop := ((σ.1 26) = 0 → ((σ.1 22) = 1 → (((σ.1 23) + 8) < (σ.1 21) → True) ∧ (¬ (((σ.1 23) + 8) < (σ.1 21)) → (gX6_isLetter σ 0 a1_) ∧ (((fX6_isLetter σ 0 a1_) = 0 → True) ∧ (¬ ((fX6_isLetter σ 0 a1_) = 0) → (gX6_isLetter σ 1 a2_) ∧ (((fX6_isLetter σ 1 a2_) = 0 → True) ∧ (¬ ((fX6_isLetter σ 1 a2_) = 0) → (gX6_isLetter σ 2 a3_) ∧ (((fX6_isLetter σ 2 a3_) = 0 → True) ∧ (¬ ((fX6_isLetter σ 2 a3_) = 0) → (gX6_isLetter σ 3 a4_) ∧ (((fX6_isLetter σ 3 a4_) = 0 → True) ∧ (¬ ((fX6_isLetter σ 3 a4_) = 0) → (gX6_isLetter σ 4 a5_) ∧ (((fX6_isLetter σ 4 a5_) = 0 → True) ∧ (¬ ((fX6_isLetter σ 4 a5_) = 0) → (gX6_isLetter σ 5 a6_) ∧ (((fX6_isLetter σ 5 a6_) = 0 → True) ∧ (¬ ((fX6_isLetter σ 5 a6_) = 0) → (gX6_isLetter σ 6 a7_) ∧ (((fX6_isLetter σ 6 a7_) = 0 → True) ∧ (¬ ((fX6_isLetter σ 6 a7_) = 0) → gX6_isLetter σ 7 a8_)))))))))))))))) ∧ (¬ ((σ.1 22) = 1) → True)) ∧ (¬ ((σ.1 26) = 0) → True)
set_option maxHeartbeats 4000000 in
set_option maxRecDepth 100000 in
theorem wX6_isWord_0 {X : CX} {cy : Nat → ClassId} {q : Nat → Nat} {D : va_G} {A : Nat → Prop} {res : Int32} (σ : OS) (a1_ : Int32) (a2_ : Int32) (a3_ : Int32) (a4_ : Int32) (a5_ : Int32) (a6_ : Int32) (a7_ : Int32) (a8_ : Int32) (C : Cx X cX6_isWord RX6 9 D (gty cy) A 2 0 0) (hR : Rt X (some .boolean) D (gty cy) A 0 0 (eI (wX6 cy q σ) res))  (ok : oX6_isWord_0  σ a1_ a2_ a3_ a4_ a5_ a6_ a7_ a8_) (h : pX6_isWord_0  σ a1_ a2_ a3_ a4_ a5_ a6_ a7_ a8_ = res) : At X D A 9 0 0 0 [(0, .ref (q 41)), (1, .int a1_), (2, .int a2_), (3, .int a3_), (4, .int a4_), (5, .int a5_), (6, .int a6_), (7, .int a7_), (8, .int a8_)] [] (wX6 cy q σ) := by
  unfold pX6_isWord_0 at h
  unfold oX6_isWord_0 at ok
  refine r_aload_n C 0 (dall tdX6_isWord 0 rfl) rfl ?_
  refine r_get C 0 kw_X6 rfl rfl (by decide) kf_X6_184 rfl rfl (dall tdX6_isWord 1 rfl) ?_
  refine r_if_ne (tgt := 112) C (dall tdX6_isWord 2 rfl) (by decide) (fun c1 => ?_) (fun c1 => ?_)
  · have h := (if_neg c1).symm.trans h
    have ok := ok.2 c1
    refine r_iconst (v := 0) C (dall tdX6_isWord 56 rfl) (by decide) ?_
    exact r_zret C (by decide) hR (dall tdX6_isWord 57 rfl) (by subst h; exact ⟨rfl, rfl⟩)
  · have h := (if_pos c1).symm.trans h
    have ok := ok.1 c1
    refine r_aload_n C 0 (dall tdX6_isWord 3 rfl) rfl ?_
    refine r_get C 0 kw_X6 rfl rfl (by decide) kf_X6_168 rfl rfl (dall tdX6_isWord 4 rfl) ?_
    refine r_iconst (v := 1) C (dall tdX6_isWord 5 rfl) (by decide) ?_
    refine r_icmp_ne (tgt := 112) C (dall tdX6_isWord 6 rfl) (by decide) (fun c2 => ?_) (fun c2 => ?_)
    · have h := (if_neg c2).symm.trans h
      have ok := ok.2 c2
      refine r_iconst (v := 0) C (dall tdX6_isWord 56 rfl) (by decide) ?_
      exact r_zret C (by decide) hR (dall tdX6_isWord 57 rfl) (by subst h; exact ⟨rfl, rfl⟩)
    · have h := (if_pos c2).symm.trans h
      have ok := ok.1 c2
      refine r_aload_n C 0 (dall tdX6_isWord 7 rfl) rfl ?_
      refine r_get C 0 kw_X6 rfl rfl (by decide) kf_X6_159 rfl rfl (dall tdX6_isWord 8 rfl) ?_
      refine r_aload_n C 0 (dall tdX6_isWord 9 rfl) rfl ?_
      refine r_get C 0 kw_X6 rfl rfl (by decide) kf_X6_165 rfl rfl (dall tdX6_isWord 10 rfl) ?_
      refine r_bipush (v := 8) C (dall tdX6_isWord 11 rfl) (by decide) ?_
      refine r_iadd C (dall tdX6_isWord 12 rfl) ?_
      refine r_icmp_gt (tgt := 112) C (dall tdX6_isWord 13 rfl) (by decide) (fun c3 => ?_) (fun c3 => ?_)
      · have h := (if_pos c3).symm.trans h
        have ok := ok.1 c3
        refine r_iconst (v := 0) C (dall tdX6_isWord 56 rfl) (by decide) ?_
        exact r_zret C (by decide) hR (dall tdX6_isWord 57 rfl) (by subst h; exact ⟨rfl, rfl⟩)
      · have h := (if_neg c3).symm.trans h
        have ok := ok.2 c3
        refine r_aload_n C 0 (dall tdX6_isWord 14 rfl) rfl ?_
        refine r_iconst (v := 0) C (dall tdX6_isWord 15 rfl) (by decide) ?_
        refine r_iload_n C 1 (dall tdX6_isWord 16 rfl) rfl ?_
        obtain ⟨o4, ok⟩ := ok
        refine r_vI (as := [.int 0, .int a1_]) C (zX6_isLetter cy q σ 0 a1_ o4) mv_X6_isLetter km_X6_191 (by decide) (by decide) ⟨Nat.le_refl _, Nat.le_refl _⟩ rfl rfl rfl rfl (Nat.le_of_ble_eq_true rfl) (dall tdX6_isWord 17 rfl) ?_
        refine r_if_eq (tgt := 112) C (dall tdX6_isWord 18 rfl) (by decide) (fun c5 => ?_) (fun c5 => ?_)
        · have h := (if_pos c5).symm.trans h
          have ok := ok.1 c5
          refine r_iconst (v := 0) C (dall tdX6_isWord 56 rfl) (by decide) ?_
          exact r_zret C (by decide) hR (dall tdX6_isWord 57 rfl) (by subst h; exact ⟨rfl, rfl⟩)
        · have h := (if_neg c5).symm.trans h
          have ok := ok.2 c5
          refine r_aload_n C 0 (dall tdX6_isWord 19 rfl) rfl ?_
          refine r_iconst (v := 1) C (dall tdX6_isWord 20 rfl) (by decide) ?_
          refine r_iload_n C 2 (dall tdX6_isWord 21 rfl) rfl ?_
          obtain ⟨o6, ok⟩ := ok
          refine r_vI (as := [.int 1, .int a2_]) C (zX6_isLetter cy q σ 1 a2_ o6) mv_X6_isLetter km_X6_191 (by decide) (by decide) ⟨Nat.le_refl _, Nat.le_refl _⟩ rfl rfl rfl rfl (Nat.le_of_ble_eq_true rfl) (dall tdX6_isWord 22 rfl) ?_
          refine r_if_eq (tgt := 112) C (dall tdX6_isWord 23 rfl) (by decide) (fun c7 => ?_) (fun c7 => ?_)
          · have h := (if_pos c7).symm.trans h
            have ok := ok.1 c7
            refine r_iconst (v := 0) C (dall tdX6_isWord 56 rfl) (by decide) ?_
            exact r_zret C (by decide) hR (dall tdX6_isWord 57 rfl) (by subst h; exact ⟨rfl, rfl⟩)
          · have h := (if_neg c7).symm.trans h
            have ok := ok.2 c7
            refine r_aload_n C 0 (dall tdX6_isWord 24 rfl) rfl ?_
            refine r_iconst (v := 2) C (dall tdX6_isWord 25 rfl) (by decide) ?_
            refine r_iload_n C 3 (dall tdX6_isWord 26 rfl) rfl ?_
            obtain ⟨o8, ok⟩ := ok
            refine r_vI (as := [.int 2, .int a3_]) C (zX6_isLetter cy q σ 2 a3_ o8) mv_X6_isLetter km_X6_191 (by decide) (by decide) ⟨Nat.le_refl _, Nat.le_refl _⟩ rfl rfl rfl rfl (Nat.le_of_ble_eq_true rfl) (dall tdX6_isWord 27 rfl) ?_
            refine r_if_eq (tgt := 112) C (dall tdX6_isWord 28 rfl) (by decide) (fun c9 => ?_) (fun c9 => ?_)
            · have h := (if_pos c9).symm.trans h
              have ok := ok.1 c9
              refine r_iconst (v := 0) C (dall tdX6_isWord 56 rfl) (by decide) ?_
              exact r_zret C (by decide) hR (dall tdX6_isWord 57 rfl) (by subst h; exact ⟨rfl, rfl⟩)
            · have h := (if_neg c9).symm.trans h
              have ok := ok.2 c9
              refine r_aload_n C 0 (dall tdX6_isWord 29 rfl) rfl ?_
              refine r_iconst (v := 3) C (dall tdX6_isWord 30 rfl) (by decide) ?_
              refine r_iload C 4 (dall tdX6_isWord 31 rfl) rfl ?_
              obtain ⟨o10, ok⟩ := ok
              refine r_vI (as := [.int 3, .int a4_]) C (zX6_isLetter cy q σ 3 a4_ o10) mv_X6_isLetter km_X6_191 (by decide) (by decide) ⟨Nat.le_refl _, Nat.le_refl _⟩ rfl rfl rfl rfl (Nat.le_of_ble_eq_true rfl) (dall tdX6_isWord 32 rfl) ?_
              refine r_if_eq (tgt := 112) C (dall tdX6_isWord 33 rfl) (by decide) (fun c11 => ?_) (fun c11 => ?_)
              · have h := (if_pos c11).symm.trans h
                have ok := ok.1 c11
                refine r_iconst (v := 0) C (dall tdX6_isWord 56 rfl) (by decide) ?_
                exact r_zret C (by decide) hR (dall tdX6_isWord 57 rfl) (by subst h; exact ⟨rfl, rfl⟩)
              · have h := (if_neg c11).symm.trans h
                have ok := ok.2 c11
                refine r_aload_n C 0 (dall tdX6_isWord 34 rfl) rfl ?_
                refine r_iconst (v := 4) C (dall tdX6_isWord 35 rfl) (by decide) ?_
                refine r_iload C 5 (dall tdX6_isWord 36 rfl) rfl ?_
                obtain ⟨o12, ok⟩ := ok
                refine r_vI (as := [.int 4, .int a5_]) C (zX6_isLetter cy q σ 4 a5_ o12) mv_X6_isLetter km_X6_191 (by decide) (by decide) ⟨Nat.le_refl _, Nat.le_refl _⟩ rfl rfl rfl rfl (Nat.le_of_ble_eq_true rfl) (dall tdX6_isWord 37 rfl) ?_
                refine r_if_eq (tgt := 112) C (dall tdX6_isWord 38 rfl) (by decide) (fun c13 => ?_) (fun c13 => ?_)
                · have h := (if_pos c13).symm.trans h
                  have ok := ok.1 c13
                  refine r_iconst (v := 0) C (dall tdX6_isWord 56 rfl) (by decide) ?_
                  exact r_zret C (by decide) hR (dall tdX6_isWord 57 rfl) (by subst h; exact ⟨rfl, rfl⟩)
                · have h := (if_neg c13).symm.trans h
                  have ok := ok.2 c13
                  refine r_aload_n C 0 (dall tdX6_isWord 39 rfl) rfl ?_
                  refine r_iconst (v := 5) C (dall tdX6_isWord 40 rfl) (by decide) ?_
                  refine r_iload C 6 (dall tdX6_isWord 41 rfl) rfl ?_
                  obtain ⟨o14, ok⟩ := ok
                  refine r_vI (as := [.int 5, .int a6_]) C (zX6_isLetter cy q σ 5 a6_ o14) mv_X6_isLetter km_X6_191 (by decide) (by decide) ⟨Nat.le_refl _, Nat.le_refl _⟩ rfl rfl rfl rfl (Nat.le_of_ble_eq_true rfl) (dall tdX6_isWord 42 rfl) ?_
                  refine r_if_eq (tgt := 112) C (dall tdX6_isWord 43 rfl) (by decide) (fun c15 => ?_) (fun c15 => ?_)
                  · have h := (if_pos c15).symm.trans h
                    have ok := ok.1 c15
                    refine r_iconst (v := 0) C (dall tdX6_isWord 56 rfl) (by decide) ?_
                    exact r_zret C (by decide) hR (dall tdX6_isWord 57 rfl) (by subst h; exact ⟨rfl, rfl⟩)
                  · have h := (if_neg c15).symm.trans h
                    have ok := ok.2 c15
                    refine r_aload_n C 0 (dall tdX6_isWord 44 rfl) rfl ?_
                    refine r_bipush (v := 6) C (dall tdX6_isWord 45 rfl) (by decide) ?_
                    refine r_iload C 7 (dall tdX6_isWord 46 rfl) rfl ?_
                    obtain ⟨o16, ok⟩ := ok
                    refine r_vI (as := [.int 6, .int a7_]) C (zX6_isLetter cy q σ 6 a7_ o16) mv_X6_isLetter km_X6_191 (by decide) (by decide) ⟨Nat.le_refl _, Nat.le_refl _⟩ rfl rfl rfl rfl (Nat.le_of_ble_eq_true rfl) (dall tdX6_isWord 47 rfl) ?_
                    refine r_if_eq (tgt := 112) C (dall tdX6_isWord 48 rfl) (by decide) (fun c17 => ?_) (fun c17 => ?_)
                    · have h := (if_pos c17).symm.trans h
                      have ok := ok.1 c17
                      refine r_iconst (v := 0) C (dall tdX6_isWord 56 rfl) (by decide) ?_
                      exact r_zret C (by decide) hR (dall tdX6_isWord 57 rfl) (by subst h; exact ⟨rfl, rfl⟩)
                    · have h := (if_neg c17).symm.trans h
                      have ok := ok.2 c17
                      refine r_aload_n C 0 (dall tdX6_isWord 49 rfl) rfl ?_
                      refine r_bipush (v := 7) C (dall tdX6_isWord 50 rfl) (by decide) ?_
                      refine r_iload C 8 (dall tdX6_isWord 51 rfl) rfl ?_
                      have o18 := ok
                      refine r_vI (as := [.int 7, .int a8_]) C (zX6_isLetter cy q σ 7 a8_ o18) mv_X6_isLetter km_X6_191 (by decide) (by decide) ⟨Nat.le_refl _, Nat.le_refl _⟩ rfl rfl rfl rfl (Nat.le_of_ble_eq_true rfl) (dall tdX6_isWord 52 rfl) ?_
                      refine r_if_eq (tgt := 112) C (dall tdX6_isWord 53 rfl) (by decide) (fun c19 => ?_) (fun c19 => ?_)
                      · have h := (if_pos c19).symm.trans h
                        refine r_iconst (v := 0) C (dall tdX6_isWord 56 rfl) (by decide) ?_
                        exact r_zret C (by decide) hR (dall tdX6_isWord 57 rfl) (by subst h; exact ⟨rfl, rfl⟩)
                      · have h := (if_neg c19).symm.trans h
                        refine r_iconst (v := 1) C (dall tdX6_isWord 54 rfl) (by decide) ?_
                        refine r_goto (tgt := 113) C (dall tdX6_isWord 55 rfl) (by decide) ?_
                        exact r_zret C (by decide) hR (dall tdX6_isWord 57 rfl) (by subst h; exact ⟨rfl, rfl⟩)
def fX6_isWord (σ : OS) (a1_ : Int32) (a2_ : Int32) (a3_ : Int32) (a4_ : Int32) (a5_ : Int32) (a6_ : Int32) (a7_ : Int32) (a8_ : Int32) : Int32 := pX6_isWord_0  σ a1_ a2_ a3_ a4_ a5_ a6_ a7_ a8_
def gX6_isWord (σ : OS) (a1_ : Int32) (a2_ : Int32) (a3_ : Int32) (a4_ : Int32) (a5_ : Int32) (a6_ : Int32) (a7_ : Int32) (a8_ : Int32) : Prop := oX6_isWord_0  σ a1_ a2_ a3_ a4_ a5_ a6_ a7_ a8_
set_option maxRecDepth 100000 in
theorem zX6_isWord (cy : Nat → ClassId) (q : Nat → Nat) (σ : OS) (a1_ : Int32) (a2_ : Int32) (a3_ : Int32) (a4_ : Int32) (a5_ : Int32) (a6_ : Int32) (a7_ : Int32) (a8_ : Int32) (ok : gX6_isWord σ a1_ a2_ a3_ a4_ a5_ a6_ a7_ a8_) {D : va_G} : Con yX6_isWord cX6_isWord 9 (some .boolean) 2 0 0 D (gty cy) [.ref (q 41), .int a1_, .int a2_, .int a3_, .int a4_, .int a5_, .int a6_, .int a7_, .int a8_] (wX6 cy q σ) (eI (wX6 cy q σ) (fX6_isWord σ a1_ a2_ a3_ a4_ a5_ a6_ a7_ a8_)) :=
  Con.of (own := RX6) (by decide +kernel) rfl (Nat.le_of_ble_eq_true rfl) (Nat.zero_le _) (fun X A C hR _ => (wX6_isWord_0 σ a1_ a2_ a3_ a4_ a5_ a6_ a7_ a8_ C hR  ok rfl))
theorem mv_X6_isWord : MV yX6_isWord cX6_isWord 9 (some .boolean) RX6 8 := ⟨ki_X6_isWord, kv_X6_isWord, kn_X6, kc_X6_isWord, by decide +kernel⟩
def tbX6_fail : List (Nat × Instr × Nat) := [(0, .aload_n 0, 1), (1, .getfield 184, 3), (4, .ifCond .ne 16, 3), (7, .aload_n 0, 1), (8, .iconst 1, 1), (9, .putfield 184, 3), (12, .aload_n 0, 1), (13, .aload_n 0, 1), (14, .getfield 165, 3), (17, .putfield 188, 3), (20, .return_, 1)]
theorem tdX6_fail : tbX6_fail.all (fun q => decide (decode cX6_fail q.1 = .ok q.2)) = true := by decide +kernel
def pX6_fail_0  (σ : OS) : OS := if (σ.1 26) = 0 then oI (oI σ 26 1) 27 ((oI σ 26 1).1 23) else σ
set_option maxHeartbeats 4000000 in
set_option maxRecDepth 100000 in
theorem wX6_fail_0 {X : CX} {cy : Nat → ClassId} {q : Nat → Nat} {D : va_G} {A : Nat → Prop} {res : OS} (σ : OS) (C : Cx X cX6_fail RX6 1 D (gty cy) A 0 0 0) (hR : Rt X none D (gty cy) A 0 0 (eV (wX6 cy q res)))  (h : pX6_fail_0  σ = res) : At X D A 1 0 0 0 [(0, .ref (q 41))] [] (wX6 cy q σ) := by
  unfold pX6_fail_0 at h
  refine r_aload_n C 0 (dall tdX6_fail 0 rfl) rfl ?_
  refine r_get C 0 kw_X6 rfl rfl (by decide) kf_X6_184 rfl rfl (dall tdX6_fail 1 rfl) ?_
  refine r_if_ne (tgt := 20) C (dall tdX6_fail 2 rfl) (by decide) (fun c1 => ?_) (fun c1 => ?_)
  · have h := (if_neg c1).symm.trans h
    exact r_vret C hR (dall tdX6_fail 10 rfl) (by subst h; exact ⟨rfl, rfl⟩)
  · have h := (if_pos c1).symm.trans h
    refine r_aload_n C 0 (dall tdX6_fail 3 rfl) rfl ?_
    refine r_iconst (v := 1) C (dall tdX6_fail 4 rfl) (by decide) ?_
    refine r_put C 0 kw_X6 tyX6_ok nmX6 rfl rfl (by decide) kf_X6_184 rfl rfl rfl (by decide) (by decide) (Nat.le_of_ble_eq_true rfl) (pu_X6_26 cy q σ 1) (dall tdX6_fail 5 rfl) ?_
    refine r_aload_n C 0 (dall tdX6_fail 6 rfl) rfl ?_
    refine r_aload_n C 0 (dall tdX6_fail 7 rfl) rfl ?_
    refine r_get C 0 kw_X6 rfl rfl (by decide) kf_X6_165 rfl rfl (dall tdX6_fail 8 rfl) ?_
    refine r_put C 0 kw_X6 tyX6_ok nmX6 rfl rfl (by decide) kf_X6_188 rfl rfl rfl rfl rfl (Nat.le_of_ble_eq_true rfl) (pu_X6_27 cy q (oI σ 26 1) ((oI σ 26 1).1 23)) (dall tdX6_fail 9 rfl) ?_
    exact r_vret C hR (dall tdX6_fail 10 rfl) (by subst h; exact ⟨rfl, rfl⟩)
def fX6_fail (σ : OS) : OS := pX6_fail_0  σ
set_option maxRecDepth 100000 in
theorem zX6_fail (cy : Nat → ClassId) (q : Nat → Nat) (σ : OS) {D : va_G} : Con yX6_fail cX6_fail 1 none 0 0 0 D (gty cy) [.ref (q 41)] (wX6 cy q σ) (eV (wX6 cy q (fX6_fail σ ))) :=
  Con.of (own := RX6) (by decide +kernel) rfl (Nat.le_of_ble_eq_true rfl) (Nat.zero_le _) (fun X A C hR _ => (wX6_fail_0 σ C hR  rfl))
theorem mv_X6_fail : MV yX6_fail cX6_fail 1 none RX6 0 := ⟨ki_X6_fail, kv_X6_fail, kn_X6, kc_X6_fail, by decide +kernel⟩
def tbX6_opens : List (Nat × Instr × Nat) := [(0, .aload_n 0, 1), (1, .getfield 195, 3), (4, .iconst 5, 1), (5, .if_icmp .ne 9, 3), (8, .aload_n 0, 1), (9, .invokevirtual 198, 3), (12, .iconst 0, 1), (13, .ireturn, 1), (14, .aload_n 0, 1), (15, .dup, 1), (16, .getfield 195, 3), (19, .iconst 1, 1), (20, .iadd, 1), (21, .putfield 195, 3), (24, .aload_n 0, 1), (25, .invokevirtual 201, 3), (28, .iconst 1, 1), (29, .ireturn, 1)]
theorem tdX6_opens : tbX6_opens.all (fun q => decide (decode cX6_opens q.1 = .ok q.2)) = true := by decide +kernel
def pX6_opens_28  (σ : OS) : Int32 × OS := (1, σ)
set_option maxHeartbeats 4000000 in
set_option maxRecDepth 100000 in
theorem wX6_opens_28 {X : CX} {cy : Nat → ClassId} {q : Nat → Nat} {D : va_G} {A : Nat → Prop} {res : Int32 × OS} (σ : OS) (C : Cx X cX6_opens RX6 1 D (gty cy) A 2 0 0) (hR : Rt X (some .boolean) D (gty cy) A 0 0 (eI (wX6 cy q res.2) res.1))  (h : pX6_opens_28  σ = res) : At X D A 1 0 0 28 [] [] (wX6 cy q σ) := by
  unfold pX6_opens_28 at h
  refine r_iconst (v := 1) C (dall tdX6_opens 16 rfl) (by decide) ?_
  exact r_zret C (by decide) hR (dall tdX6_opens 17 rfl) (by subst h; exact ⟨rfl, rfl⟩)
def pX6_opens_12  (σ : OS) : Int32 × OS := (0, σ)
set_option maxHeartbeats 4000000 in
set_option maxRecDepth 100000 in
theorem wX6_opens_12 {X : CX} {cy : Nat → ClassId} {q : Nat → Nat} {D : va_G} {A : Nat → Prop} {res : Int32 × OS} (σ : OS) (C : Cx X cX6_opens RX6 1 D (gty cy) A 2 0 0) (hR : Rt X (some .boolean) D (gty cy) A 0 0 (eI (wX6 cy q res.2) res.1))  (h : pX6_opens_12  σ = res) : At X D A 1 0 0 12 [] [] (wX6 cy q σ) := by
  unfold pX6_opens_12 at h
  refine r_iconst (v := 0) C (dall tdX6_opens 6 rfl) (by decide) ?_
  exact r_zret C (by decide) hR (dall tdX6_opens 7 rfl) (by subst h; exact ⟨rfl, rfl⟩)
def pX6_opens_0  (σ : OS) : Int32 × OS := if (σ.1 25) = 5 then pX6_opens_12  (fX6_fail σ) else pX6_opens_28  (fX6_next (oI σ 25 ((σ.1 25) + 1)))
def oX6_opens_0  (σ : OS) : Prop := ((σ.1 25) = 5 → True) ∧ (¬ ((σ.1 25) = 5) → gX6_next (oI σ 25 ((σ.1 25) + 1)) )
set_option maxHeartbeats 4000000 in
set_option maxRecDepth 100000 in
theorem wX6_opens_0 {X : CX} {cy : Nat → ClassId} {q : Nat → Nat} {D : va_G} {A : Nat → Prop} {res : Int32 × OS} (σ : OS) (C : Cx X cX6_opens RX6 1 D (gty cy) A 2 0 0) (hR : Rt X (some .boolean) D (gty cy) A 0 0 (eI (wX6 cy q res.2) res.1))  (ok : oX6_opens_0  σ) (h : pX6_opens_0  σ = res) : At X D A 1 0 0 0 [(0, .ref (q 41))] [] (wX6 cy q σ) := by
  unfold pX6_opens_0 at h
  unfold oX6_opens_0 at ok
  refine r_aload_n C 0 (dall tdX6_opens 0 rfl) rfl ?_
  refine r_get C 0 kw_X6 rfl rfl (by decide) kf_X6_195 rfl rfl (dall tdX6_opens 1 rfl) ?_
  refine r_iconst (v := 5) C (dall tdX6_opens 2 rfl) (by decide) ?_
  refine r_icmp_ne (tgt := 14) C (dall tdX6_opens 3 rfl) (by decide) (fun c1 => ?_) (fun c1 => ?_)
  · have h := (if_neg c1).symm.trans h
    have ok := ok.2 c1
    refine r_aload_n C 0 (dall tdX6_opens 8 rfl) rfl ?_
    refine r_dup C (dall tdX6_opens 9 rfl) rfl ?_
    refine r_get C 0 kw_X6 rfl rfl (by decide) kf_X6_195 rfl rfl (dall tdX6_opens 10 rfl) ?_
    refine r_iconst (v := 1) C (dall tdX6_opens 11 rfl) (by decide) ?_
    refine r_iadd C (dall tdX6_opens 12 rfl) ?_
    refine r_put C 0 kw_X6 tyX6_ok nmX6 rfl rfl (by decide) kf_X6_195 rfl rfl rfl rfl rfl (Nat.le_of_ble_eq_true rfl) (pu_X6_25 cy q σ ((σ.1 25) + 1)) (dall tdX6_opens 13 rfl) ?_
    refine r_aload_n C 0 (dall tdX6_opens 14 rfl) rfl ?_
    have o2 := ok
    refine r_vV (as := []) C (zX6_next cy q (oI σ 25 ((σ.1 25) + 1))  o2) mv_X6_next km_X6_201 (by decide) (by decide) ⟨Nat.le_refl _, Nat.le_refl _⟩ rfl rfl rfl rfl (Nat.le_of_ble_eq_true rfl) (dall tdX6_opens 15 rfl) ?_
    refine r_pick [] rfl ?_
    exact wX6_opens_28 (fX6_next (oI σ 25 ((σ.1 25) + 1))) C hR  h
  · have h := (if_pos c1).symm.trans h
    have ok := ok.1 c1
    refine r_aload_n C 0 (dall tdX6_opens 4 rfl) rfl ?_
    refine r_vV (as := []) C (zX6_fail cy q σ  ) mv_X6_fail km_X6_198 (by decide) (by decide) ⟨Nat.le_refl _, Nat.le_refl _⟩ rfl rfl rfl rfl (Nat.le_of_ble_eq_true rfl) (dall tdX6_opens 5 rfl) ?_
    refine r_pick [] rfl ?_
    exact wX6_opens_12 (fX6_fail σ) C hR  h
def fX6_opens (σ : OS) : Int32 × OS := pX6_opens_0  σ
def gX6_opens (σ : OS) : Prop := oX6_opens_0  σ
set_option maxRecDepth 100000 in
theorem zX6_opens (cy : Nat → ClassId) (q : Nat → Nat) (σ : OS) (ok : gX6_opens σ ) {D : va_G} : Con yX6_opens cX6_opens 1 (some .boolean) 2 0 0 D (gty cy) [.ref (q 41)] (wX6 cy q σ) (eI (wX6 cy q (fX6_opens σ ).2) (fX6_opens σ ).1) :=
  Con.of (own := RX6) (by decide +kernel) rfl (Nat.le_of_ble_eq_true rfl) (Nat.zero_le _) (fun X A C hR _ => (wX6_opens_0 σ C hR  ok rfl))
theorem mv_X6_opens : MV yX6_opens cX6_opens 1 (some .boolean) RX6 0 := ⟨ki_X6_opens, kv_X6_opens, kn_X6, kc_X6_opens, by decide +kernel⟩
def tbX6_isSign : List (Nat × Instr × Nat) := [(0, .aload_n 0, 1), (1, .getfield 184, 3), (4, .ifCond .ne 25, 3), (7, .aload_n 0, 1), (8, .getfield 168, 3), (11, .iconst 3, 1), (12, .if_icmp .ne 17, 3), (15, .aload_n 0, 1), (16, .getfield 179, 3), (19, .iload_n 1, 1), (20, .i2l, 1), (21, .lcmp, 1), (22, .ifCond .ne 7, 3), (25, .iconst 1, 1), (26, .goto 4, 3), (29, .iconst 0, 1), (30, .ireturn, 1)]
theorem tdX6_isSign : tbX6_isSign.all (fun q => decide (decode cX6_isSign q.1 = .ok q.2)) = true := by decide +kernel
def pX6_isSign_0  (σ : OS) (a1_ : Int32) : Int32 := if (σ.1 26) = 0 then if (σ.1 22) = 3 then if (σ.2.1 24) = a1_.toInt64 then 1 else 0 else 0 else 0
set_option maxHeartbeats 4000000 in
set_option maxRecDepth 100000 in
theorem wX6_isSign_0 {X : CX} {cy : Nat → ClassId} {q : Nat → Nat} {D : va_G} {A : Nat → Prop} {res : Int32} (σ : OS) (a1_ : Int32) (C : Cx X cX6_isSign RX6 2 D (gty cy) A 0 0 0) (hR : Rt X (some .boolean) D (gty cy) A 0 0 (eI (wX6 cy q σ) res))  (h : pX6_isSign_0  σ a1_ = res) : At X D A 2 0 0 0 [(0, .ref (q 41)), (1, .int a1_)] [] (wX6 cy q σ) := by
  unfold pX6_isSign_0 at h
  refine r_aload_n C 0 (dall tdX6_isSign 0 rfl) rfl ?_
  refine r_get C 0 kw_X6 rfl rfl (by decide) kf_X6_184 rfl rfl (dall tdX6_isSign 1 rfl) ?_
  refine r_if_ne (tgt := 29) C (dall tdX6_isSign 2 rfl) (by decide) (fun c1 => ?_) (fun c1 => ?_)
  · have h := (if_neg c1).symm.trans h
    refine r_iconst (v := 0) C (dall tdX6_isSign 15 rfl) (by decide) ?_
    exact r_zret C (by decide) hR (dall tdX6_isSign 16 rfl) (by subst h; exact ⟨rfl, rfl⟩)
  · have h := (if_pos c1).symm.trans h
    refine r_aload_n C 0 (dall tdX6_isSign 3 rfl) rfl ?_
    refine r_get C 0 kw_X6 rfl rfl (by decide) kf_X6_168 rfl rfl (dall tdX6_isSign 4 rfl) ?_
    refine r_iconst (v := 3) C (dall tdX6_isSign 5 rfl) (by decide) ?_
    refine r_icmp_ne (tgt := 29) C (dall tdX6_isSign 6 rfl) (by decide) (fun c2 => ?_) (fun c2 => ?_)
    · have h := (if_neg c2).symm.trans h
      refine r_iconst (v := 0) C (dall tdX6_isSign 15 rfl) (by decide) ?_
      exact r_zret C (by decide) hR (dall tdX6_isSign 16 rfl) (by subst h; exact ⟨rfl, rfl⟩)
    · have h := (if_pos c2).symm.trans h
      refine r_aload_n C 0 (dall tdX6_isSign 7 rfl) rfl ?_
      refine r_get C 0 kw_X6 rfl rfl (by decide) kf_X6_179 rfl rfl (dall tdX6_isSign 8 rfl) ?_
      refine r_iload_n C 1 (dall tdX6_isSign 9 rfl) rfl ?_
      refine r_i2l C (dall tdX6_isSign 10 rfl) ?_
      refine r_lif_ne (tgt := 29) C (dall tdX6_isSign 11 rfl) (dall tdX6_isSign 12 rfl) (by decide) (fun c3 => ?_) (fun c3 => ?_)
      · have h := (if_neg c3).symm.trans h
        refine r_iconst (v := 0) C (dall tdX6_isSign 15 rfl) (by decide) ?_
        exact r_zret C (by decide) hR (dall tdX6_isSign 16 rfl) (by subst h; exact ⟨rfl, rfl⟩)
      · have h := (if_pos c3).symm.trans h
        refine r_iconst (v := 1) C (dall tdX6_isSign 13 rfl) (by decide) ?_
        refine r_goto (tgt := 30) C (dall tdX6_isSign 14 rfl) (by decide) ?_
        exact r_zret C (by decide) hR (dall tdX6_isSign 16 rfl) (by subst h; exact ⟨rfl, rfl⟩)
def fX6_isSign (σ : OS) (a1_ : Int32) : Int32 := pX6_isSign_0  σ a1_
set_option maxRecDepth 100000 in
theorem zX6_isSign (cy : Nat → ClassId) (q : Nat → Nat) (σ : OS) (a1_ : Int32) {D : va_G} : Con yX6_isSign cX6_isSign 2 (some .boolean) 0 0 0 D (gty cy) [.ref (q 41), .int a1_] (wX6 cy q σ) (eI (wX6 cy q σ) (fX6_isSign σ a1_)) :=
  Con.of (own := RX6) (by decide +kernel) rfl (Nat.le_of_ble_eq_true rfl) (Nat.zero_le _) (fun X A C hR _ => (wX6_isSign_0 σ a1_ C hR  rfl))
theorem mv_X6_isSign : MV yX6_isSign cX6_isSign 2 (some .boolean) RX6 1 := ⟨ki_X6_isSign, kv_X6_isSign, kn_X6, kc_X6_isSign, by decide +kernel⟩
def tbX6_name : List (Nat × Instr × Nat) := [(0, .aload_n 0, 1), (1, .bipush 102, 2), (3, .bipush 105, 2), (5, .bipush 114, 2), (7, .bipush 109, 2), (9, .iconst 0, 1), (10, .iconst 0, 1), (11, .iconst 0, 1), (12, .iconst 0, 1), (13, .invokevirtual 204, 3), (16, .ifCond .eq 8, 3), (19, .aload_n 0, 1), (20, .getfield 208, 3), (23, .ireturn, 1), (24, .aload_n 0, 1), (25, .bipush 110, 2), (27, .bipush 117, 2), (29, .bipush 109, 2), (31, .bipush 98, 2), (33, .bipush 101, 2), (35, .bipush 114, 2), (37, .iconst 0, 1), (38, .iconst 0, 1), (39, .invokevirtual 204, 3), (42, .ifCond .eq 8, 3), (45, .aload_n 0, 1), (46, .getfield 211, 3), (49, .ireturn, 1), (50, .aload_n 0, 1), (51, .bipush 121, 2), (53, .bipush 101, 2), (55, .bipush 97, 2), (57, .bipush 114, 2), (59, .iconst 0, 1), (60, .iconst 0, 1), (61, .iconst 0, 1), (62, .iconst 0, 1), (63, .invokevirtual 204, 3), (66, .ifCond .eq 8, 3), (69, .aload_n 0, 1), (70, .getfield 214, 3), (73, .ireturn, 1), (74, .aload_n 0, 1), (75, .bipush 112, 2), (77, .bipush 97, 2), (79, .bipush 114, 2), (81, .bipush 116, 2), (83, .bipush 115, 2), (85, .iconst 0, 1), (86, .iconst 0, 1), (87, .iconst 0, 1), (88, .invokevirtual 204, 3), (91, .ifCond .eq 8, 3), (94, .aload_n 0, 1), (95, .getfield 217, 3), (98, .ireturn, 1), (99, .aload_n 0, 1), (100, .bipush 104, 2), (102, .bipush 105, 2), (104, .bipush 103, 2), (106, .bipush 104, 2), (108, .iconst 0, 1), (109, .iconst 0, 1), (110, .iconst 0, 1), (111, .iconst 0, 1), (112, .invokevirtual 204, 3), (115, .ifCond .eq 8, 3), (118, .aload_n 0, 1), (119, .getfield 220, 3), (122, .ireturn, 1), (123, .aload_n 0, 1), (124, .bipush 112, 2), (126, .bipush 97, 2), (128, .bipush 105, 2), (130, .bipush 100, 2), (132, .iconst 0, 1), (133, .iconst 0, 1), (134, .iconst 0, 1), (135, .iconst 0, 1), (136, .invokevirtual 204, 3), (139, .ifCond .eq 8, 3), (142, .aload_n 0, 1), (143, .getfield 223, 3), (146, .ireturn, 1), (147, .aload_n 0, 1), (148, .invokevirtual 198, 3), (151, .iconst 0, 1), (152, .ireturn, 1)]
theorem tdX6_name : tbX6_name.all (fun q => decide (decode cX6_name q.1 = .ok q.2)) = true := by decide +kernel
def pX6_name_151  (σ : OS) : Int32 × OS := (0, σ)
set_option maxHeartbeats 4000000 in
set_option maxRecDepth 100000 in
theorem wX6_name_151 {X : CX} {cy : Nat → ClassId} {q : Nat → Nat} {D : va_G} {A : Nat → Prop} {res : Int32 × OS} (σ : OS) (C : Cx X cX6_name RX6 1 D (gty cy) A 3 0 0) (hR : Rt X (some .int) D (gty cy) A 0 0 (eI (wX6 cy q res.2) res.1))  (h : pX6_name_151  σ = res) : At X D A 1 0 0 151 [] [] (wX6 cy q σ) := by
  unfold pX6_name_151 at h
  refine r_iconst (v := 0) C (dall tdX6_name 86 rfl) (by decide) ?_
  exact r_iret C hR (dall tdX6_name 87 rfl) (by subst h; exact ⟨rfl, rfl⟩)
def pX6_name_0  (σ : OS) : Int32 × OS := if (fX6_isWord σ 102 105 114 109 0 0 0 0) = 0 then if (fX6_isWord σ 110 117 109 98 101 114 0 0) = 0 then if (fX6_isWord σ 121 101 97 114 0 0 0 0) = 0 then if (fX6_isWord σ 112 97 114 116 115 0 0 0) = 0 then if (fX6_isWord σ 104 105 103 104 0 0 0 0) = 0 then if (fX6_isWord σ 112 97 105 100 0 0 0 0) = 0 then pX6_name_151  (fX6_fail σ) else (σ.1 18, σ) else (σ.1 17, σ) else (σ.1 16, σ) else (σ.1 15, σ) else (σ.1 14, σ) else (σ.1 13, σ)
def oX6_name_0  (σ : OS) : Prop := (gX6_isWord σ 102 105 114 109 0 0 0 0) ∧ (((fX6_isWord σ 102 105 114 109 0 0 0 0) = 0 → (gX6_isWord σ 110 117 109 98 101 114 0 0) ∧ (((fX6_isWord σ 110 117 109 98 101 114 0 0) = 0 → (gX6_isWord σ 121 101 97 114 0 0 0 0) ∧ (((fX6_isWord σ 121 101 97 114 0 0 0 0) = 0 → (gX6_isWord σ 112 97 114 116 115 0 0 0) ∧ (((fX6_isWord σ 112 97 114 116 115 0 0 0) = 0 → (gX6_isWord σ 104 105 103 104 0 0 0 0) ∧ (((fX6_isWord σ 104 105 103 104 0 0 0 0) = 0 → gX6_isWord σ 112 97 105 100 0 0 0 0) ∧ (¬ ((fX6_isWord σ 104 105 103 104 0 0 0 0) = 0) → True))) ∧ (¬ ((fX6_isWord σ 112 97 114 116 115 0 0 0) = 0) → True))) ∧ (¬ ((fX6_isWord σ 121 101 97 114 0 0 0 0) = 0) → True))) ∧ (¬ ((fX6_isWord σ 110 117 109 98 101 114 0 0) = 0) → True))) ∧ (¬ ((fX6_isWord σ 102 105 114 109 0 0 0 0) = 0) → True))
set_option maxHeartbeats 4000000 in
set_option maxRecDepth 100000 in
theorem wX6_name_0 {X : CX} {cy : Nat → ClassId} {q : Nat → Nat} {D : va_G} {A : Nat → Prop} {res : Int32 × OS} (σ : OS) (C : Cx X cX6_name RX6 1 D (gty cy) A 3 0 0) (hR : Rt X (some .int) D (gty cy) A 0 0 (eI (wX6 cy q res.2) res.1))  (ok : oX6_name_0  σ) (h : pX6_name_0  σ = res) : At X D A 1 0 0 0 [(0, .ref (q 41))] [] (wX6 cy q σ) := by
  unfold pX6_name_0 at h
  unfold oX6_name_0 at ok
  refine r_aload_n C 0 (dall tdX6_name 0 rfl) rfl ?_
  refine r_bipush (v := 102) C (dall tdX6_name 1 rfl) (by decide) ?_
  refine r_bipush (v := 105) C (dall tdX6_name 2 rfl) (by decide) ?_
  refine r_bipush (v := 114) C (dall tdX6_name 3 rfl) (by decide) ?_
  refine r_bipush (v := 109) C (dall tdX6_name 4 rfl) (by decide) ?_
  refine r_iconst (v := 0) C (dall tdX6_name 5 rfl) (by decide) ?_
  refine r_iconst (v := 0) C (dall tdX6_name 6 rfl) (by decide) ?_
  refine r_iconst (v := 0) C (dall tdX6_name 7 rfl) (by decide) ?_
  refine r_iconst (v := 0) C (dall tdX6_name 8 rfl) (by decide) ?_
  obtain ⟨o1, ok⟩ := ok
  refine r_vI (as := [.int 102, .int 105, .int 114, .int 109, .int 0, .int 0, .int 0, .int 0]) C (zX6_isWord cy q σ 102 105 114 109 0 0 0 0 o1) mv_X6_isWord km_X6_204 (by decide) (by decide) ⟨Nat.le_refl _, Nat.le_refl _⟩ rfl rfl rfl rfl (Nat.le_of_ble_eq_true rfl) (dall tdX6_name 9 rfl) ?_
  refine r_if_eq (tgt := 24) C (dall tdX6_name 10 rfl) (by decide) (fun c2 => ?_) (fun c2 => ?_)
  · have h := (if_pos c2).symm.trans h
    have ok := ok.1 c2
    refine r_aload_n C 0 (dall tdX6_name 14 rfl) rfl ?_
    refine r_bipush (v := 110) C (dall tdX6_name 15 rfl) (by decide) ?_
    refine r_bipush (v := 117) C (dall tdX6_name 16 rfl) (by decide) ?_
    refine r_bipush (v := 109) C (dall tdX6_name 17 rfl) (by decide) ?_
    refine r_bipush (v := 98) C (dall tdX6_name 18 rfl) (by decide) ?_
    refine r_bipush (v := 101) C (dall tdX6_name 19 rfl) (by decide) ?_
    refine r_bipush (v := 114) C (dall tdX6_name 20 rfl) (by decide) ?_
    refine r_iconst (v := 0) C (dall tdX6_name 21 rfl) (by decide) ?_
    refine r_iconst (v := 0) C (dall tdX6_name 22 rfl) (by decide) ?_
    obtain ⟨o3, ok⟩ := ok
    refine r_vI (as := [.int 110, .int 117, .int 109, .int 98, .int 101, .int 114, .int 0, .int 0]) C (zX6_isWord cy q σ 110 117 109 98 101 114 0 0 o3) mv_X6_isWord km_X6_204 (by decide) (by decide) ⟨Nat.le_refl _, Nat.le_refl _⟩ rfl rfl rfl rfl (Nat.le_of_ble_eq_true rfl) (dall tdX6_name 23 rfl) ?_
    refine r_if_eq (tgt := 50) C (dall tdX6_name 24 rfl) (by decide) (fun c4 => ?_) (fun c4 => ?_)
    · have h := (if_pos c4).symm.trans h
      have ok := ok.1 c4
      refine r_aload_n C 0 (dall tdX6_name 28 rfl) rfl ?_
      refine r_bipush (v := 121) C (dall tdX6_name 29 rfl) (by decide) ?_
      refine r_bipush (v := 101) C (dall tdX6_name 30 rfl) (by decide) ?_
      refine r_bipush (v := 97) C (dall tdX6_name 31 rfl) (by decide) ?_
      refine r_bipush (v := 114) C (dall tdX6_name 32 rfl) (by decide) ?_
      refine r_iconst (v := 0) C (dall tdX6_name 33 rfl) (by decide) ?_
      refine r_iconst (v := 0) C (dall tdX6_name 34 rfl) (by decide) ?_
      refine r_iconst (v := 0) C (dall tdX6_name 35 rfl) (by decide) ?_
      refine r_iconst (v := 0) C (dall tdX6_name 36 rfl) (by decide) ?_
      obtain ⟨o5, ok⟩ := ok
      refine r_vI (as := [.int 121, .int 101, .int 97, .int 114, .int 0, .int 0, .int 0, .int 0]) C (zX6_isWord cy q σ 121 101 97 114 0 0 0 0 o5) mv_X6_isWord km_X6_204 (by decide) (by decide) ⟨Nat.le_refl _, Nat.le_refl _⟩ rfl rfl rfl rfl (Nat.le_of_ble_eq_true rfl) (dall tdX6_name 37 rfl) ?_
      refine r_if_eq (tgt := 74) C (dall tdX6_name 38 rfl) (by decide) (fun c6 => ?_) (fun c6 => ?_)
      · have h := (if_pos c6).symm.trans h
        have ok := ok.1 c6
        refine r_aload_n C 0 (dall tdX6_name 42 rfl) rfl ?_
        refine r_bipush (v := 112) C (dall tdX6_name 43 rfl) (by decide) ?_
        refine r_bipush (v := 97) C (dall tdX6_name 44 rfl) (by decide) ?_
        refine r_bipush (v := 114) C (dall tdX6_name 45 rfl) (by decide) ?_
        refine r_bipush (v := 116) C (dall tdX6_name 46 rfl) (by decide) ?_
        refine r_bipush (v := 115) C (dall tdX6_name 47 rfl) (by decide) ?_
        refine r_iconst (v := 0) C (dall tdX6_name 48 rfl) (by decide) ?_
        refine r_iconst (v := 0) C (dall tdX6_name 49 rfl) (by decide) ?_
        refine r_iconst (v := 0) C (dall tdX6_name 50 rfl) (by decide) ?_
        obtain ⟨o7, ok⟩ := ok
        refine r_vI (as := [.int 112, .int 97, .int 114, .int 116, .int 115, .int 0, .int 0, .int 0]) C (zX6_isWord cy q σ 112 97 114 116 115 0 0 0 o7) mv_X6_isWord km_X6_204 (by decide) (by decide) ⟨Nat.le_refl _, Nat.le_refl _⟩ rfl rfl rfl rfl (Nat.le_of_ble_eq_true rfl) (dall tdX6_name 51 rfl) ?_
        refine r_if_eq (tgt := 99) C (dall tdX6_name 52 rfl) (by decide) (fun c8 => ?_) (fun c8 => ?_)
        · have h := (if_pos c8).symm.trans h
          have ok := ok.1 c8
          refine r_aload_n C 0 (dall tdX6_name 56 rfl) rfl ?_
          refine r_bipush (v := 104) C (dall tdX6_name 57 rfl) (by decide) ?_
          refine r_bipush (v := 105) C (dall tdX6_name 58 rfl) (by decide) ?_
          refine r_bipush (v := 103) C (dall tdX6_name 59 rfl) (by decide) ?_
          refine r_bipush (v := 104) C (dall tdX6_name 60 rfl) (by decide) ?_
          refine r_iconst (v := 0) C (dall tdX6_name 61 rfl) (by decide) ?_
          refine r_iconst (v := 0) C (dall tdX6_name 62 rfl) (by decide) ?_
          refine r_iconst (v := 0) C (dall tdX6_name 63 rfl) (by decide) ?_
          refine r_iconst (v := 0) C (dall tdX6_name 64 rfl) (by decide) ?_
          obtain ⟨o9, ok⟩ := ok
          refine r_vI (as := [.int 104, .int 105, .int 103, .int 104, .int 0, .int 0, .int 0, .int 0]) C (zX6_isWord cy q σ 104 105 103 104 0 0 0 0 o9) mv_X6_isWord km_X6_204 (by decide) (by decide) ⟨Nat.le_refl _, Nat.le_refl _⟩ rfl rfl rfl rfl (Nat.le_of_ble_eq_true rfl) (dall tdX6_name 65 rfl) ?_
          refine r_if_eq (tgt := 123) C (dall tdX6_name 66 rfl) (by decide) (fun c10 => ?_) (fun c10 => ?_)
          · have h := (if_pos c10).symm.trans h
            have ok := ok.1 c10
            refine r_aload_n C 0 (dall tdX6_name 70 rfl) rfl ?_
            refine r_bipush (v := 112) C (dall tdX6_name 71 rfl) (by decide) ?_
            refine r_bipush (v := 97) C (dall tdX6_name 72 rfl) (by decide) ?_
            refine r_bipush (v := 105) C (dall tdX6_name 73 rfl) (by decide) ?_
            refine r_bipush (v := 100) C (dall tdX6_name 74 rfl) (by decide) ?_
            refine r_iconst (v := 0) C (dall tdX6_name 75 rfl) (by decide) ?_
            refine r_iconst (v := 0) C (dall tdX6_name 76 rfl) (by decide) ?_
            refine r_iconst (v := 0) C (dall tdX6_name 77 rfl) (by decide) ?_
            refine r_iconst (v := 0) C (dall tdX6_name 78 rfl) (by decide) ?_
            have o11 := ok
            refine r_vI (as := [.int 112, .int 97, .int 105, .int 100, .int 0, .int 0, .int 0, .int 0]) C (zX6_isWord cy q σ 112 97 105 100 0 0 0 0 o11) mv_X6_isWord km_X6_204 (by decide) (by decide) ⟨Nat.le_refl _, Nat.le_refl _⟩ rfl rfl rfl rfl (Nat.le_of_ble_eq_true rfl) (dall tdX6_name 79 rfl) ?_
            refine r_if_eq (tgt := 147) C (dall tdX6_name 80 rfl) (by decide) (fun c12 => ?_) (fun c12 => ?_)
            · have h := (if_pos c12).symm.trans h
              refine r_aload_n C 0 (dall tdX6_name 84 rfl) rfl ?_
              refine r_vV (as := []) C (zX6_fail cy q σ  ) mv_X6_fail km_X6_198 (by decide) (by decide) ⟨Nat.le_refl _, Nat.le_refl _⟩ rfl rfl rfl rfl (Nat.le_of_ble_eq_true rfl) (dall tdX6_name 85 rfl) ?_
              refine r_pick [] rfl ?_
              exact wX6_name_151 (fX6_fail σ) C hR  h
            · have h := (if_neg c12).symm.trans h
              refine r_aload_n C 0 (dall tdX6_name 81 rfl) rfl ?_
              refine r_get C 0 kw_X6 rfl rfl (by decide) kf_X6_223 rfl rfl (dall tdX6_name 82 rfl) ?_
              exact r_iret C hR (dall tdX6_name 83 rfl) (by subst h; exact ⟨rfl, rfl⟩)
          · have h := (if_neg c10).symm.trans h
            have ok := ok.2 c10
            refine r_aload_n C 0 (dall tdX6_name 67 rfl) rfl ?_
            refine r_get C 0 kw_X6 rfl rfl (by decide) kf_X6_220 rfl rfl (dall tdX6_name 68 rfl) ?_
            exact r_iret C hR (dall tdX6_name 69 rfl) (by subst h; exact ⟨rfl, rfl⟩)
        · have h := (if_neg c8).symm.trans h
          have ok := ok.2 c8
          refine r_aload_n C 0 (dall tdX6_name 53 rfl) rfl ?_
          refine r_get C 0 kw_X6 rfl rfl (by decide) kf_X6_217 rfl rfl (dall tdX6_name 54 rfl) ?_
          exact r_iret C hR (dall tdX6_name 55 rfl) (by subst h; exact ⟨rfl, rfl⟩)
      · have h := (if_neg c6).symm.trans h
        have ok := ok.2 c6
        refine r_aload_n C 0 (dall tdX6_name 39 rfl) rfl ?_
        refine r_get C 0 kw_X6 rfl rfl (by decide) kf_X6_214 rfl rfl (dall tdX6_name 40 rfl) ?_
        exact r_iret C hR (dall tdX6_name 41 rfl) (by subst h; exact ⟨rfl, rfl⟩)
    · have h := (if_neg c4).symm.trans h
      have ok := ok.2 c4
      refine r_aload_n C 0 (dall tdX6_name 25 rfl) rfl ?_
      refine r_get C 0 kw_X6 rfl rfl (by decide) kf_X6_211 rfl rfl (dall tdX6_name 26 rfl) ?_
      exact r_iret C hR (dall tdX6_name 27 rfl) (by subst h; exact ⟨rfl, rfl⟩)
  · have h := (if_neg c2).symm.trans h
    have ok := ok.2 c2
    refine r_aload_n C 0 (dall tdX6_name 11 rfl) rfl ?_
    refine r_get C 0 kw_X6 rfl rfl (by decide) kf_X6_208 rfl rfl (dall tdX6_name 12 rfl) ?_
    exact r_iret C hR (dall tdX6_name 13 rfl) (by subst h; exact ⟨rfl, rfl⟩)
def fX6_name (σ : OS) : Int32 × OS := pX6_name_0  σ
def gX6_name (σ : OS) : Prop := oX6_name_0  σ
set_option maxRecDepth 100000 in
theorem zX6_name (cy : Nat → ClassId) (q : Nat → Nat) (σ : OS) (ok : gX6_name σ ) {D : va_G} : Con yX6_name cX6_name 1 (some .int) 3 0 0 D (gty cy) [.ref (q 41)] (wX6 cy q σ) (eI (wX6 cy q (fX6_name σ ).2) (fX6_name σ ).1) :=
  Con.of (own := RX6) (by decide +kernel) rfl (Nat.le_of_ble_eq_true rfl) (Nat.zero_le _) (fun X A C hR _ => (wX6_name_0 σ C hR  ok rfl))
theorem mv_X6_name : MV yX6_name cX6_name 1 (some .int) RX6 0 := ⟨ki_X6_name, kv_X6_name, kn_X6, kc_X6_name, by decide +kernel⟩
def tbX6_atom5 : List (Nat × Instr × Nat) := [(0, .iconst 0, 1), (1, .istore_n 1, 1), (2, .aload_n 0, 1), (3, .bipush 45, 2), (5, .invokevirtual 226, 3), (8, .ifCond .eq 11, 3), (11, .aload_n 0, 1), (12, .invokevirtual 229, 3), (15, .pop, 1), (16, .goto 86, 3), (19, .aload_n 0, 1), (20, .bipush 40, 2), (22, .invokevirtual 226, 3), (25, .ifCond .eq 11, 3), (28, .aload_n 0, 1), (29, .invokevirtual 229, 3), (32, .pop, 1), (33, .goto 69, 3), (36, .aload_n 0, 1), (37, .getfield 184, 3), (40, .ifCond .ne 24, 3), (43, .aload_n 0, 1), (44, .getfield 168, 3), (47, .iconst 2, 1), (48, .if_icmp .ne 16, 3), (51, .aload_n 0, 1), (52, .getfield 179, 3), (55, .l2i, 1), (56, .istore_n 1, 1), (57, .aload_n 0, 1), (58, .invokevirtual 201, 3), (61, .goto 41, 3), (64, .aload_n 0, 1), (65, .getfield 184, 3), (68, .ifCond .ne 30, 3), (71, .aload_n 0, 1), (72, .getfield 168, 3), (75, .iconst 1, 1), (76, .if_icmp .ne 22, 3), (79, .aload_n 0, 1), (80, .invokevirtual 233, 3), (83, .istore_n 1, 1), (84, .aload_n 0, 1), (85, .getfield 184, 3), (88, .ifCond .ne 14, 3), (91, .aload_n 0, 1), (92, .invokevirtual 201, 3), (95, .goto 7, 3), (98, .aload_n 0, 1), (99, .invokevirtual 198, 3), (102, .iload_n 1, 1), (103, .ireturn, 1)]
theorem tdX6_atom5 : tbX6_atom5.all (fun q => decide (decode cX6_atom5 q.1 = .ok q.2)) = true := by decide +kernel
def pX6_atom5_102  (σ : OS) (a1_ : Int32) : Int32 × OS := (a1_, σ)
set_option maxHeartbeats 4000000 in
set_option maxRecDepth 100000 in
theorem wX6_atom5_102 {X : CX} {cy : Nat → ClassId} {q : Nat → Nat} {D : va_G} {A : Nat → Prop} {res : Int32 × OS} (σ : OS) (a1_ : Int32) (C : Cx X cX6_atom5 RX6 2 D (gty cy) A 4 0 0) (hR : Rt X (some .int) D (gty cy) A 0 0 (eI (wX6 cy q res.2) res.1))  (h : pX6_atom5_102  σ a1_ = res) : At X D A 2 0 0 102 [(1, .int a1_)] [] (wX6 cy q σ) := by
  unfold pX6_atom5_102 at h
  refine r_iload_n C 0 (dall tdX6_atom5 50 rfl) rfl ?_
  exact r_iret C hR (dall tdX6_atom5 51 rfl) (by subst h; exact ⟨rfl, rfl⟩)
def pX6_atom5_98  (σ : OS) (a1_ : Int32) : Int32 × OS := pX6_atom5_102  (fX6_fail σ) a1_
set_option maxHeartbeats 4000000 in
set_option maxRecDepth 100000 in
theorem wX6_atom5_98 {X : CX} {cy : Nat → ClassId} {q : Nat → Nat} {D : va_G} {A : Nat → Prop} {res : Int32 × OS} (σ : OS) (a1_ : Int32) (C : Cx X cX6_atom5 RX6 2 D (gty cy) A 4 0 0) (hR : Rt X (some .int) D (gty cy) A 0 0 (eI (wX6 cy q res.2) res.1))  (h : pX6_atom5_98  σ a1_ = res) : At X D A 2 0 0 98 [(0, .ref (q 41)), (1, .int a1_)] [] (wX6 cy q σ) := by
  unfold pX6_atom5_98 at h
  refine r_aload_n C 0 (dall tdX6_atom5 48 rfl) rfl ?_
  refine r_vV (as := []) C (zX6_fail cy q σ  ) mv_X6_fail km_X6_198 (by decide) (by decide) ⟨Nat.le_refl _, Nat.le_refl _⟩ rfl rfl rfl rfl (Nat.le_of_ble_eq_true rfl) (dall tdX6_atom5 49 rfl) ?_
  refine r_pick [1] rfl ?_
  exact wX6_atom5_102 (fX6_fail σ) a1_ C hR  h
def pX6_atom5_95  (σ : OS) (a1_ : Int32) : Int32 × OS := pX6_atom5_102  σ a1_
set_option maxHeartbeats 4000000 in
set_option maxRecDepth 100000 in
theorem wX6_atom5_95 {X : CX} {cy : Nat → ClassId} {q : Nat → Nat} {D : va_G} {A : Nat → Prop} {res : Int32 × OS} (σ : OS) (a1_ : Int32) (C : Cx X cX6_atom5 RX6 2 D (gty cy) A 4 0 0) (hR : Rt X (some .int) D (gty cy) A 0 0 (eI (wX6 cy q res.2) res.1))  (h : pX6_atom5_95  σ a1_ = res) : At X D A 2 0 0 95 [(1, .int a1_)] [] (wX6 cy q σ) := by
  unfold pX6_atom5_95 at h
  refine r_goto (tgt := 102) C (dall tdX6_atom5 47 rfl) (by decide) ?_
  exact wX6_atom5_102 σ a1_ C hR  h
def pX6_atom5_83  (σ : OS) (b0_ : Int32) : Int32 × OS := if (σ.1 26) = 0 then pX6_atom5_95  (fX6_next σ) b0_ else pX6_atom5_102  σ b0_
def oX6_atom5_83  (σ : OS) (b0_ : Int32) : Prop := ((σ.1 26) = 0 → gX6_next σ ) ∧ (¬ ((σ.1 26) = 0) → True)
set_option maxHeartbeats 4000000 in
set_option maxRecDepth 100000 in
theorem wX6_atom5_83 {X : CX} {cy : Nat → ClassId} {q : Nat → Nat} {D : va_G} {A : Nat → Prop} {res : Int32 × OS} (σ : OS) (b0_ : Int32) (C : Cx X cX6_atom5 RX6 2 D (gty cy) A 4 0 0) (hR : Rt X (some .int) D (gty cy) A 0 0 (eI (wX6 cy q res.2) res.1))  (ok : oX6_atom5_83  σ b0_) (h : pX6_atom5_83  σ b0_ = res) : At X D A 2 0 0 83 [(0, .ref (q 41))] [.int b0_] (wX6 cy q σ) := by
  unfold pX6_atom5_83 at h
  unfold oX6_atom5_83 at ok
  refine r_istore_n (lv' := [(1, .int b0_), (0, .ref (q 41))]) C (dall tdX6_atom5 41 rfl) (by decide) rfl ?_
  refine r_aload_n C 1 (dall tdX6_atom5 42 rfl) rfl ?_
  refine r_get C 0 kw_X6 rfl rfl (by decide) kf_X6_184 rfl rfl (dall tdX6_atom5 43 rfl) ?_
  refine r_if_ne (tgt := 102) C (dall tdX6_atom5 44 rfl) (by decide) (fun c1 => ?_) (fun c1 => ?_)
  · have h := (if_neg c1).symm.trans h
    have ok := ok.2 c1
    refine r_pick [0] rfl ?_
    exact wX6_atom5_102 σ b0_ C hR  h
  · have h := (if_pos c1).symm.trans h
    have ok := ok.1 c1
    refine r_aload_n C 1 (dall tdX6_atom5 45 rfl) rfl ?_
    have o2 := ok
    refine r_vV (as := []) C (zX6_next cy q σ  o2) mv_X6_next km_X6_201 (by decide) (by decide) ⟨Nat.le_refl _, Nat.le_refl _⟩ rfl rfl rfl rfl (Nat.le_of_ble_eq_true rfl) (dall tdX6_atom5 46 rfl) ?_
    refine r_pick [0] rfl ?_
    exact wX6_atom5_95 (fX6_next σ) b0_ C hR  h
def pX6_atom5_64  (σ : OS) (a1_ : Int32) : Int32 × OS := if (σ.1 26) = 0 then if (σ.1 22) = 1 then pX6_atom5_83  ((fX6_name σ ).2) ((fX6_name σ ).1) else pX6_atom5_98  σ a1_ else pX6_atom5_98  σ a1_
def oX6_atom5_64  (σ : OS) (a1_ : Int32) : Prop := ((σ.1 26) = 0 → ((σ.1 22) = 1 → (gX6_name σ ) ∧ (oX6_atom5_83  ((fX6_name σ ).2) ((fX6_name σ ).1))) ∧ (¬ ((σ.1 22) = 1) → True)) ∧ (¬ ((σ.1 26) = 0) → True)
set_option maxHeartbeats 4000000 in
set_option maxRecDepth 100000 in
theorem wX6_atom5_64 {X : CX} {cy : Nat → ClassId} {q : Nat → Nat} {D : va_G} {A : Nat → Prop} {res : Int32 × OS} (σ : OS) (a1_ : Int32) (C : Cx X cX6_atom5 RX6 2 D (gty cy) A 4 0 0) (hR : Rt X (some .int) D (gty cy) A 0 0 (eI (wX6 cy q res.2) res.1))  (ok : oX6_atom5_64  σ a1_) (h : pX6_atom5_64  σ a1_ = res) : At X D A 2 0 0 64 [(0, .ref (q 41)), (1, .int a1_)] [] (wX6 cy q σ) := by
  unfold pX6_atom5_64 at h
  unfold oX6_atom5_64 at ok
  refine r_aload_n C 0 (dall tdX6_atom5 32 rfl) rfl ?_
  refine r_get C 0 kw_X6 rfl rfl (by decide) kf_X6_184 rfl rfl (dall tdX6_atom5 33 rfl) ?_
  refine r_if_ne (tgt := 98) C (dall tdX6_atom5 34 rfl) (by decide) (fun c3 => ?_) (fun c3 => ?_)
  · have h := (if_neg c3).symm.trans h
    have ok := ok.2 c3
    exact wX6_atom5_98 σ a1_ C hR  h
  · have h := (if_pos c3).symm.trans h
    have ok := ok.1 c3
    refine r_aload_n C 0 (dall tdX6_atom5 35 rfl) rfl ?_
    refine r_get C 0 kw_X6 rfl rfl (by decide) kf_X6_168 rfl rfl (dall tdX6_atom5 36 rfl) ?_
    refine r_iconst (v := 1) C (dall tdX6_atom5 37 rfl) (by decide) ?_
    refine r_icmp_ne (tgt := 98) C (dall tdX6_atom5 38 rfl) (by decide) (fun c4 => ?_) (fun c4 => ?_)
    · have h := (if_neg c4).symm.trans h
      have ok := ok.2 c4
      exact wX6_atom5_98 σ a1_ C hR  h
    · have h := (if_pos c4).symm.trans h
      have ok := ok.1 c4
      refine r_aload_n C 0 (dall tdX6_atom5 39 rfl) rfl ?_
      obtain ⟨o5, ok⟩ := ok
      refine r_vI (as := []) C (zX6_name cy q σ  o5) mv_X6_name km_X6_233 (by decide) (by decide) ⟨Nat.le_refl _, Nat.le_refl _⟩ rfl rfl rfl rfl (Nat.le_of_ble_eq_true rfl) (dall tdX6_atom5 40 rfl) ?_
      refine r_pick [0] rfl ?_
      exact wX6_atom5_83 ((fX6_name σ ).2) ((fX6_name σ ).1) C hR  ok h
def pX6_atom5_61  (σ : OS) (a1_ : Int32) : Int32 × OS := pX6_atom5_102  σ a1_
set_option maxHeartbeats 4000000 in
set_option maxRecDepth 100000 in
theorem wX6_atom5_61 {X : CX} {cy : Nat → ClassId} {q : Nat → Nat} {D : va_G} {A : Nat → Prop} {res : Int32 × OS} (σ : OS) (a1_ : Int32) (C : Cx X cX6_atom5 RX6 2 D (gty cy) A 4 0 0) (hR : Rt X (some .int) D (gty cy) A 0 0 (eI (wX6 cy q res.2) res.1))  (h : pX6_atom5_61  σ a1_ = res) : At X D A 2 0 0 61 [(1, .int a1_)] [] (wX6 cy q σ) := by
  unfold pX6_atom5_61 at h
  refine r_goto (tgt := 102) C (dall tdX6_atom5 31 rfl) (by decide) ?_
  exact wX6_atom5_102 σ a1_ C hR  h
def pX6_atom5_32  (σ : OS) (a1_ : Int32) (b0_ : Int32) : Int32 × OS := pX6_atom5_102  σ a1_
set_option maxHeartbeats 4000000 in
set_option maxRecDepth 100000 in
theorem wX6_atom5_32 {X : CX} {cy : Nat → ClassId} {q : Nat → Nat} {D : va_G} {A : Nat → Prop} {res : Int32 × OS} (σ : OS) (a1_ : Int32) (b0_ : Int32) (C : Cx X cX6_atom5 RX6 2 D (gty cy) A 4 0 0) (hR : Rt X (some .int) D (gty cy) A 0 0 (eI (wX6 cy q res.2) res.1))  (h : pX6_atom5_32  σ a1_ b0_ = res) : At X D A 2 0 0 32 [(1, .int a1_)] [.int b0_] (wX6 cy q σ) := by
  unfold pX6_atom5_32 at h
  refine r_pop C (dall tdX6_atom5 16 rfl) rfl ?_
  refine r_goto (tgt := 102) C (dall tdX6_atom5 17 rfl) (by decide) ?_
  exact wX6_atom5_102 σ a1_ C hR  h
def pX6_atom5_15  (σ : OS) (a1_ : Int32) (b0_ : Int32) : Int32 × OS := pX6_atom5_102  σ a1_
set_option maxHeartbeats 4000000 in
set_option maxRecDepth 100000 in
theorem wX6_atom5_15 {X : CX} {cy : Nat → ClassId} {q : Nat → Nat} {D : va_G} {A : Nat → Prop} {res : Int32 × OS} (σ : OS) (a1_ : Int32) (b0_ : Int32) (C : Cx X cX6_atom5 RX6 2 D (gty cy) A 4 0 0) (hR : Rt X (some .int) D (gty cy) A 0 0 (eI (wX6 cy q res.2) res.1))  (h : pX6_atom5_15  σ a1_ b0_ = res) : At X D A 2 0 0 15 [(1, .int a1_)] [.int b0_] (wX6 cy q σ) := by
  unfold pX6_atom5_15 at h
  refine r_pop C (dall tdX6_atom5 8 rfl) rfl ?_
  refine r_goto (tgt := 102) C (dall tdX6_atom5 9 rfl) (by decide) ?_
  exact wX6_atom5_102 σ a1_ C hR  h
def pX6_atom5_0  (σ : OS) : Int32 × OS := if (fX6_isSign σ 45) = 0 then if (fX6_isSign σ 40) = 0 then if (σ.1 26) = 0 then if (σ.1 22) = 2 then pX6_atom5_61  (fX6_next σ) ((σ.2.1 24).toInt32) else pX6_atom5_64  σ 0 else pX6_atom5_64  σ 0 else pX6_atom5_32  ((fX6_opens σ ).2) 0 ((fX6_opens σ ).1) else pX6_atom5_15  ((fX6_opens σ ).2) 0 ((fX6_opens σ ).1)
def oX6_atom5_0  (σ : OS) : Prop := ((fX6_isSign σ 45) = 0 → ((fX6_isSign σ 40) = 0 → ((σ.1 26) = 0 → ((σ.1 22) = 2 → gX6_next σ ) ∧ (¬ ((σ.1 22) = 2) → oX6_atom5_64  σ 0)) ∧ (¬ ((σ.1 26) = 0) → oX6_atom5_64  σ 0)) ∧ (¬ ((fX6_isSign σ 40) = 0) → gX6_opens σ )) ∧ (¬ ((fX6_isSign σ 45) = 0) → gX6_opens σ )
set_option maxHeartbeats 4000000 in
set_option maxRecDepth 100000 in
theorem wX6_atom5_0 {X : CX} {cy : Nat → ClassId} {q : Nat → Nat} {D : va_G} {A : Nat → Prop} {res : Int32 × OS} (σ : OS) (C : Cx X cX6_atom5 RX6 2 D (gty cy) A 4 0 0) (hR : Rt X (some .int) D (gty cy) A 0 0 (eI (wX6 cy q res.2) res.1))  (ok : oX6_atom5_0  σ) (h : pX6_atom5_0  σ = res) : At X D A 2 0 0 0 [(0, .ref (q 41))] [] (wX6 cy q σ) := by
  unfold pX6_atom5_0 at h
  unfold oX6_atom5_0 at ok
  refine r_iconst (v := 0) C (dall tdX6_atom5 0 rfl) (by decide) ?_
  refine r_istore_n (lv' := [(1, .int 0), (0, .ref (q 41))]) C (dall tdX6_atom5 1 rfl) (by decide) rfl ?_
  refine r_aload_n C 1 (dall tdX6_atom5 2 rfl) rfl ?_
  refine r_bipush (v := 45) C (dall tdX6_atom5 3 rfl) (by decide) ?_
  refine r_vI (as := [.int 45]) C (zX6_isSign cy q σ 45 ) mv_X6_isSign km_X6_226 (by decide) (by decide) ⟨Nat.le_refl _, Nat.le_refl _⟩ rfl rfl rfl rfl (Nat.le_of_ble_eq_true rfl) (dall tdX6_atom5 4 rfl) ?_
  refine r_if_eq (tgt := 19) C (dall tdX6_atom5 5 rfl) (by decide) (fun c6 => ?_) (fun c6 => ?_)
  · have h := (if_pos c6).symm.trans h
    have ok := ok.1 c6
    refine r_aload_n C 1 (dall tdX6_atom5 10 rfl) rfl ?_
    refine r_bipush (v := 40) C (dall tdX6_atom5 11 rfl) (by decide) ?_
    refine r_vI (as := [.int 40]) C (zX6_isSign cy q σ 40 ) mv_X6_isSign km_X6_226 (by decide) (by decide) ⟨Nat.le_refl _, Nat.le_refl _⟩ rfl rfl rfl rfl (Nat.le_of_ble_eq_true rfl) (dall tdX6_atom5 12 rfl) ?_
    refine r_if_eq (tgt := 36) C (dall tdX6_atom5 13 rfl) (by decide) (fun c7 => ?_) (fun c7 => ?_)
    · have h := (if_pos c7).symm.trans h
      have ok := ok.1 c7
      refine r_aload_n C 1 (dall tdX6_atom5 18 rfl) rfl ?_
      refine r_get C 0 kw_X6 rfl rfl (by decide) kf_X6_184 rfl rfl (dall tdX6_atom5 19 rfl) ?_
      refine r_if_ne (tgt := 64) C (dall tdX6_atom5 20 rfl) (by decide) (fun c8 => ?_) (fun c8 => ?_)
      · have h := (if_neg c8).symm.trans h
        have ok := ok.2 c8
        refine r_pick [1, 0] rfl ?_
        exact wX6_atom5_64 σ 0 C hR  ok h
      · have h := (if_pos c8).symm.trans h
        have ok := ok.1 c8
        refine r_aload_n C 1 (dall tdX6_atom5 21 rfl) rfl ?_
        refine r_get C 0 kw_X6 rfl rfl (by decide) kf_X6_168 rfl rfl (dall tdX6_atom5 22 rfl) ?_
        refine r_iconst (v := 2) C (dall tdX6_atom5 23 rfl) (by decide) ?_
        refine r_icmp_ne (tgt := 64) C (dall tdX6_atom5 24 rfl) (by decide) (fun c9 => ?_) (fun c9 => ?_)
        · have h := (if_neg c9).symm.trans h
          have ok := ok.2 c9
          refine r_pick [1, 0] rfl ?_
          exact wX6_atom5_64 σ 0 C hR  ok h
        · have h := (if_pos c9).symm.trans h
          have ok := ok.1 c9
          refine r_aload_n C 1 (dall tdX6_atom5 25 rfl) rfl ?_
          refine r_get C 0 kw_X6 rfl rfl (by decide) kf_X6_179 rfl rfl (dall tdX6_atom5 26 rfl) ?_
          refine r_l2i C (dall tdX6_atom5 27 rfl) ?_
          refine r_istore_n (lv' := [(1, .int ((σ.2.1 24).toInt32)), (0, .ref (q 41))]) C (dall tdX6_atom5 28 rfl) (by decide) rfl ?_
          refine r_aload_n C 1 (dall tdX6_atom5 29 rfl) rfl ?_
          have o10 := ok
          refine r_vV (as := []) C (zX6_next cy q σ  o10) mv_X6_next km_X6_201 (by decide) (by decide) ⟨Nat.le_refl _, Nat.le_refl _⟩ rfl rfl rfl rfl (Nat.le_of_ble_eq_true rfl) (dall tdX6_atom5 30 rfl) ?_
          refine r_pick [0] rfl ?_
          exact wX6_atom5_61 (fX6_next σ) ((σ.2.1 24).toInt32) C hR  h
    · have h := (if_neg c7).symm.trans h
      have ok := ok.2 c7
      refine r_aload_n C 1 (dall tdX6_atom5 14 rfl) rfl ?_
      have o11 := ok
      refine r_vI (as := []) C (zX6_opens cy q σ  o11) mv_X6_opens km_X6_229 (by decide) (by decide) ⟨Nat.le_refl _, Nat.le_refl _⟩ rfl rfl rfl rfl (Nat.le_of_ble_eq_true rfl) (dall tdX6_atom5 15 rfl) ?_
      refine r_pick [0] rfl ?_
      exact wX6_atom5_32 ((fX6_opens σ ).2) 0 ((fX6_opens σ ).1) C hR  h
  · have h := (if_neg c6).symm.trans h
    have ok := ok.2 c6
    refine r_aload_n C 1 (dall tdX6_atom5 6 rfl) rfl ?_
    have o12 := ok
    refine r_vI (as := []) C (zX6_opens cy q σ  o12) mv_X6_opens km_X6_229 (by decide) (by decide) ⟨Nat.le_refl _, Nat.le_refl _⟩ rfl rfl rfl rfl (Nat.le_of_ble_eq_true rfl) (dall tdX6_atom5 7 rfl) ?_
    refine r_pick [0] rfl ?_
    exact wX6_atom5_15 ((fX6_opens σ ).2) 0 ((fX6_opens σ ).1) C hR  h
def fX6_atom5 (σ : OS) : Int32 × OS := pX6_atom5_0  σ
def gX6_atom5 (σ : OS) : Prop := oX6_atom5_0  σ
set_option maxRecDepth 100000 in
theorem zX6_atom5 (cy : Nat → ClassId) (q : Nat → Nat) (σ : OS) (ok : gX6_atom5 σ ) {D : va_G} : Con yX6_atom5 cX6_atom5 2 (some .int) 4 0 0 D (gty cy) [.ref (q 41)] (wX6 cy q σ) (eI (wX6 cy q (fX6_atom5 σ ).2) (fX6_atom5 σ ).1) :=
  Con.of (own := RX6) (by decide +kernel) rfl (Nat.le_of_ble_eq_true rfl) (Nat.zero_le _) (fun X A C hR _ => (wX6_atom5_0 σ C hR  ok rfl))
theorem mv_X6_atom5 : MV yX6_atom5 cX6_atom5 2 (some .int) RX6 0 := ⟨ki_X6_atom5, kv_X6_atom5, kn_X6, kc_X6_atom5, by decide +kernel⟩
def tbX6_term5 : List (Nat × Instr × Nat) := [(0, .aload_n 0, 1), (1, .invokevirtual 236, 3), (4, .istore_n 1, 1), (5, .aload_n 0, 1), (6, .bipush 42, 2), (8, .invokevirtual 226, 3), (11, .ifCond .eq 17, 3), (14, .aload_n 0, 1), (15, .invokevirtual 201, 3), (18, .iload_n 1, 1), (19, .aload_n 0, 1), (20, .invokevirtual 236, 3), (23, .imul, 1), (24, .istore_n 1, 1), (25, .goto (-20), 3), (28, .iload_n 1, 1), (29, .ireturn, 1)]
theorem tdX6_term5 : tbX6_term5.all (fun q => decide (decode cX6_term5 q.1 = .ok q.2)) = true := by decide +kernel
def pX6_term5_23 (kR5 : OS × Int32 → Int32 × OS) (σ : OS) (b0_ : Int32) (b1_ : Int32) : Int32 × OS := kR5 (σ, b1_ * b0_)
def oX6_term5_23 (kO5 : OS × Int32 → Prop) (σ : OS) (b0_ : Int32) (b1_ : Int32) : Prop := kO5 (σ, b1_ * b0_)
set_option maxHeartbeats 4000000 in
set_option maxRecDepth 100000 in
theorem wX6_term5_23 {X : CX} {cy : Nat → ClassId} {q : Nat → Nat} {D : va_G} {A : Nat → Prop} {res : Int32 × OS} (σ : OS) (b0_ : Int32) (b1_ : Int32) (C : Cx X cX6_term5 RX6 2 D (gty cy) A 5 0 0) (hR : Rt X (some .int) D (gty cy) A 0 0 (eI (wX6 cy q res.2) res.1)) (kR5 : OS × Int32 → Int32 × OS) (kO5 : OS × Int32 → Prop) (hk5 : ∀ z, kO5 z → kR5 z = res → At X D A 2 0 0 5 [(0, .ref (q 41)), (1, .int z.2)] [] (wX6 cy q z.1)) (ok : oX6_term5_23 kO5 σ b0_ b1_) (h : pX6_term5_23 kR5 σ b0_ b1_ = res) : At X D A 2 0 0 23 [(0, .ref (q 41))] [.int b0_, .int b1_] (wX6 cy q σ) := by
  unfold pX6_term5_23 at h
  unfold oX6_term5_23 at ok
  refine r_imul C (dall tdX6_term5 12 rfl) ?_
  refine r_istore_n (lv' := [(1, .int (b1_ * b0_)), (0, .ref (q 41))]) C (dall tdX6_term5 13 rfl) (by decide) rfl ?_
  refine r_goto (tgt := 5) C (dall tdX6_term5 14 rfl) (by decide) ?_
  refine r_pick [1, 0] rfl ?_
  exact hk5 (σ, b1_ * b0_) ok h
def pX6_term5_18 (kR5 : OS × Int32 → Int32 × OS) (σ : OS) (a1_ : Int32) : Int32 × OS := pX6_term5_23 kR5 ((fX6_atom5 σ ).2) ((fX6_atom5 σ ).1) a1_
def oX6_term5_18 (kO5 : OS × Int32 → Prop) (σ : OS) (a1_ : Int32) : Prop := (gX6_atom5 σ ) ∧ (oX6_term5_23 kO5 ((fX6_atom5 σ ).2) ((fX6_atom5 σ ).1) a1_)
set_option maxHeartbeats 4000000 in
set_option maxRecDepth 100000 in
theorem wX6_term5_18 {X : CX} {cy : Nat → ClassId} {q : Nat → Nat} {D : va_G} {A : Nat → Prop} {res : Int32 × OS} (σ : OS) (a1_ : Int32) (C : Cx X cX6_term5 RX6 2 D (gty cy) A 5 0 0) (hR : Rt X (some .int) D (gty cy) A 0 0 (eI (wX6 cy q res.2) res.1)) (kR5 : OS × Int32 → Int32 × OS) (kO5 : OS × Int32 → Prop) (hk5 : ∀ z, kO5 z → kR5 z = res → At X D A 2 0 0 5 [(0, .ref (q 41)), (1, .int z.2)] [] (wX6 cy q z.1)) (ok : oX6_term5_18 kO5 σ a1_) (h : pX6_term5_18 kR5 σ a1_ = res) : At X D A 2 0 0 18 [(0, .ref (q 41)), (1, .int a1_)] [] (wX6 cy q σ) := by
  unfold pX6_term5_18 at h
  unfold oX6_term5_18 at ok
  refine r_iload_n C 1 (dall tdX6_term5 9 rfl) rfl ?_
  refine r_aload_n C 0 (dall tdX6_term5 10 rfl) rfl ?_
  obtain ⟨o1, ok⟩ := ok
  refine r_vI (as := []) C (zX6_atom5 cy q σ  o1) mv_X6_atom5 km_X6_236 (by decide) (by decide) ⟨Nat.le_refl _, Nat.le_refl _⟩ rfl rfl rfl rfl (Nat.le_of_ble_eq_true rfl) (dall tdX6_term5 11 rfl) ?_
  refine r_pick [0] rfl ?_
  exact wX6_term5_23 ((fX6_atom5 σ ).2) ((fX6_atom5 σ ).1) a1_ C hR kR5 kO5 hk5 ok h
def bX6_term5_5   (kR5 : OS × Int32 → Int32 × OS) (v : OS × Int32) : Int32 × OS := if (fX6_isSign v.1 42) = 0 then (v.2, v.1) else pX6_term5_18 kR5 (fX6_next v.1) v.2
def kX6_term5_5   (kO5 : OS × Int32 → Prop) (v : OS × Int32) : Prop := ((fX6_isSign v.1 42) = 0 → True) ∧ (¬ ((fX6_isSign v.1 42) = 0) → (gX6_next v.1 ) ∧ (oX6_term5_18 kO5 (fX6_next v.1) v.2))
set_option maxHeartbeats 4000000 in
set_option maxRecDepth 100000 in
theorem wX6_term5_5 {X : CX} {cy : Nat → ClassId} {q : Nat → Nat} {D : va_G} {A : Nat → Prop} {res : Int32 × OS}  (C : Cx X cX6_term5 RX6 2 D (gty cy) A 5 0 0) (hR : Rt X (some .int) D (gty cy) A 0 0 (eI (wX6 cy q res.2) res.1)) (kR5 : OS × Int32 → Int32 × OS) (kO5 : OS × Int32 → Prop) (hk5 : ∀ z, kO5 z → kR5 z = res → At X D A 2 0 0 5 [(0, .ref (q 41)), (1, .int z.2)] [] (wX6 cy q z.1)) (v : OS × Int32) (ok : kX6_term5_5  kO5 v) (h : bX6_term5_5  kR5 v = res) : At X D A 2 0 0 5 [(0, .ref (q 41)), (1, .int v.2)] [] (wX6 cy q v.1) := by
  unfold bX6_term5_5 at h
  unfold kX6_term5_5 at ok
  refine r_aload_n C 0 (dall tdX6_term5 3 rfl) rfl ?_
  refine r_bipush (v := 42) C (dall tdX6_term5 4 rfl) (by decide) ?_
  refine r_vI (as := [.int 42]) C (zX6_isSign cy q v.1 42 ) mv_X6_isSign km_X6_226 (by decide) (by decide) ⟨Nat.le_refl _, Nat.le_refl _⟩ rfl rfl rfl rfl (Nat.le_of_ble_eq_true rfl) (dall tdX6_term5 5 rfl) ?_
  refine r_if_eq (tgt := 28) C (dall tdX6_term5 6 rfl) (by decide) (fun c2 => ?_) (fun c2 => ?_)
  · have h := (if_pos c2).symm.trans h
    have ok := ok.1 c2
    refine r_iload_n C 1 (dall tdX6_term5 15 rfl) rfl ?_
    exact r_iret C hR (dall tdX6_term5 16 rfl) (by subst h; exact ⟨rfl, rfl⟩)
  · have h := (if_neg c2).symm.trans h
    have ok := ok.2 c2
    refine r_aload_n C 0 (dall tdX6_term5 7 rfl) rfl ?_
    obtain ⟨o3, ok⟩ := ok
    refine r_vV (as := []) C (zX6_next cy q v.1  o3) mv_X6_next km_X6_201 (by decide) (by decide) ⟨Nat.le_refl _, Nat.le_refl _⟩ rfl rfl rfl rfl (Nat.le_of_ble_eq_true rfl) (dall tdX6_term5 8 rfl) ?_
    exact wX6_term5_18 (fX6_next v.1) v.2 C hR kR5 kO5 hk5 ok h
set_option maxHeartbeats 4000000 in
set_option maxRecDepth 100000 in
theorem lX6_term5_5 {X : CX} {cy : Nat → ClassId} {q : Nat → Nat} {D : va_G} {A : Nat → Prop} {res : Int32 × OS}  (C : Cx X cX6_term5 RX6 2 D (gty cy) A 5 0 0) (hR : Rt X (some .int) D (gty cy) A 0 0 (eI (wX6 cy q res.2) res.1))  (n : Nat) (v : OS × Int32) (ok : lpOk (kX6_term5_5  ) n v) (h : lp (0, o0) (bX6_term5_5  ) n v = res) : At X D A 2 0 0 5 [(0, .ref (q 41)), (1, .int v.2)] [] (wX6 cy q v.1) :=
  lp_rule (fun v r => r = res → At X D A 2 0 0 5 [(0, .ref (q 41)), (1, .int v.2)] [] (wX6 cy q v.1)) (fun kR kO hk v ok h => wX6_term5_5  C hR  kR kO hk v ok h) n v ok h
def pX6_term5_4  (σ : OS) (b0_ : Int32) : Int32 × OS := lp (0, o0) (bX6_term5_5  ) fu (σ, b0_)
def oX6_term5_4  (σ : OS) (b0_ : Int32) : Prop := lpOk (kX6_term5_5  ) fu (σ, b0_)
set_option maxHeartbeats 4000000 in
set_option maxRecDepth 100000 in
theorem wX6_term5_4 {X : CX} {cy : Nat → ClassId} {q : Nat → Nat} {D : va_G} {A : Nat → Prop} {res : Int32 × OS} (σ : OS) (b0_ : Int32) (C : Cx X cX6_term5 RX6 2 D (gty cy) A 5 0 0) (hR : Rt X (some .int) D (gty cy) A 0 0 (eI (wX6 cy q res.2) res.1))  (ok : oX6_term5_4  σ b0_) (h : pX6_term5_4  σ b0_ = res) : At X D A 2 0 0 4 [(0, .ref (q 41))] [.int b0_] (wX6 cy q σ) := by
  unfold pX6_term5_4 at h
  unfold oX6_term5_4 at ok
  refine r_istore_n (lv' := [(1, .int b0_), (0, .ref (q 41))]) C (dall tdX6_term5 2 rfl) (by decide) rfl ?_
  refine r_pick [1, 0] rfl ?_
  exact lX6_term5_5  C hR  fu _ ok h
def pX6_term5_0  (σ : OS) : Int32 × OS := pX6_term5_4  ((fX6_atom5 σ ).2) ((fX6_atom5 σ ).1)
def oX6_term5_0  (σ : OS) : Prop := (gX6_atom5 σ ) ∧ (oX6_term5_4  ((fX6_atom5 σ ).2) ((fX6_atom5 σ ).1))
set_option maxHeartbeats 4000000 in
set_option maxRecDepth 100000 in
theorem wX6_term5_0 {X : CX} {cy : Nat → ClassId} {q : Nat → Nat} {D : va_G} {A : Nat → Prop} {res : Int32 × OS} (σ : OS) (C : Cx X cX6_term5 RX6 2 D (gty cy) A 5 0 0) (hR : Rt X (some .int) D (gty cy) A 0 0 (eI (wX6 cy q res.2) res.1))  (ok : oX6_term5_0  σ) (h : pX6_term5_0  σ = res) : At X D A 2 0 0 0 [(0, .ref (q 41))] [] (wX6 cy q σ) := by
  unfold pX6_term5_0 at h
  unfold oX6_term5_0 at ok
  refine r_aload_n C 0 (dall tdX6_term5 0 rfl) rfl ?_
  obtain ⟨o4, ok⟩ := ok
  refine r_vI (as := []) C (zX6_atom5 cy q σ  o4) mv_X6_atom5 km_X6_236 (by decide) (by decide) ⟨Nat.le_refl _, Nat.le_refl _⟩ rfl rfl rfl rfl (Nat.le_of_ble_eq_true rfl) (dall tdX6_term5 1 rfl) ?_
  exact wX6_term5_4 ((fX6_atom5 σ ).2) ((fX6_atom5 σ ).1) C hR  ok h
def fX6_term5 (σ : OS) : Int32 × OS := pX6_term5_0  σ
def gX6_term5 (σ : OS) : Prop := oX6_term5_0  σ
set_option maxRecDepth 100000 in
theorem zX6_term5 (cy : Nat → ClassId) (q : Nat → Nat) (σ : OS) (ok : gX6_term5 σ ) {D : va_G} : Con yX6_term5 cX6_term5 2 (some .int) 5 0 0 D (gty cy) [.ref (q 41)] (wX6 cy q σ) (eI (wX6 cy q (fX6_term5 σ ).2) (fX6_term5 σ ).1) :=
  Con.of (own := RX6) (by decide +kernel) rfl (Nat.le_of_ble_eq_true rfl) (Nat.zero_le _) (fun X A C hR _ => (wX6_term5_0 σ C hR  ok rfl))
theorem mv_X6_term5 : MV yX6_term5 cX6_term5 2 (some .int) RX6 0 := ⟨ki_X6_term5, kv_X6_term5, kn_X6, kc_X6_term5, by decide +kernel⟩
def tbX6_added5 : List (Nat × Instr × Nat) := [(0, .aload_n 0, 1), (1, .invokevirtual 239, 3), (4, .istore_n 1, 1), (5, .aload_n 0, 1), (6, .bipush 43, 2), (8, .invokevirtual 226, 3), (11, .ifCond .ne 12, 3), (14, .aload_n 0, 1), (15, .bipush 45, 2), (17, .invokevirtual 226, 3), (20, .ifCond .eq 46, 3), (23, .aload_n 0, 1), (24, .getfield 179, 3), (27, .ldc2_w 242, 3), (30, .lcmp, 1), (31, .ifCond .ne 7, 3), (34, .iconst 1, 1), (35, .goto 4, 3), (38, .iconst 0, 1), (39, .istore_n 2, 1), (40, .aload_n 0, 1), (41, .invokevirtual 201, 3), (44, .aload_n 0, 1), (45, .invokevirtual 239, 3), (48, .istore_n 3, 1), (49, .iload_n 2, 1), (50, .ifCond .eq 9, 3), (53, .iload_n 1, 1), (54, .iload_n 3, 1), (55, .iadd, 1), (56, .goto 6, 3), (59, .iload_n 1, 1), (60, .iload_n 3, 1), (61, .isub, 1), (62, .istore_n 1, 1), (63, .goto (-58), 3), (66, .iload_n 1, 1), (67, .ireturn, 1)]
theorem tdX6_added5 : tbX6_added5.all (fun q => decide (decode cX6_added5 q.1 = .ok q.2)) = true := by decide +kernel
def pX6_added5_62 (kR5 : OS × Int32 → Int32 × OS) (σ : OS) (b0_ : Int32) : Int32 × OS := kR5 (σ, b0_)
def oX6_added5_62 (kO5 : OS × Int32 → Prop) (σ : OS) (b0_ : Int32) : Prop := kO5 (σ, b0_)
set_option maxHeartbeats 4000000 in
set_option maxRecDepth 100000 in
theorem wX6_added5_62 {X : CX} {cy : Nat → ClassId} {q : Nat → Nat} {D : va_G} {A : Nat → Prop} {res : Int32 × OS} (σ : OS) (b0_ : Int32) (C : Cx X cX6_added5 RX6 4 D (gty cy) A 6 0 0) (hR : Rt X (some .int) D (gty cy) A 0 0 (eI (wX6 cy q res.2) res.1)) (kR5 : OS × Int32 → Int32 × OS) (kO5 : OS × Int32 → Prop) (hk5 : ∀ z, kO5 z → kR5 z = res → At X D A 4 0 0 5 [(0, .ref (q 41)), (1, .int z.2)] [] (wX6 cy q z.1)) (ok : oX6_added5_62 kO5 σ b0_) (h : pX6_added5_62 kR5 σ b0_ = res) : At X D A 4 0 0 62 [(0, .ref (q 41))] [.int b0_] (wX6 cy q σ) := by
  unfold pX6_added5_62 at h
  unfold oX6_added5_62 at ok
  refine r_istore_n (lv' := [(1, .int b0_), (0, .ref (q 41))]) C (dall tdX6_added5 34 rfl) (by decide) rfl ?_
  refine r_goto (tgt := 5) C (dall tdX6_added5 35 rfl) (by decide) ?_
  refine r_pick [1, 0] rfl ?_
  exact hk5 (σ, b0_) ok h
def pX6_added5_48 (kR5 : OS × Int32 → Int32 × OS) (σ : OS) (a1_ : Int32) (a2_ : Int32) (b0_ : Int32) : Int32 × OS := if a2_ = 0 then pX6_added5_62 kR5 σ (a1_ - b0_) else pX6_added5_62 kR5 σ (a1_ + b0_)
def oX6_added5_48 (kO5 : OS × Int32 → Prop) (σ : OS) (a1_ : Int32) (a2_ : Int32) (b0_ : Int32) : Prop := (a2_ = 0 → oX6_added5_62 kO5 σ (a1_ - b0_)) ∧ (¬ (a2_ = 0) → oX6_added5_62 kO5 σ (a1_ + b0_))
set_option maxHeartbeats 4000000 in
set_option maxRecDepth 100000 in
theorem wX6_added5_48 {X : CX} {cy : Nat → ClassId} {q : Nat → Nat} {D : va_G} {A : Nat → Prop} {res : Int32 × OS} (σ : OS) (a1_ : Int32) (a2_ : Int32) (b0_ : Int32) (C : Cx X cX6_added5 RX6 4 D (gty cy) A 6 0 0) (hR : Rt X (some .int) D (gty cy) A 0 0 (eI (wX6 cy q res.2) res.1)) (kR5 : OS × Int32 → Int32 × OS) (kO5 : OS × Int32 → Prop) (hk5 : ∀ z, kO5 z → kR5 z = res → At X D A 4 0 0 5 [(0, .ref (q 41)), (1, .int z.2)] [] (wX6 cy q z.1)) (ok : oX6_added5_48 kO5 σ a1_ a2_ b0_) (h : pX6_added5_48 kR5 σ a1_ a2_ b0_ = res) : At X D A 4 0 0 48 [(0, .ref (q 41)), (1, .int a1_), (2, .int a2_)] [.int b0_] (wX6 cy q σ) := by
  unfold pX6_added5_48 at h
  unfold oX6_added5_48 at ok
  refine r_istore_n (lv' := [(3, .int b0_), (0, .ref (q 41)), (1, .int a1_), (2, .int a2_)]) C (dall tdX6_added5 24 rfl) (by decide) rfl ?_
  refine r_iload_n C 3 (dall tdX6_added5 25 rfl) rfl ?_
  refine r_if_eq (tgt := 59) C (dall tdX6_added5 26 rfl) (by decide) (fun c1 => ?_) (fun c1 => ?_)
  · have h := (if_pos c1).symm.trans h
    have ok := ok.1 c1
    refine r_iload_n C 2 (dall tdX6_added5 31 rfl) rfl ?_
    refine r_iload_n C 0 (dall tdX6_added5 32 rfl) rfl ?_
    refine r_isub C (dall tdX6_added5 33 rfl) ?_
    refine r_pick [1] rfl ?_
    exact wX6_added5_62 σ (a1_ - b0_) C hR kR5 kO5 hk5 ok h
  · have h := (if_neg c1).symm.trans h
    have ok := ok.2 c1
    refine r_iload_n C 2 (dall tdX6_added5 27 rfl) rfl ?_
    refine r_iload_n C 0 (dall tdX6_added5 28 rfl) rfl ?_
    refine r_iadd C (dall tdX6_added5 29 rfl) ?_
    refine r_goto (tgt := 62) C (dall tdX6_added5 30 rfl) (by decide) ?_
    refine r_pick [1] rfl ?_
    exact wX6_added5_62 σ (a1_ + b0_) C hR kR5 kO5 hk5 ok h
def pX6_added5_44 (kR5 : OS × Int32 → Int32 × OS) (σ : OS) (a1_ : Int32) (a2_ : Int32) : Int32 × OS := pX6_added5_48 kR5 ((fX6_term5 σ ).2) a1_ a2_ ((fX6_term5 σ ).1)
def oX6_added5_44 (kO5 : OS × Int32 → Prop) (σ : OS) (a1_ : Int32) (a2_ : Int32) : Prop := (gX6_term5 σ ) ∧ (oX6_added5_48 kO5 ((fX6_term5 σ ).2) a1_ a2_ ((fX6_term5 σ ).1))
set_option maxHeartbeats 4000000 in
set_option maxRecDepth 100000 in
theorem wX6_added5_44 {X : CX} {cy : Nat → ClassId} {q : Nat → Nat} {D : va_G} {A : Nat → Prop} {res : Int32 × OS} (σ : OS) (a1_ : Int32) (a2_ : Int32) (C : Cx X cX6_added5 RX6 4 D (gty cy) A 6 0 0) (hR : Rt X (some .int) D (gty cy) A 0 0 (eI (wX6 cy q res.2) res.1)) (kR5 : OS × Int32 → Int32 × OS) (kO5 : OS × Int32 → Prop) (hk5 : ∀ z, kO5 z → kR5 z = res → At X D A 4 0 0 5 [(0, .ref (q 41)), (1, .int z.2)] [] (wX6 cy q z.1)) (ok : oX6_added5_44 kO5 σ a1_ a2_) (h : pX6_added5_44 kR5 σ a1_ a2_ = res) : At X D A 4 0 0 44 [(0, .ref (q 41)), (1, .int a1_), (2, .int a2_)] [] (wX6 cy q σ) := by
  unfold pX6_added5_44 at h
  unfold oX6_added5_44 at ok
  refine r_aload_n C 0 (dall tdX6_added5 22 rfl) rfl ?_
  obtain ⟨o2, ok⟩ := ok
  refine r_vI (as := []) C (zX6_term5 cy q σ  o2) mv_X6_term5 km_X6_239 (by decide) (by decide) ⟨Nat.le_refl _, Nat.le_refl _⟩ rfl rfl rfl rfl (Nat.le_of_ble_eq_true rfl) (dall tdX6_added5 23 rfl) ?_
  exact wX6_added5_48 ((fX6_term5 σ ).2) a1_ a2_ ((fX6_term5 σ ).1) C hR kR5 kO5 hk5 ok h
def pX6_added5_39 (kR5 : OS × Int32 → Int32 × OS) (σ : OS) (a1_ : Int32) (b0_ : Int32) : Int32 × OS := pX6_added5_44 kR5 (fX6_next σ) a1_ b0_
def oX6_added5_39 (kO5 : OS × Int32 → Prop) (σ : OS) (a1_ : Int32) (b0_ : Int32) : Prop := (gX6_next σ ) ∧ (oX6_added5_44 kO5 (fX6_next σ) a1_ b0_)
set_option maxHeartbeats 4000000 in
set_option maxRecDepth 100000 in
theorem wX6_added5_39 {X : CX} {cy : Nat → ClassId} {q : Nat → Nat} {D : va_G} {A : Nat → Prop} {res : Int32 × OS} (σ : OS) (a1_ : Int32) (b0_ : Int32) (C : Cx X cX6_added5 RX6 4 D (gty cy) A 6 0 0) (hR : Rt X (some .int) D (gty cy) A 0 0 (eI (wX6 cy q res.2) res.1)) (kR5 : OS × Int32 → Int32 × OS) (kO5 : OS × Int32 → Prop) (hk5 : ∀ z, kO5 z → kR5 z = res → At X D A 4 0 0 5 [(0, .ref (q 41)), (1, .int z.2)] [] (wX6 cy q z.1)) (ok : oX6_added5_39 kO5 σ a1_ b0_) (h : pX6_added5_39 kR5 σ a1_ b0_ = res) : At X D A 4 0 0 39 [(0, .ref (q 41)), (1, .int a1_)] [.int b0_] (wX6 cy q σ) := by
  unfold pX6_added5_39 at h
  unfold oX6_added5_39 at ok
  refine r_istore_n (lv' := [(2, .int b0_), (0, .ref (q 41)), (1, .int a1_)]) C (dall tdX6_added5 19 rfl) (by decide) rfl ?_
  refine r_aload_n C 1 (dall tdX6_added5 20 rfl) rfl ?_
  obtain ⟨o3, ok⟩ := ok
  refine r_vV (as := []) C (zX6_next cy q σ  o3) mv_X6_next km_X6_201 (by decide) (by decide) ⟨Nat.le_refl _, Nat.le_refl _⟩ rfl rfl rfl rfl (Nat.le_of_ble_eq_true rfl) (dall tdX6_added5 21 rfl) ?_
  refine r_pick [1, 2, 0] rfl ?_
  exact wX6_added5_44 (fX6_next σ) a1_ b0_ C hR kR5 kO5 hk5 ok h
def pX6_added5_23 (kR5 : OS × Int32 → Int32 × OS) (σ : OS) (a1_ : Int32) : Int32 × OS := if (σ.2.1 24) = (43) then pX6_added5_39 kR5 σ a1_ 1 else pX6_added5_39 kR5 σ a1_ 0
def oX6_added5_23 (kO5 : OS × Int32 → Prop) (σ : OS) (a1_ : Int32) : Prop := ((σ.2.1 24) = (43) → oX6_added5_39 kO5 σ a1_ 1) ∧ (¬ ((σ.2.1 24) = (43)) → oX6_added5_39 kO5 σ a1_ 0)
set_option maxHeartbeats 4000000 in
set_option maxRecDepth 100000 in
theorem wX6_added5_23 {X : CX} {cy : Nat → ClassId} {q : Nat → Nat} {D : va_G} {A : Nat → Prop} {res : Int32 × OS} (σ : OS) (a1_ : Int32) (C : Cx X cX6_added5 RX6 4 D (gty cy) A 6 0 0) (hR : Rt X (some .int) D (gty cy) A 0 0 (eI (wX6 cy q res.2) res.1)) (kR5 : OS × Int32 → Int32 × OS) (kO5 : OS × Int32 → Prop) (hk5 : ∀ z, kO5 z → kR5 z = res → At X D A 4 0 0 5 [(0, .ref (q 41)), (1, .int z.2)] [] (wX6 cy q z.1)) (ok : oX6_added5_23 kO5 σ a1_) (h : pX6_added5_23 kR5 σ a1_ = res) : At X D A 4 0 0 23 [(0, .ref (q 41)), (1, .int a1_)] [] (wX6 cy q σ) := by
  unfold pX6_added5_23 at h
  unfold oX6_added5_23 at ok
  refine r_aload_n C 0 (dall tdX6_added5 11 rfl) rfl ?_
  refine r_get C 0 kw_X6 rfl rfl (by decide) kf_X6_179 rfl rfl (dall tdX6_added5 12 rfl) ?_
  refine r_ldc2 C kk_X6_242 (dall tdX6_added5 13 rfl) ?_
  refine r_lif_ne (tgt := 38) C (dall tdX6_added5 14 rfl) (dall tdX6_added5 15 rfl) (by decide) (fun c4 => ?_) (fun c4 => ?_)
  · have h := (if_neg c4).symm.trans h
    have ok := ok.2 c4
    refine r_iconst (v := 0) C (dall tdX6_added5 18 rfl) (by decide) ?_
    exact wX6_added5_39 σ a1_ 0 C hR kR5 kO5 hk5 ok h
  · have h := (if_pos c4).symm.trans h
    have ok := ok.1 c4
    refine r_iconst (v := 1) C (dall tdX6_added5 16 rfl) (by decide) ?_
    refine r_goto (tgt := 39) C (dall tdX6_added5 17 rfl) (by decide) ?_
    exact wX6_added5_39 σ a1_ 1 C hR kR5 kO5 hk5 ok h
def bX6_added5_5   (kR5 : OS × Int32 → Int32 × OS) (v : OS × Int32) : Int32 × OS := if (fX6_isSign v.1 43) = 0 then if (fX6_isSign v.1 45) = 0 then (v.2, v.1) else pX6_added5_23 kR5 v.1 v.2 else pX6_added5_23 kR5 v.1 v.2
def kX6_added5_5   (kO5 : OS × Int32 → Prop) (v : OS × Int32) : Prop := ((fX6_isSign v.1 43) = 0 → ((fX6_isSign v.1 45) = 0 → True) ∧ (¬ ((fX6_isSign v.1 45) = 0) → oX6_added5_23 kO5 v.1 v.2)) ∧ (¬ ((fX6_isSign v.1 43) = 0) → oX6_added5_23 kO5 v.1 v.2)
set_option maxHeartbeats 4000000 in
set_option maxRecDepth 100000 in
theorem wX6_added5_5 {X : CX} {cy : Nat → ClassId} {q : Nat → Nat} {D : va_G} {A : Nat → Prop} {res : Int32 × OS}  (C : Cx X cX6_added5 RX6 4 D (gty cy) A 6 0 0) (hR : Rt X (some .int) D (gty cy) A 0 0 (eI (wX6 cy q res.2) res.1)) (kR5 : OS × Int32 → Int32 × OS) (kO5 : OS × Int32 → Prop) (hk5 : ∀ z, kO5 z → kR5 z = res → At X D A 4 0 0 5 [(0, .ref (q 41)), (1, .int z.2)] [] (wX6 cy q z.1)) (v : OS × Int32) (ok : kX6_added5_5  kO5 v) (h : bX6_added5_5  kR5 v = res) : At X D A 4 0 0 5 [(0, .ref (q 41)), (1, .int v.2)] [] (wX6 cy q v.1) := by
  unfold bX6_added5_5 at h
  unfold kX6_added5_5 at ok
  refine r_aload_n C 0 (dall tdX6_added5 3 rfl) rfl ?_
  refine r_bipush (v := 43) C (dall tdX6_added5 4 rfl) (by decide) ?_
  refine r_vI (as := [.int 43]) C (zX6_isSign cy q v.1 43 ) mv_X6_isSign km_X6_226 (by decide) (by decide) ⟨Nat.le_refl _, Nat.le_refl _⟩ rfl rfl rfl rfl (Nat.le_of_ble_eq_true rfl) (dall tdX6_added5 5 rfl) ?_
  refine r_if_ne (tgt := 23) C (dall tdX6_added5 6 rfl) (by decide) (fun c5 => ?_) (fun c5 => ?_)
  · have h := (if_neg c5).symm.trans h
    have ok := ok.2 c5
    exact wX6_added5_23 v.1 v.2 C hR kR5 kO5 hk5 ok h
  · have h := (if_pos c5).symm.trans h
    have ok := ok.1 c5
    refine r_aload_n C 0 (dall tdX6_added5 7 rfl) rfl ?_
    refine r_bipush (v := 45) C (dall tdX6_added5 8 rfl) (by decide) ?_
    refine r_vI (as := [.int 45]) C (zX6_isSign cy q v.1 45 ) mv_X6_isSign km_X6_226 (by decide) (by decide) ⟨Nat.le_refl _, Nat.le_refl _⟩ rfl rfl rfl rfl (Nat.le_of_ble_eq_true rfl) (dall tdX6_added5 9 rfl) ?_
    refine r_if_eq (tgt := 66) C (dall tdX6_added5 10 rfl) (by decide) (fun c6 => ?_) (fun c6 => ?_)
    · have h := (if_pos c6).symm.trans h
      have ok := ok.1 c6
      refine r_iload_n C 1 (dall tdX6_added5 36 rfl) rfl ?_
      exact r_iret C hR (dall tdX6_added5 37 rfl) (by subst h; exact ⟨rfl, rfl⟩)
    · have h := (if_neg c6).symm.trans h
      have ok := ok.2 c6
      exact wX6_added5_23 v.1 v.2 C hR kR5 kO5 hk5 ok h
set_option maxHeartbeats 4000000 in
set_option maxRecDepth 100000 in
theorem lX6_added5_5 {X : CX} {cy : Nat → ClassId} {q : Nat → Nat} {D : va_G} {A : Nat → Prop} {res : Int32 × OS}  (C : Cx X cX6_added5 RX6 4 D (gty cy) A 6 0 0) (hR : Rt X (some .int) D (gty cy) A 0 0 (eI (wX6 cy q res.2) res.1))  (n : Nat) (v : OS × Int32) (ok : lpOk (kX6_added5_5  ) n v) (h : lp (0, o0) (bX6_added5_5  ) n v = res) : At X D A 4 0 0 5 [(0, .ref (q 41)), (1, .int v.2)] [] (wX6 cy q v.1) :=
  lp_rule (fun v r => r = res → At X D A 4 0 0 5 [(0, .ref (q 41)), (1, .int v.2)] [] (wX6 cy q v.1)) (fun kR kO hk v ok h => wX6_added5_5  C hR  kR kO hk v ok h) n v ok h
def pX6_added5_4  (σ : OS) (b0_ : Int32) : Int32 × OS := lp (0, o0) (bX6_added5_5  ) fu (σ, b0_)
def oX6_added5_4  (σ : OS) (b0_ : Int32) : Prop := lpOk (kX6_added5_5  ) fu (σ, b0_)
set_option maxHeartbeats 4000000 in
set_option maxRecDepth 100000 in
theorem wX6_added5_4 {X : CX} {cy : Nat → ClassId} {q : Nat → Nat} {D : va_G} {A : Nat → Prop} {res : Int32 × OS} (σ : OS) (b0_ : Int32) (C : Cx X cX6_added5 RX6 4 D (gty cy) A 6 0 0) (hR : Rt X (some .int) D (gty cy) A 0 0 (eI (wX6 cy q res.2) res.1))  (ok : oX6_added5_4  σ b0_) (h : pX6_added5_4  σ b0_ = res) : At X D A 4 0 0 4 [(0, .ref (q 41))] [.int b0_] (wX6 cy q σ) := by
  unfold pX6_added5_4 at h
  unfold oX6_added5_4 at ok
  refine r_istore_n (lv' := [(1, .int b0_), (0, .ref (q 41))]) C (dall tdX6_added5 2 rfl) (by decide) rfl ?_
  refine r_pick [1, 0] rfl ?_
  exact lX6_added5_5  C hR  fu _ ok h
def pX6_added5_0  (σ : OS) : Int32 × OS := pX6_added5_4  ((fX6_term5 σ ).2) ((fX6_term5 σ ).1)
def oX6_added5_0  (σ : OS) : Prop := (gX6_term5 σ ) ∧ (oX6_added5_4  ((fX6_term5 σ ).2) ((fX6_term5 σ ).1))
set_option maxHeartbeats 4000000 in
set_option maxRecDepth 100000 in
theorem wX6_added5_0 {X : CX} {cy : Nat → ClassId} {q : Nat → Nat} {D : va_G} {A : Nat → Prop} {res : Int32 × OS} (σ : OS) (C : Cx X cX6_added5 RX6 4 D (gty cy) A 6 0 0) (hR : Rt X (some .int) D (gty cy) A 0 0 (eI (wX6 cy q res.2) res.1))  (ok : oX6_added5_0  σ) (h : pX6_added5_0  σ = res) : At X D A 4 0 0 0 [(0, .ref (q 41))] [] (wX6 cy q σ) := by
  unfold pX6_added5_0 at h
  unfold oX6_added5_0 at ok
  refine r_aload_n C 0 (dall tdX6_added5 0 rfl) rfl ?_
  obtain ⟨o7, ok⟩ := ok
  refine r_vI (as := []) C (zX6_term5 cy q σ  o7) mv_X6_term5 km_X6_239 (by decide) (by decide) ⟨Nat.le_refl _, Nat.le_refl _⟩ rfl rfl rfl rfl (Nat.le_of_ble_eq_true rfl) (dall tdX6_added5 1 rfl) ?_
  exact wX6_added5_4 ((fX6_term5 σ ).2) ((fX6_term5 σ ).1) C hR  ok h
def fX6_added5 (σ : OS) : Int32 × OS := pX6_added5_0  σ
def gX6_added5 (σ : OS) : Prop := oX6_added5_0  σ
set_option maxRecDepth 100000 in
theorem zX6_added5 (cy : Nat → ClassId) (q : Nat → Nat) (σ : OS) (ok : gX6_added5 σ ) {D : va_G} : Con yX6_added5 cX6_added5 4 (some .int) 6 0 0 D (gty cy) [.ref (q 41)] (wX6 cy q σ) (eI (wX6 cy q (fX6_added5 σ ).2) (fX6_added5 σ ).1) :=
  Con.of (own := RX6) (by decide +kernel) rfl (Nat.le_of_ble_eq_true rfl) (Nat.zero_le _) (fun X A C hR _ => (wX6_added5_0 σ C hR  ok rfl))
theorem mv_X6_added5 : MV yX6_added5 cX6_added5 4 (some .int) RX6 0 := ⟨ki_X6_added5, kv_X6_added5, kn_X6, kc_X6_added5, by decide +kernel⟩
def tbX6_not5 : List (Nat × Instr × Nat) := [(0, .aload_n 0, 1), (1, .bipush 110, 2), (3, .bipush 111, 2), (5, .bipush 116, 2), (7, .iconst 0, 1), (8, .iconst 0, 1), (9, .iconst 0, 1), (10, .iconst 0, 1), (11, .iconst 0, 1), (12, .invokevirtual 204, 3), (15, .ifCond .eq 10, 3), (18, .aload_n 0, 1), (19, .invokevirtual 229, 3), (22, .pop, 1), (23, .iconst 0, 1), (24, .ireturn, 1), (25, .aload_n 0, 1), (26, .invokevirtual 244, 3), (29, .istore_n 1, 1), (30, .aload_n 0, 1), (31, .bipush 60, 2), (33, .invokevirtual 226, 3), (36, .ifCond .ne 14, 3), (39, .aload_n 0, 1), (40, .bipush 61, 2), (42, .invokevirtual 226, 3), (45, .ifCond .ne 5, 3), (48, .iload_n 1, 1), (49, .ireturn, 1), (50, .aload_n 0, 1), (51, .getfield 179, 3), (54, .ldc2_w 247, 3), (57, .lcmp, 1), (58, .ifCond .ne 7, 3), (61, .iconst 1, 1), (62, .goto 4, 3), (65, .iconst 0, 1), (66, .istore_n 2, 1), (67, .aload_n 0, 1), (68, .invokevirtual 201, 3), (71, .aload_n 0, 1), (72, .invokevirtual 244, 3), (75, .istore_n 3, 1), (76, .iload_n 2, 1), (77, .ifCond .eq 11, 3), (80, .iload_n 1, 1), (81, .iload_n 3, 1), (82, .if_icmp .ge 15, 3), (85, .goto 8, 3), (88, .iload_n 1, 1), (89, .iload_n 3, 1), (90, .if_icmp .ne 7, 3), (93, .iconst 1, 1), (94, .goto 4, 3), (97, .iconst 0, 1), (98, .ireturn, 1)]
theorem tdX6_not5 : tbX6_not5.all (fun q => decide (decode cX6_not5 q.1 = .ok q.2)) = true := by decide +kernel
def pX6_not5_93  (σ : OS) : Int32 × OS := (1, σ)
set_option maxHeartbeats 4000000 in
set_option maxRecDepth 100000 in
theorem wX6_not5_93 {X : CX} {cy : Nat → ClassId} {q : Nat → Nat} {D : va_G} {A : Nat → Prop} {res : Int32 × OS} (σ : OS) (C : Cx X cX6_not5 RX6 4 D (gty cy) A 7 0 0) (hR : Rt X (some .int) D (gty cy) A 0 0 (eI (wX6 cy q res.2) res.1))  (h : pX6_not5_93  σ = res) : At X D A 4 0 0 93 [] [] (wX6 cy q σ) := by
  unfold pX6_not5_93 at h
  refine r_iconst (v := 1) C (dall tdX6_not5 52 rfl) (by decide) ?_
  refine r_goto (tgt := 98) C (dall tdX6_not5 53 rfl) (by decide) ?_
  exact r_iret C hR (dall tdX6_not5 55 rfl) (by subst h; exact ⟨rfl, rfl⟩)
def pX6_not5_75  (σ : OS) (a1_ : Int32) (a2_ : Int32) (b0_ : Int32) : Int32 × OS := if a2_ = 0 then if a1_ = b0_ then pX6_not5_93  σ else (0, σ) else if b0_ ≤ a1_ then (0, σ) else pX6_not5_93  σ
set_option maxHeartbeats 4000000 in
set_option maxRecDepth 100000 in
theorem wX6_not5_75 {X : CX} {cy : Nat → ClassId} {q : Nat → Nat} {D : va_G} {A : Nat → Prop} {res : Int32 × OS} (σ : OS) (a1_ : Int32) (a2_ : Int32) (b0_ : Int32) (C : Cx X cX6_not5 RX6 4 D (gty cy) A 7 0 0) (hR : Rt X (some .int) D (gty cy) A 0 0 (eI (wX6 cy q res.2) res.1))  (h : pX6_not5_75  σ a1_ a2_ b0_ = res) : At X D A 4 0 0 75 [(1, .int a1_), (2, .int a2_)] [.int b0_] (wX6 cy q σ) := by
  unfold pX6_not5_75 at h
  refine r_istore_n (lv' := [(3, .int b0_), (1, .int a1_), (2, .int a2_)]) C (dall tdX6_not5 42 rfl) (by decide) rfl ?_
  refine r_iload_n C 2 (dall tdX6_not5 43 rfl) rfl ?_
  refine r_if_eq (tgt := 88) C (dall tdX6_not5 44 rfl) (by decide) (fun c1 => ?_) (fun c1 => ?_)
  · have h := (if_pos c1).symm.trans h
    refine r_iload_n C 1 (dall tdX6_not5 49 rfl) rfl ?_
    refine r_iload_n C 0 (dall tdX6_not5 50 rfl) rfl ?_
    refine r_icmp_ne (tgt := 97) C (dall tdX6_not5 51 rfl) (by decide) (fun c2 => ?_) (fun c2 => ?_)
    · have h := (if_neg c2).symm.trans h
      refine r_iconst (v := 0) C (dall tdX6_not5 54 rfl) (by decide) ?_
      exact r_iret C hR (dall tdX6_not5 55 rfl) (by subst h; exact ⟨rfl, rfl⟩)
    · have h := (if_pos c2).symm.trans h
      refine r_pick [] rfl ?_
      exact wX6_not5_93 σ C hR  h
  · have h := (if_neg c1).symm.trans h
    refine r_iload_n C 1 (dall tdX6_not5 45 rfl) rfl ?_
    refine r_iload_n C 0 (dall tdX6_not5 46 rfl) rfl ?_
    refine r_icmp_ge (tgt := 97) C (dall tdX6_not5 47 rfl) (by decide) (fun c3 => ?_) (fun c3 => ?_)
    · have h := (if_pos c3).symm.trans h
      refine r_iconst (v := 0) C (dall tdX6_not5 54 rfl) (by decide) ?_
      exact r_iret C hR (dall tdX6_not5 55 rfl) (by subst h; exact ⟨rfl, rfl⟩)
    · have h := (if_neg c3).symm.trans h
      refine r_goto (tgt := 93) C (dall tdX6_not5 48 rfl) (by decide) ?_
      refine r_pick [] rfl ?_
      exact wX6_not5_93 σ C hR  h
def pX6_not5_71  (σ : OS) (a1_ : Int32) (a2_ : Int32) : Int32 × OS := pX6_not5_75  ((fX6_added5 σ ).2) a1_ a2_ ((fX6_added5 σ ).1)
def oX6_not5_71  (σ : OS) (a1_ : Int32) (a2_ : Int32) : Prop := gX6_added5 σ 
set_option maxHeartbeats 4000000 in
set_option maxRecDepth 100000 in
theorem wX6_not5_71 {X : CX} {cy : Nat → ClassId} {q : Nat → Nat} {D : va_G} {A : Nat → Prop} {res : Int32 × OS} (σ : OS) (a1_ : Int32) (a2_ : Int32) (C : Cx X cX6_not5 RX6 4 D (gty cy) A 7 0 0) (hR : Rt X (some .int) D (gty cy) A 0 0 (eI (wX6 cy q res.2) res.1))  (ok : oX6_not5_71  σ a1_ a2_) (h : pX6_not5_71  σ a1_ a2_ = res) : At X D A 4 0 0 71 [(0, .ref (q 41)), (1, .int a1_), (2, .int a2_)] [] (wX6 cy q σ) := by
  unfold pX6_not5_71 at h
  unfold oX6_not5_71 at ok
  refine r_aload_n C 0 (dall tdX6_not5 40 rfl) rfl ?_
  have o4 := ok
  refine r_vI (as := []) C (zX6_added5 cy q σ  o4) mv_X6_added5 km_X6_244 (by decide) (by decide) ⟨Nat.le_refl _, Nat.le_refl _⟩ rfl rfl rfl rfl (Nat.le_of_ble_eq_true rfl) (dall tdX6_not5 41 rfl) ?_
  refine r_pick [1, 2] rfl ?_
  exact wX6_not5_75 ((fX6_added5 σ ).2) a1_ a2_ ((fX6_added5 σ ).1) C hR  h
def pX6_not5_66  (σ : OS) (a1_ : Int32) (b0_ : Int32) : Int32 × OS := pX6_not5_71  (fX6_next σ) a1_ b0_
def oX6_not5_66  (σ : OS) (a1_ : Int32) (b0_ : Int32) : Prop := (gX6_next σ ) ∧ (oX6_not5_71  (fX6_next σ) a1_ b0_)
set_option maxHeartbeats 4000000 in
set_option maxRecDepth 100000 in
theorem wX6_not5_66 {X : CX} {cy : Nat → ClassId} {q : Nat → Nat} {D : va_G} {A : Nat → Prop} {res : Int32 × OS} (σ : OS) (a1_ : Int32) (b0_ : Int32) (C : Cx X cX6_not5 RX6 4 D (gty cy) A 7 0 0) (hR : Rt X (some .int) D (gty cy) A 0 0 (eI (wX6 cy q res.2) res.1))  (ok : oX6_not5_66  σ a1_ b0_) (h : pX6_not5_66  σ a1_ b0_ = res) : At X D A 4 0 0 66 [(0, .ref (q 41)), (1, .int a1_)] [.int b0_] (wX6 cy q σ) := by
  unfold pX6_not5_66 at h
  unfold oX6_not5_66 at ok
  refine r_istore_n (lv' := [(2, .int b0_), (0, .ref (q 41)), (1, .int a1_)]) C (dall tdX6_not5 37 rfl) (by decide) rfl ?_
  refine r_aload_n C 1 (dall tdX6_not5 38 rfl) rfl ?_
  obtain ⟨o5, ok⟩ := ok
  refine r_vV (as := []) C (zX6_next cy q σ  o5) mv_X6_next km_X6_201 (by decide) (by decide) ⟨Nat.le_refl _, Nat.le_refl _⟩ rfl rfl rfl rfl (Nat.le_of_ble_eq_true rfl) (dall tdX6_not5 39 rfl) ?_
  refine r_pick [1, 2, 0] rfl ?_
  exact wX6_not5_71 (fX6_next σ) a1_ b0_ C hR  ok h
def pX6_not5_50  (σ : OS) (a1_ : Int32) : Int32 × OS := if (σ.2.1 24) = (60) then pX6_not5_66  σ a1_ 1 else pX6_not5_66  σ a1_ 0
def oX6_not5_50  (σ : OS) (a1_ : Int32) : Prop := ((σ.2.1 24) = (60) → oX6_not5_66  σ a1_ 1) ∧ (¬ ((σ.2.1 24) = (60)) → oX6_not5_66  σ a1_ 0)
set_option maxHeartbeats 4000000 in
set_option maxRecDepth 100000 in
theorem wX6_not5_50 {X : CX} {cy : Nat → ClassId} {q : Nat → Nat} {D : va_G} {A : Nat → Prop} {res : Int32 × OS} (σ : OS) (a1_ : Int32) (C : Cx X cX6_not5 RX6 4 D (gty cy) A 7 0 0) (hR : Rt X (some .int) D (gty cy) A 0 0 (eI (wX6 cy q res.2) res.1))  (ok : oX6_not5_50  σ a1_) (h : pX6_not5_50  σ a1_ = res) : At X D A 4 0 0 50 [(0, .ref (q 41)), (1, .int a1_)] [] (wX6 cy q σ) := by
  unfold pX6_not5_50 at h
  unfold oX6_not5_50 at ok
  refine r_aload_n C 0 (dall tdX6_not5 29 rfl) rfl ?_
  refine r_get C 0 kw_X6 rfl rfl (by decide) kf_X6_179 rfl rfl (dall tdX6_not5 30 rfl) ?_
  refine r_ldc2 C kk_X6_247 (dall tdX6_not5 31 rfl) ?_
  refine r_lif_ne (tgt := 65) C (dall tdX6_not5 32 rfl) (dall tdX6_not5 33 rfl) (by decide) (fun c6 => ?_) (fun c6 => ?_)
  · have h := (if_neg c6).symm.trans h
    have ok := ok.2 c6
    refine r_iconst (v := 0) C (dall tdX6_not5 36 rfl) (by decide) ?_
    exact wX6_not5_66 σ a1_ 0 C hR  ok h
  · have h := (if_pos c6).symm.trans h
    have ok := ok.1 c6
    refine r_iconst (v := 1) C (dall tdX6_not5 34 rfl) (by decide) ?_
    refine r_goto (tgt := 66) C (dall tdX6_not5 35 rfl) (by decide) ?_
    exact wX6_not5_66 σ a1_ 1 C hR  ok h
def pX6_not5_29  (σ : OS) (b0_ : Int32) : Int32 × OS := if (fX6_isSign σ 60) = 0 then if (fX6_isSign σ 61) = 0 then (b0_, σ) else pX6_not5_50  σ b0_ else pX6_not5_50  σ b0_
def oX6_not5_29  (σ : OS) (b0_ : Int32) : Prop := ((fX6_isSign σ 60) = 0 → ((fX6_isSign σ 61) = 0 → True) ∧ (¬ ((fX6_isSign σ 61) = 0) → oX6_not5_50  σ b0_)) ∧ (¬ ((fX6_isSign σ 60) = 0) → oX6_not5_50  σ b0_)
set_option maxHeartbeats 4000000 in
set_option maxRecDepth 100000 in
theorem wX6_not5_29 {X : CX} {cy : Nat → ClassId} {q : Nat → Nat} {D : va_G} {A : Nat → Prop} {res : Int32 × OS} (σ : OS) (b0_ : Int32) (C : Cx X cX6_not5 RX6 4 D (gty cy) A 7 0 0) (hR : Rt X (some .int) D (gty cy) A 0 0 (eI (wX6 cy q res.2) res.1))  (ok : oX6_not5_29  σ b0_) (h : pX6_not5_29  σ b0_ = res) : At X D A 4 0 0 29 [(0, .ref (q 41))] [.int b0_] (wX6 cy q σ) := by
  unfold pX6_not5_29 at h
  unfold oX6_not5_29 at ok
  refine r_istore_n (lv' := [(1, .int b0_), (0, .ref (q 41))]) C (dall tdX6_not5 18 rfl) (by decide) rfl ?_
  refine r_aload_n C 1 (dall tdX6_not5 19 rfl) rfl ?_
  refine r_bipush (v := 60) C (dall tdX6_not5 20 rfl) (by decide) ?_
  refine r_vI (as := [.int 60]) C (zX6_isSign cy q σ 60 ) mv_X6_isSign km_X6_226 (by decide) (by decide) ⟨Nat.le_refl _, Nat.le_refl _⟩ rfl rfl rfl rfl (Nat.le_of_ble_eq_true rfl) (dall tdX6_not5 21 rfl) ?_
  refine r_if_ne (tgt := 50) C (dall tdX6_not5 22 rfl) (by decide) (fun c7 => ?_) (fun c7 => ?_)
  · have h := (if_neg c7).symm.trans h
    have ok := ok.2 c7
    refine r_pick [1, 0] rfl ?_
    exact wX6_not5_50 σ b0_ C hR  ok h
  · have h := (if_pos c7).symm.trans h
    have ok := ok.1 c7
    refine r_aload_n C 1 (dall tdX6_not5 23 rfl) rfl ?_
    refine r_bipush (v := 61) C (dall tdX6_not5 24 rfl) (by decide) ?_
    refine r_vI (as := [.int 61]) C (zX6_isSign cy q σ 61 ) mv_X6_isSign km_X6_226 (by decide) (by decide) ⟨Nat.le_refl _, Nat.le_refl _⟩ rfl rfl rfl rfl (Nat.le_of_ble_eq_true rfl) (dall tdX6_not5 25 rfl) ?_
    refine r_if_ne (tgt := 50) C (dall tdX6_not5 26 rfl) (by decide) (fun c8 => ?_) (fun c8 => ?_)
    · have h := (if_neg c8).symm.trans h
      have ok := ok.2 c8
      refine r_pick [1, 0] rfl ?_
      exact wX6_not5_50 σ b0_ C hR  ok h
    · have h := (if_pos c8).symm.trans h
      have ok := ok.1 c8
      refine r_iload_n C 0 (dall tdX6_not5 27 rfl) rfl ?_
      exact r_iret C hR (dall tdX6_not5 28 rfl) (by subst h; exact ⟨rfl, rfl⟩)
def pX6_not5_22  (σ : OS) (b0_ : Int32) : Int32 × OS := (0, σ)
set_option maxHeartbeats 4000000 in
set_option maxRecDepth 100000 in
theorem wX6_not5_22 {X : CX} {cy : Nat → ClassId} {q : Nat → Nat} {D : va_G} {A : Nat → Prop} {res : Int32 × OS} (σ : OS) (b0_ : Int32) (C : Cx X cX6_not5 RX6 4 D (gty cy) A 7 0 0) (hR : Rt X (some .int) D (gty cy) A 0 0 (eI (wX6 cy q res.2) res.1))  (h : pX6_not5_22  σ b0_ = res) : At X D A 4 0 0 22 [] [.int b0_] (wX6 cy q σ) := by
  unfold pX6_not5_22 at h
  refine r_pop C (dall tdX6_not5 13 rfl) rfl ?_
  refine r_iconst (v := 0) C (dall tdX6_not5 14 rfl) (by decide) ?_
  exact r_iret C hR (dall tdX6_not5 15 rfl) (by subst h; exact ⟨rfl, rfl⟩)
def pX6_not5_0  (σ : OS) : Int32 × OS := if (fX6_isWord σ 110 111 116 0 0 0 0 0) = 0 then pX6_not5_29  ((fX6_added5 σ ).2) ((fX6_added5 σ ).1) else pX6_not5_22  ((fX6_opens σ ).2) ((fX6_opens σ ).1)
def oX6_not5_0  (σ : OS) : Prop := (gX6_isWord σ 110 111 116 0 0 0 0 0) ∧ (((fX6_isWord σ 110 111 116 0 0 0 0 0) = 0 → (gX6_added5 σ ) ∧ (oX6_not5_29  ((fX6_added5 σ ).2) ((fX6_added5 σ ).1))) ∧ (¬ ((fX6_isWord σ 110 111 116 0 0 0 0 0) = 0) → gX6_opens σ ))
set_option maxHeartbeats 4000000 in
set_option maxRecDepth 100000 in
theorem wX6_not5_0 {X : CX} {cy : Nat → ClassId} {q : Nat → Nat} {D : va_G} {A : Nat → Prop} {res : Int32 × OS} (σ : OS) (C : Cx X cX6_not5 RX6 4 D (gty cy) A 7 0 0) (hR : Rt X (some .int) D (gty cy) A 0 0 (eI (wX6 cy q res.2) res.1))  (ok : oX6_not5_0  σ) (h : pX6_not5_0  σ = res) : At X D A 4 0 0 0 [(0, .ref (q 41))] [] (wX6 cy q σ) := by
  unfold pX6_not5_0 at h
  unfold oX6_not5_0 at ok
  refine r_aload_n C 0 (dall tdX6_not5 0 rfl) rfl ?_
  refine r_bipush (v := 110) C (dall tdX6_not5 1 rfl) (by decide) ?_
  refine r_bipush (v := 111) C (dall tdX6_not5 2 rfl) (by decide) ?_
  refine r_bipush (v := 116) C (dall tdX6_not5 3 rfl) (by decide) ?_
  refine r_iconst (v := 0) C (dall tdX6_not5 4 rfl) (by decide) ?_
  refine r_iconst (v := 0) C (dall tdX6_not5 5 rfl) (by decide) ?_
  refine r_iconst (v := 0) C (dall tdX6_not5 6 rfl) (by decide) ?_
  refine r_iconst (v := 0) C (dall tdX6_not5 7 rfl) (by decide) ?_
  refine r_iconst (v := 0) C (dall tdX6_not5 8 rfl) (by decide) ?_
  obtain ⟨o9, ok⟩ := ok
  refine r_vI (as := [.int 110, .int 111, .int 116, .int 0, .int 0, .int 0, .int 0, .int 0]) C (zX6_isWord cy q σ 110 111 116 0 0 0 0 0 o9) mv_X6_isWord km_X6_204 (by decide) (by decide) ⟨Nat.le_refl _, Nat.le_refl _⟩ rfl rfl rfl rfl (Nat.le_of_ble_eq_true rfl) (dall tdX6_not5 9 rfl) ?_
  refine r_if_eq (tgt := 25) C (dall tdX6_not5 10 rfl) (by decide) (fun c10 => ?_) (fun c10 => ?_)
  · have h := (if_pos c10).symm.trans h
    have ok := ok.1 c10
    refine r_aload_n C 0 (dall tdX6_not5 16 rfl) rfl ?_
    obtain ⟨o11, ok⟩ := ok
    refine r_vI (as := []) C (zX6_added5 cy q σ  o11) mv_X6_added5 km_X6_244 (by decide) (by decide) ⟨Nat.le_refl _, Nat.le_refl _⟩ rfl rfl rfl rfl (Nat.le_of_ble_eq_true rfl) (dall tdX6_not5 17 rfl) ?_
    exact wX6_not5_29 ((fX6_added5 σ ).2) ((fX6_added5 σ ).1) C hR  ok h
  · have h := (if_neg c10).symm.trans h
    have ok := ok.2 c10
    refine r_aload_n C 0 (dall tdX6_not5 11 rfl) rfl ?_
    have o12 := ok
    refine r_vI (as := []) C (zX6_opens cy q σ  o12) mv_X6_opens km_X6_229 (by decide) (by decide) ⟨Nat.le_refl _, Nat.le_refl _⟩ rfl rfl rfl rfl (Nat.le_of_ble_eq_true rfl) (dall tdX6_not5 12 rfl) ?_
    refine r_pick [] rfl ?_
    exact wX6_not5_22 ((fX6_opens σ ).2) ((fX6_opens σ ).1) C hR  h
def fX6_not5 (σ : OS) : Int32 × OS := pX6_not5_0  σ
def gX6_not5 (σ : OS) : Prop := oX6_not5_0  σ
set_option maxRecDepth 100000 in
theorem zX6_not5 (cy : Nat → ClassId) (q : Nat → Nat) (σ : OS) (ok : gX6_not5 σ ) {D : va_G} : Con yX6_not5 cX6_not5 4 (some .int) 7 0 0 D (gty cy) [.ref (q 41)] (wX6 cy q σ) (eI (wX6 cy q (fX6_not5 σ ).2) (fX6_not5 σ ).1) :=
  Con.of (own := RX6) (by decide +kernel) rfl (Nat.le_of_ble_eq_true rfl) (Nat.zero_le _) (fun X A C hR _ => (wX6_not5_0 σ C hR  ok rfl))
theorem mv_X6_not5 : MV yX6_not5 cX6_not5 4 (some .int) RX6 0 := ⟨ki_X6_not5, kv_X6_not5, kn_X6, kc_X6_not5, by decide +kernel⟩
end
