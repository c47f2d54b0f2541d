section
-- ===== PART A: goes FIRST, ahead of the names: the tables' words, and 'selects' of the private methods out of them =====
/-- a private method of a class that the tables say can be made, by its rows of tables_1 -/
def lw_okq (q : MethodName × Nat) : Prop := (q.1.cls ≠ "java/lang/invoke/MethodHandle" ∧ q.1.cls ≠ "java/lang/invoke/VarHandle") ∧ Cond.instantiable q.1.cls q.2 ∈ tables_1 ∧ Cond.privateMethod q.1 ∈ tables_1 ∧ Cond.instanceMethod q.1 ∈ tables_1
theorem lw_p0 : lw_okq (⟨"CarpetEleven$Tape", "advance", "()V"⟩, 11) := ⟨⟨by decide +kernel, by decide +kernel⟩, List.mem_of_getElem? (i := 35) (by decide +kernel), List.mem_of_getElem? (i := 236) (by decide +kernel), List.mem_of_getElem? (i := 237) (by decide +kernel)⟩
theorem lw_p1 : lw_okq (⟨"CarpetEleven$Tape", "wordToken", "()I"⟩, 11) := ⟨⟨by decide +kernel, by decide +kernel⟩, List.mem_of_getElem? (i := 35) (by decide +kernel), List.mem_of_getElem? (i := 246) (by decide +kernel), List.mem_of_getElem? (i := 247) (by decide +kernel)⟩
theorem lw_p2 : lw_okq (⟨"CarpetEleven$Tape", "spells", "(Ljava/lang/String;)Z"⟩, 11) := ⟨⟨by decide +kernel, by decide +kernel⟩, List.mem_of_getElem? (i := 35) (by decide +kernel), List.mem_of_getElem? (i := 251) (by decide +kernel), List.mem_of_getElem? (i := 252) (by decide +kernel)⟩
theorem lw_p3 : lw_okq (⟨"CarpetEleven$Tape", "numberToken", "()I"⟩, 11) := ⟨⟨by decide +kernel, by decide +kernel⟩, List.mem_of_getElem? (i := 35) (by decide +kernel), List.mem_of_getElem? (i := 271) (by decide +kernel), List.mem_of_getElem? (i := 272) (by decide +kernel)⟩
theorem lw_p4 : lw_okq (⟨"CarpetEleven$Tape", "part", "(I)V"⟩, 11) := ⟨⟨by decide +kernel, by decide +kernel⟩, List.mem_of_getElem? (i := 35) (by decide +kernel), List.mem_of_getElem? (i := 278) (by decide +kernel), List.mem_of_getElem? (i := 279) (by decide +kernel)⟩
theorem lw_p5 : lw_okq (⟨"CarpetEleven$Tape", "expect", "(I)V"⟩, 11) := ⟨⟨by decide +kernel, by decide +kernel⟩, List.mem_of_getElem? (i := 35) (by decide +kernel), List.mem_of_getElem? (i := 282) (by decide +kernel), List.mem_of_getElem? (i := 283) (by decide +kernel)⟩
theorem lw_p6 : lw_okq (⟨"CarpetEleven$Tape", "fail", "()V"⟩, 11) := ⟨⟨by decide +kernel, by decide +kernel⟩, List.mem_of_getElem? (i := 35) (by decide +kernel), List.mem_of_getElem? (i := 286) (by decide +kernel), List.mem_of_getElem? (i := 287) (by decide +kernel)⟩
theorem lw_p7 : lw_okq (⟨"CarpetEleven$Tape", "either", "(I)V"⟩, 11) := ⟨⟨by decide +kernel, by decide +kernel⟩, List.mem_of_getElem? (i := 35) (by decide +kernel), List.mem_of_getElem? (i := 290) (by decide +kernel), List.mem_of_getElem? (i := 291) (by decide +kernel)⟩
theorem lw_p8 : lw_okq (⟨"CarpetEleven$Tape", "both", "(I)V"⟩, 11) := ⟨⟨by decide +kernel, by decide +kernel⟩, List.mem_of_getElem? (i := 35) (by decide +kernel), List.mem_of_getElem? (i := 294) (by decide +kernel), List.mem_of_getElem? (i := 295) (by decide +kernel)⟩
theorem lw_p9 : lw_okq (⟨"CarpetEleven$Tape", "denied", "(I)V"⟩, 11) := ⟨⟨by decide +kernel, by decide +kernel⟩, List.mem_of_getElem? (i := 35) (by decide +kernel), List.mem_of_getElem? (i := 298) (by decide +kernel), List.mem_of_getElem? (i := 299) (by decide +kernel)⟩
theorem lw_p10 : lw_okq (⟨"CarpetEleven$Tape", "emit", "(I)V"⟩, 11) := ⟨⟨by decide +kernel, by decide +kernel⟩, List.mem_of_getElem? (i := 35) (by decide +kernel), List.mem_of_getElem? (i := 302) (by decide +kernel), List.mem_of_getElem? (i := 303) (by decide +kernel)⟩
theorem lw_p11 : lw_okq (⟨"CarpetEleven$Tape", "sum", "(I)V"⟩, 11) := ⟨⟨by decide +kernel, by decide +kernel⟩, List.mem_of_getElem? (i := 35) (by decide +kernel), List.mem_of_getElem? (i := 306) (by decide +kernel), List.mem_of_getElem? (i := 307) (by decide +kernel)⟩
theorem lw_p12 : lw_okq (⟨"CarpetEleven$Tape", "term", "(I)V"⟩, 11) := ⟨⟨by decide +kernel, by decide +kernel⟩, List.mem_of_getElem? (i := 35) (by decide +kernel), List.mem_of_getElem? (i := 310) (by decide +kernel), List.mem_of_getElem? (i := 311) (by decide +kernel)⟩
theorem lw_p13 : lw_okq (⟨"CarpetEleven$Tape", "one", "(I)V"⟩, 11) := ⟨⟨by decide +kernel, by decide +kernel⟩, List.mem_of_getElem? (i := 35) (by decide +kernel), List.mem_of_getElem? (i := 314) (by decide +kernel), List.mem_of_getElem? (i := 315) (by decide +kernel)⟩
theorem lw_p14 : lw_okq (⟨"CarpetEleven", "comes", "(II)I"⟩, 14) := ⟨⟨by decide +kernel, by decide +kernel⟩, List.mem_of_getElem? (i := 21) (by decide +kernel), List.mem_of_getElem? (i := 435) (by decide +kernel), List.mem_of_getElem? (i := 436) (by decide +kernel)⟩
theorem lw_p15 : lw_okq (⟨"CarpetEleven", "setCost", "(II)I"⟩, 14) := ⟨⟨by decide +kernel, by decide +kernel⟩, List.mem_of_getElem? (i := 21) (by decide +kernel), List.mem_of_getElem? (i := 467) (by decide +kernel), List.mem_of_getElem? (i := 468) (by decide +kernel)⟩
def lw_privs_1 : List (MethodName × Nat) := [(⟨"CarpetEleven$Tape", "advance", "()V"⟩, 11), (⟨"CarpetEleven$Tape", "wordToken", "()I"⟩, 11), (⟨"CarpetEleven$Tape", "spells", "(Ljava/lang/String;)Z"⟩, 11), (⟨"CarpetEleven$Tape", "numberToken", "()I"⟩, 11), (⟨"CarpetEleven$Tape", "part", "(I)V"⟩, 11), (⟨"CarpetEleven$Tape", "expect", "(I)V"⟩, 11), (⟨"CarpetEleven$Tape", "fail", "()V"⟩, 11), (⟨"CarpetEleven$Tape", "either", "(I)V"⟩, 11), (⟨"CarpetEleven$Tape", "both", "(I)V"⟩, 11), (⟨"CarpetEleven$Tape", "denied", "(I)V"⟩, 11), (⟨"CarpetEleven$Tape", "emit", "(I)V"⟩, 11), (⟨"CarpetEleven$Tape", "sum", "(I)V"⟩, 11), (⟨"CarpetEleven$Tape", "term", "(I)V"⟩, 11), (⟨"CarpetEleven$Tape", "one", "(I)V"⟩, 11), (⟨"CarpetEleven", "comes", "(II)I"⟩, 14), (⟨"CarpetEleven", "setCost", "(II)I"⟩, 14)]
theorem lw_r1 : ∀ q ∈ lw_privs_1, lw_okq q := List.forall_mem_cons.mpr ⟨lw_p0, List.forall_mem_cons.mpr ⟨lw_p1, List.forall_mem_cons.mpr ⟨lw_p2, List.forall_mem_cons.mpr ⟨lw_p3, List.forall_mem_cons.mpr ⟨lw_p4, List.forall_mem_cons.mpr ⟨lw_p5, List.forall_mem_cons.mpr ⟨lw_p6, List.forall_mem_cons.mpr ⟨lw_p7, List.forall_mem_cons.mpr ⟨lw_p8, List.forall_mem_cons.mpr ⟨lw_p9, List.forall_mem_cons.mpr ⟨lw_p10, List.forall_mem_cons.mpr ⟨lw_p11, List.forall_mem_cons.mpr ⟨lw_p12, List.forall_mem_cons.mpr ⟨lw_p13, List.forall_mem_cons.mpr ⟨lw_p14, List.forall_mem_cons.mpr ⟨lw_p15, fun _ h => absurd h List.not_mem_nil⟩⟩⟩⟩⟩⟩⟩⟩⟩⟩⟩⟩⟩⟩⟩⟩
theorem lw_p16 : lw_okq (⟨"CarpetEleven", "isSeller", "(I)Z"⟩, 14) := ⟨⟨by decide +kernel, by decide +kernel⟩, List.mem_of_getElem? (i := 21) (by decide +kernel), List.mem_of_getElem? (i := 471) (by decide +kernel), List.mem_of_getElem? (i := 472) (by decide +kernel)⟩
theorem lw_p17 : lw_okq (⟨"CarpetEleven", "endByRule", "(III)LCarpetEleven$Seller;"⟩, 14) := ⟨⟨by decide +kernel, by decide +kernel⟩, List.mem_of_getElem? (i := 21) (by decide +kernel), List.mem_of_getElem? (i := 600) (by decide +kernel), List.mem_of_getElem? (i := 601) (by decide +kernel)⟩
theorem lw_p18 : lw_okq (⟨"CarpetEleven", "saysSo", "(IILCarpetEleven$Sheet;)Z"⟩, 14) := ⟨⟨by decide +kernel, by decide +kernel⟩, List.mem_of_getElem? (i := 21) (by decide +kernel), List.mem_of_getElem? (i := 648) (by decide +kernel), List.mem_of_getElem? (i := 649) (by decide +kernel)⟩
theorem lw_p19 : lw_okq (⟨"CarpetEleven", "crowdHasHope", "()Z"⟩, 14) := ⟨⟨by decide +kernel, by decide +kernel⟩, List.mem_of_getElem? (i := 21) (by decide +kernel), List.mem_of_getElem? (i := 669) (by decide +kernel), List.mem_of_getElem? (i := 670) (by decide +kernel)⟩
theorem lw_p20 : lw_okq (⟨"CarpetEleven", "crowdSells", "(II)I"⟩, 14) := ⟨⟨by decide +kernel, by decide +kernel⟩, List.mem_of_getElem? (i := 21) (by decide +kernel), List.mem_of_getElem? (i := 673) (by decide +kernel), List.mem_of_getElem? (i := 674) (by decide +kernel)⟩
theorem lw_p21 : lw_okq (⟨"CarpetEleven", "standsBySeed", "(II)I"⟩, 14) := ⟨⟨by decide +kernel, by decide +kernel⟩, List.mem_of_getElem? (i := 21) (by decide +kernel), List.mem_of_getElem? (i := 685) (by decide +kernel), List.mem_of_getElem? (i := 686) (by decide +kernel)⟩
theorem lw_p22 : lw_okq (⟨"CarpetEleven", "howMany", "(I)I"⟩, 14) := ⟨⟨by decide +kernel, by decide +kernel⟩, List.mem_of_getElem? (i := 21) (by decide +kernel), List.mem_of_getElem? (i := 702) (by decide +kernel), List.mem_of_getElem? (i := 703) (by decide +kernel)⟩
theorem lw_p23 : lw_okq (⟨"CarpetElevenModel", "firstRule", "()V"⟩, 45) := ⟨⟨by decide +kernel, by decide +kernel⟩, List.mem_of_getElem? (i := 753) (by decide +kernel), List.mem_of_getElem? (i := 761) (by decide +kernel), List.mem_of_getElem? (i := 762) (by decide +kernel)⟩
theorem lw_p24 : lw_okq (⟨"CarpetElevenModel", "writes", "(I)V"⟩, 45) := ⟨⟨by decide +kernel, by decide +kernel⟩, List.mem_of_getElem? (i := 753) (by decide +kernel), List.mem_of_getElem? (i := 765) (by decide +kernel), List.mem_of_getElem? (i := 766) (by decide +kernel)⟩
theorem lw_p25 : lw_okq (⟨"CarpetElevenModel", "reads", "()V"⟩, 45) := ⟨⟨by decide +kernel, by decide +kernel⟩, List.mem_of_getElem? (i := 753) (by decide +kernel), List.mem_of_getElem? (i := 916) (by decide +kernel), List.mem_of_getElem? (i := 917) (by decide +kernel)⟩
theorem lw_p26 : lw_okq (⟨"CarpetElevenModel", "isAt", "(II)Z"⟩, 45) := ⟨⟨by decide +kernel, by decide +kernel⟩, List.mem_of_getElem? (i := 753) (by decide +kernel), List.mem_of_getElem? (i := 920) (by decide +kernel), List.mem_of_getElem? (i := 921) (by decide +kernel)⟩
theorem lw_p27 : lw_okq (⟨"CarpetElevenModel", "isWord", "([I)Z"⟩, 45) := ⟨⟨by decide +kernel, by decide +kernel⟩, List.mem_of_getElem? (i := 753) (by decide +kernel), List.mem_of_getElem? (i := 924) (by decide +kernel), List.mem_of_getElem? (i := 925) (by decide +kernel)⟩
theorem lw_p28 : lw_okq (⟨"CarpetElevenModel", "readsRow", "()Z"⟩, 45) := ⟨⟨by decide +kernel, by decide +kernel⟩, List.mem_of_getElem? (i := 753) (by decide +kernel), List.mem_of_getElem? (i := 931) (by decide +kernel), List.mem_of_getElem? (i := 932) (by decide +kernel)⟩
theorem lw_p29 : lw_okq (⟨"CarpetElevenModel", "ahead", "()I"⟩, 45) := ⟨⟨by decide +kernel, by decide +kernel⟩, List.mem_of_getElem? (i := 753) (by decide +kernel), List.mem_of_getElem? (i := 935) (by decide +kernel), List.mem_of_getElem? (i := 936) (by decide +kernel)⟩
theorem lw_p30 : lw_okq (⟨"CarpetElevenModel", "mayNot", "()Z"⟩, 45) := ⟨⟨by decide +kernel, by decide +kernel⟩, List.mem_of_getElem? (i := 753) (by decide +kernel), List.mem_of_getElem? (i := 939) (by decide +kernel), List.mem_of_getElem? (i := 940) (by decide +kernel)⟩
theorem lw_p31 : lw_okq (⟨"CarpetElevenModel", "top", "()I"⟩, 45) := ⟨⟨by decide +kernel, by decide +kernel⟩, List.mem_of_getElem? (i := 753) (by decide +kernel), List.mem_of_getElem? (i := 943) (by decide +kernel), List.mem_of_getElem? (i := 944) (by decide +kernel)⟩
def lw_privs_2 : List (MethodName × Nat) := [(⟨"CarpetEleven", "isSeller", "(I)Z"⟩, 14), (⟨"CarpetEleven", "endByRule", "(III)LCarpetEleven$Seller;"⟩, 14), (⟨"CarpetEleven", "saysSo", "(IILCarpetEleven$Sheet;)Z"⟩, 14), (⟨"CarpetEleven", "crowdHasHope", "()Z"⟩, 14), (⟨"CarpetEleven", "crowdSells", "(II)I"⟩, 14), (⟨"CarpetEleven", "standsBySeed", "(II)I"⟩, 14), (⟨"CarpetEleven", "howMany", "(I)I"⟩, 14), (⟨"CarpetElevenModel", "firstRule", "()V"⟩, 45), (⟨"CarpetElevenModel", "writes", "(I)V"⟩, 45), (⟨"CarpetElevenModel", "reads", "()V"⟩, 45), (⟨"CarpetElevenModel", "isAt", "(II)Z"⟩, 45), (⟨"CarpetElevenModel", "isWord", "([I)Z"⟩, 45), (⟨"CarpetElevenModel", "readsRow", "()Z"⟩, 45), (⟨"CarpetElevenModel", "ahead", "()I"⟩, 45), (⟨"CarpetElevenModel", "mayNot", "()Z"⟩, 45), (⟨"CarpetElevenModel", "top", "()I"⟩, 45)]
theorem lw_r2 : ∀ q ∈ lw_privs_2, lw_okq q := List.forall_mem_cons.mpr ⟨lw_p16, List.forall_mem_cons.mpr ⟨lw_p17, List.forall_mem_cons.mpr ⟨lw_p18, List.forall_mem_cons.mpr ⟨lw_p19, List.forall_mem_cons.mpr ⟨lw_p20, List.forall_mem_cons.mpr ⟨lw_p21, List.forall_mem_cons.mpr ⟨lw_p22, List.forall_mem_cons.mpr ⟨lw_p23, List.forall_mem_cons.mpr ⟨lw_p24, List.forall_mem_cons.mpr ⟨lw_p25, List.forall_mem_cons.mpr ⟨lw_p26, List.forall_mem_cons.mpr ⟨lw_p27, List.forall_mem_cons.mpr ⟨lw_p28, List.forall_mem_cons.mpr ⟨lw_p29, List.forall_mem_cons.mpr ⟨lw_p30, List.forall_mem_cons.mpr ⟨lw_p31, fun _ h => absurd h List.not_mem_nil⟩⟩⟩⟩⟩⟩⟩⟩⟩⟩⟩⟩⟩⟩⟩⟩
theorem lw_p32 : lw_okq (⟨"CarpetElevenModel", "holds", "(I)V"⟩, 45) := ⟨⟨by decide +kernel, by decide +kernel⟩, List.mem_of_getElem? (i := 753) (by decide +kernel), List.mem_of_getElem? (i := 947) (by decide +kernel), List.mem_of_getElem? (i := 948) (by decide +kernel)⟩
theorem lw_p33 : lw_okq (⟨"CarpetElevenModel", "behind", "()I"⟩, 45) := ⟨⟨by decide +kernel, by decide +kernel⟩, List.mem_of_getElem? (i := 753) (by decide +kernel), List.mem_of_getElem? (i := 951) (by decide +kernel), List.mem_of_getElem? (i := 952) (by decide +kernel)⟩
theorem lw_p34 : lw_okq (⟨"CarpetElevenModel", "letsFrom", "(I)V"⟩, 45) := ⟨⟨by decide +kernel, by decide +kernel⟩, List.mem_of_getElem? (i := 753) (by decide +kernel), List.mem_of_getElem? (i := 955) (by decide +kernel), List.mem_of_getElem? (i := 956) (by decide +kernel)⟩
theorem lw_p35 : lw_okq (⟨"CarpetElevenModel", "lets", "()V"⟩, 45) := ⟨⟨by decide +kernel, by decide +kernel⟩, List.mem_of_getElem? (i := 753) (by decide +kernel), List.mem_of_getElem? (i := 962) (by decide +kernel), List.mem_of_getElem? (i := 963) (by decide +kernel)⟩
theorem lw_p36 : lw_okq (⟨"CarpetElevenModel", "comes", "(II)I"⟩, 45) := ⟨⟨by decide +kernel, by decide +kernel⟩, List.mem_of_getElem? (i := 753) (by decide +kernel), List.mem_of_getElem? (i := 977) (by decide +kernel), List.mem_of_getElem? (i := 978) (by decide +kernel)⟩
theorem lw_p37 : lw_okq (⟨"CarpetElevenModel", "begins", "(I)V"⟩, 45) := ⟨⟨by decide +kernel, by decide +kernel⟩, List.mem_of_getElem? (i := 753) (by decide +kernel), List.mem_of_getElem? (i := 981) (by decide +kernel), List.mem_of_getElem? (i := 982) (by decide +kernel)⟩
theorem lw_p38 : lw_okq (⟨"CarpetElevenModel", "says", "(IIII)I"⟩, 45) := ⟨⟨by decide +kernel, by decide +kernel⟩, List.mem_of_getElem? (i := 753) (by decide +kernel), List.mem_of_getElem? (i := 985) (by decide +kernel), List.mem_of_getElem? (i := 986) (by decide +kernel)⟩
theorem lw_p39 : lw_okq (⟨"CarpetElevenModel", "named", "(IIII)I"⟩, 45) := ⟨⟨by decide +kernel, by decide +kernel⟩, List.mem_of_getElem? (i := 753) (by decide +kernel), List.mem_of_getElem? (i := 989) (by decide +kernel), List.mem_of_getElem? (i := 990) (by decide +kernel)⟩
theorem lw_p40 : lw_okq (⟨"CarpetElevenModel", "leastOf", "(III)I"⟩, 45) := ⟨⟨by decide +kernel, by decide +kernel⟩, List.mem_of_getElem? (i := 753) (by decide +kernel), List.mem_of_getElem? (i := 996) (by decide +kernel), List.mem_of_getElem? (i := 997) (by decide +kernel)⟩
theorem lw_p41 : lw_okq (⟨"CarpetElevenModel", "isSeller", "(I)Z"⟩, 45) := ⟨⟨by decide +kernel, by decide +kernel⟩, List.mem_of_getElem? (i := 753) (by decide +kernel), List.mem_of_getElem? (i := 1007) (by decide +kernel), List.mem_of_getElem? (i := 1008) (by decide +kernel)⟩
theorem lw_p42 : lw_okq (⟨"CarpetElevenModel", "staysOf", "(I)I"⟩, 45) := ⟨⟨by decide +kernel, by decide +kernel⟩, List.mem_of_getElem? (i := 753) (by decide +kernel), List.mem_of_getElem? (i := 1019) (by decide +kernel), List.mem_of_getElem? (i := 1020) (by decide +kernel)⟩
theorem lw_p43 : lw_okq (⟨"CarpetElevenModel", "speaks", "(II)I"⟩, 45) := ⟨⟨by decide +kernel, by decide +kernel⟩, List.mem_of_getElem? (i := 753) (by decide +kernel), List.mem_of_getElem? (i := 1037) (by decide +kernel), List.mem_of_getElem? (i := 1038) (by decide +kernel)⟩
theorem lw_p44 : lw_okq (⟨"CarpetElevenModel", "stepsOf", "(II)I"⟩, 45) := ⟨⟨by decide +kernel, by decide +kernel⟩, List.mem_of_getElem? (i := 753) (by decide +kernel), List.mem_of_getElem? (i := 1041) (by decide +kernel), List.mem_of_getElem? (i := 1042) (by decide +kernel)⟩
theorem lw_p45 : lw_okq (⟨"CarpetElevenModel", "doesTake", "(IIII)Z"⟩, 45) := ⟨⟨by decide +kernel, by decide +kernel⟩, List.mem_of_getElem? (i := 753) (by decide +kernel), List.mem_of_getElem? (i := 1045) (by decide +kernel), List.mem_of_getElem? (i := 1046) (by decide +kernel)⟩
theorem lw_p46 : lw_okq (⟨"CarpetElevenModel", "agrees", "(I)I"⟩, 45) := ⟨⟨by decide +kernel, by decide +kernel⟩, List.mem_of_getElem? (i := 753) (by decide +kernel), List.mem_of_getElem? (i := 1053) (by decide +kernel), List.mem_of_getElem? (i := 1054) (by decide +kernel)⟩
theorem lw_p47 : lw_okq (⟨"CarpetElevenModel", "keeps", "(I)V"⟩, 45) := ⟨⟨by decide +kernel, by decide +kernel⟩, List.mem_of_getElem? (i := 753) (by decide +kernel), List.mem_of_getElem? (i := 1061) (by decide +kernel), List.mem_of_getElem? (i := 1062) (by decide +kernel)⟩
def lw_privs_3 : List (MethodName × Nat) := [(⟨"CarpetElevenModel", "holds", "(I)V"⟩, 45), (⟨"CarpetElevenModel", "behind", "()I"⟩, 45), (⟨"CarpetElevenModel", "letsFrom", "(I)V"⟩, 45), (⟨"CarpetElevenModel", "lets", "()V"⟩, 45), (⟨"CarpetElevenModel", "comes", "(II)I"⟩, 45), (⟨"CarpetElevenModel", "begins", "(I)V"⟩, 45), (⟨"CarpetElevenModel", "says", "(IIII)I"⟩, 45), (⟨"CarpetElevenModel", "named", "(IIII)I"⟩, 45), (⟨"CarpetElevenModel", "leastOf", "(III)I"⟩, 45), (⟨"CarpetElevenModel", "isSeller", "(I)Z"⟩, 45), (⟨"CarpetElevenModel", "staysOf", "(I)I"⟩, 45), (⟨"CarpetElevenModel", "speaks", "(II)I"⟩, 45), (⟨"CarpetElevenModel", "stepsOf", "(II)I"⟩, 45), (⟨"CarpetElevenModel", "doesTake", "(IIII)Z"⟩, 45), (⟨"CarpetElevenModel", "agrees", "(I)I"⟩, 45), (⟨"CarpetElevenModel", "keeps", "(I)V"⟩, 45)]
theorem lw_r3 : ∀ q ∈ lw_privs_3, lw_okq q := List.forall_mem_cons.mpr ⟨lw_p32, List.forall_mem_cons.mpr ⟨lw_p33, List.forall_mem_cons.mpr ⟨lw_p34, List.forall_mem_cons.mpr ⟨lw_p35, List.forall_mem_cons.mpr ⟨lw_p36, List.forall_mem_cons.mpr ⟨lw_p37, List.forall_mem_cons.mpr ⟨lw_p38, List.forall_mem_cons.mpr ⟨lw_p39, List.forall_mem_cons.mpr ⟨lw_p40, List.forall_mem_cons.mpr ⟨lw_p41, List.forall_mem_cons.mpr ⟨lw_p42, List.forall_mem_cons.mpr ⟨lw_p43, List.forall_mem_cons.mpr ⟨lw_p44, List.forall_mem_cons.mpr ⟨lw_p45, List.forall_mem_cons.mpr ⟨lw_p46, List.forall_mem_cons.mpr ⟨lw_p47, fun _ h => absurd h List.not_mem_nil⟩⟩⟩⟩⟩⟩⟩⟩⟩⟩⟩⟩⟩⟩⟩⟩
theorem lw_p48 : lw_okq (⟨"CarpetElevenModel", "standing", "(I)I"⟩, 45) := ⟨⟨by decide +kernel, by decide +kernel⟩, List.mem_of_getElem? (i := 753) (by decide +kernel), List.mem_of_getElem? (i := 1065) (by decide +kernel), List.mem_of_getElem? (i := 1066) (by decide +kernel)⟩
theorem lw_p49 : lw_okq (⟨"CarpetElevenModel", "putsBack", "(II)V"⟩, 45) := ⟨⟨by decide +kernel, by decide +kernel⟩, List.mem_of_getElem? (i := 753) (by decide +kernel), List.mem_of_getElem? (i := 1073) (by decide +kernel), List.mem_of_getElem? (i := 1074) (by decide +kernel)⟩
theorem lw_p50 : lw_okq (⟨"CarpetElevenModel", "thinks", "(IIIZ)I"⟩, 45) := ⟨⟨by decide +kernel, by decide +kernel⟩, List.mem_of_getElem? (i := 753) (by decide +kernel), List.mem_of_getElem? (i := 1084) (by decide +kernel), List.mem_of_getElem? (i := 1085) (by decide +kernel)⟩
theorem lw_p51 : lw_okq (⟨"CarpetElevenModel", "bids", "(IIII)V"⟩, 45) := ⟨⟨by decide +kernel, by decide +kernel⟩, List.mem_of_getElem? (i := 753) (by decide +kernel), List.mem_of_getElem? (i := 1088) (by decide +kernel), List.mem_of_getElem? (i := 1089) (by decide +kernel)⟩
theorem lw_p52 : lw_okq (⟨"CarpetElevenModel", "isJustSo", "(II)Z"⟩, 45) := ⟨⟨by decide +kernel, by decide +kernel⟩, List.mem_of_getElem? (i := 753) (by decide +kernel), List.mem_of_getElem? (i := 1115) (by decide +kernel), List.mem_of_getElem? (i := 1116) (by decide +kernel)⟩
theorem lw_p53 : lw_okq (⟨"CarpetElevenModel", "goesBuyer", "(III)V"⟩, 45) := ⟨⟨by decide +kernel, by decide +kernel⟩, List.mem_of_getElem? (i := 753) (by decide +kernel), List.mem_of_getElem? (i := 1127) (by decide +kernel), List.mem_of_getElem? (i := 1128) (by decide +kernel)⟩
theorem lw_p54 : lw_okq (⟨"CarpetElevenModel", "drawnBy", "(II)I"⟩, 45) := ⟨⟨by decide +kernel, by decide +kernel⟩, List.mem_of_getElem? (i := 753) (by decide +kernel), List.mem_of_getElem? (i := 1139) (by decide +kernel), List.mem_of_getElem? (i := 1140) (by decide +kernel)⟩
theorem lw_p55 : lw_okq (⟨"CarpetElevenModel", "hasCells", "(III)Z"⟩, 45) := ⟨⟨by decide +kernel, by decide +kernel⟩, List.mem_of_getElem? (i := 753) (by decide +kernel), List.mem_of_getElem? (i := 1168) (by decide +kernel), List.mem_of_getElem? (i := 1169) (by decide +kernel)⟩
def lw_privs_4 : List (MethodName × Nat) := [(⟨"CarpetElevenModel", "standing", "(I)I"⟩, 45), (⟨"CarpetElevenModel", "putsBack", "(II)V"⟩, 45), (⟨"CarpetElevenModel", "thinks", "(IIIZ)I"⟩, 45), (⟨"CarpetElevenModel", "bids", "(IIII)V"⟩, 45), (⟨"CarpetElevenModel", "isJustSo", "(II)Z"⟩, 45), (⟨"CarpetElevenModel", "goesBuyer", "(III)V"⟩, 45), (⟨"CarpetElevenModel", "drawnBy", "(II)I"⟩, 45), (⟨"CarpetElevenModel", "hasCells", "(III)Z"⟩, 45)]
theorem lw_r4 : ∀ q ∈ lw_privs_4, lw_okq q := List.forall_mem_cons.mpr ⟨lw_p48, List.forall_mem_cons.mpr ⟨lw_p49, List.forall_mem_cons.mpr ⟨lw_p50, List.forall_mem_cons.mpr ⟨lw_p51, List.forall_mem_cons.mpr ⟨lw_p52, List.forall_mem_cons.mpr ⟨lw_p53, List.forall_mem_cons.mpr ⟨lw_p54, List.forall_mem_cons.mpr ⟨lw_p55, fun _ h => absurd h List.not_mem_nil⟩⟩⟩⟩⟩⟩⟩⟩
def lw_privs : List (MethodName × Nat) := lw_privs_1 ++ (lw_privs_2 ++ (lw_privs_3 ++ (lw_privs_4)))
def lw_tbl : List Cond := k2_sels lw_privs ++ tables_1
theorem lw_privs_ok : ∀ q ∈ lw_privs, lw_okq q := by
  show ∀ q ∈ lw_privs_1 ++ (lw_privs_2 ++ (lw_privs_3 ++ (lw_privs_4))), lw_okq q
  exact List.forall_mem_append.mpr ⟨lw_r1, List.forall_mem_append.mpr ⟨lw_r2, List.forall_mem_append.mpr ⟨lw_r3, lw_r4⟩⟩⟩
-- ===== end of PART A; then your names; then what follows =====
/-! ===== BEGIN words of one list among another's, by their places ===== -/
theorem goodIn_r {big : List Cond} (ws : List Cond) (ps : List Nat) (hp : ws = ps.filterMap (fun i => big[i]?)) (h : ws.all goodWord = true) : GoodIn big ws := by
  intro w hw
  have h1 := List.all_eq_true.mp h w hw
  rw [hp] at hw
  obtain ⟨i, -, hi⟩ := List.mem_filterMap.mp hw
  have hm : w ∈ big := by first | exact List.mem_of_getElem? hi | exact List.getElem?_mem hi
  exact ⟨hm, good_of_word h1⟩
theorem goodIn_app {big a b : List Cond} (ha : GoodIn big a) (hb : GoodIn big b) : GoodIn big (a ++ b) := fun w h => (List.mem_append.mp h).elim (ha w) (hb w)
theorem goodIn_ca {big a b : List Cond} {c : Cond} (ha : GoodIn big (c :: a)) (hb : GoodIn big b) : GoodIn big (c :: (a ++ b)) := fun w h => (List.mem_cons.mp h).elim (fun e => ha w (List.mem_cons.mpr (Or.inl e))) (fun h => (List.mem_append.mp h).elim (fun h => ha w (List.mem_cons.mpr (Or.inr h))) (hb w))
theorem goodIn_sub {big ws : List Cond} (hm : ∀ w ∈ ws, w ∈ big) (h : ws.all goodWord = true) : GoodIn big ws := fun w hw => ⟨hm w hw, good_of_word (List.all_eq_true.mp h w hw)⟩
/-! ===== END ===== -/

/-! ===== BEGIN printed: names, fields, word lists, decode rows ===== -/
def RX0 : String := "CarpetEleven$Brother"
def TX0 : u_T := fun k => match k with
  | _ => ("", "", "", false)
def tyX0 : Nat → FieldType := fun k => match k with
  | _ => .int
abbrev wsX00 : List Cond := u_ws RX0 TX0 0
theorem nmX0 : ∀ a, a < 0 → ∀ b, b < 0 → a ≠ b → (TX0 a).2.1 ≠ (TX0 b).2.1 := by decide +kernel
theorem tyX0_ok : ∀ k, k < 0 → parseFieldDescriptor (TX0 k).2.2.1 = some (tyX0 k) := by decide +kernel
abbrev cX0_init : ByteArray := prog_2_method_1_code
def yX0_init : MethodName := ⟨RX0, "<init>", "()V"⟩
abbrev cX0_steps : ByteArray := prog_2_method_2_code
def yX0_steps : MethodName := ⟨RX0, "steps", "(IIIII)I"⟩
abbrev cX0_takes : ByteArray := prog_2_method_3_code
def yX0_takes : MethodName := ⟨RX0, "takes", "(IIIII)Z"⟩
def RX1 : String := "CarpetEleven$Eager"
def TX1 : u_T := fun k => match k with
  | _ => ("", "", "", false)
def tyX1 : Nat → FieldType := fun k => match k with
  | _ => .int
abbrev wsX10 : List Cond := u_ws RX1 TX1 0
theorem nmX1 : ∀ a, a < 0 → ∀ b, b < 0 → a ≠ b → (TX1 a).2.1 ≠ (TX1 b).2.1 := by decide +kernel
theorem tyX1_ok : ∀ k, k < 0 → parseFieldDescriptor (TX1 k).2.2.1 = some (tyX1 k) := by decide +kernel
abbrev cX1_init : ByteArray := prog_3_method_1_code
def yX1_init : MethodName := ⟨RX1, "<init>", "()V"⟩
abbrev cX1_steps : ByteArray := prog_3_method_2_code
def yX1_steps : MethodName := ⟨RX1, "steps", "(IIIII)I"⟩
abbrev cX1_takes : ByteArray := prog_3_method_3_code
def yX1_takes : MethodName := ⟨RX1, "takes", "(IIIII)Z"⟩
abbrev cX1_stays : ByteArray := prog_3_method_4_code
def yX1_stays : MethodName := ⟨RX1, "stays", "(I)I"⟩
def RX2 : String := "CarpetEleven$Halver"
def TX2 : u_T := fun k => match k with
  | _ => ("", "", "", false)
def tyX2 : Nat → FieldType := fun k => match k with
  | _ => .int
abbrev wsX20 : List Cond := u_ws RX2 TX2 0
theorem nmX2 : ∀ a, a < 0 → ∀ b, b < 0 → a ≠ b → (TX2 a).2.1 ≠ (TX2 b).2.1 := by decide +kernel
theorem tyX2_ok : ∀ k, k < 0 → parseFieldDescriptor (TX2 k).2.2.1 = some (tyX2 k) := by decide +kernel
abbrev cX2_init : ByteArray := prog_4_method_1_code
def yX2_init : MethodName := ⟨RX2, "<init>", "()V"⟩
abbrev cX2_steps : ByteArray := prog_4_method_2_code
def yX2_steps : MethodName := ⟨RX2, "steps", "(IIIII)I"⟩
abbrev cX2_stays : ByteArray := prog_4_method_3_code
def yX2_stays : MethodName := ⟨RX2, "stays", "(I)I"⟩
def RX3 : String := "CarpetEleven$Kind"
def TX3 : u_T := fun k => match k with
  | _ => ("", "", "", false)
def tyX3 : Nat → FieldType := fun k => match k with
  | _ => .int
abbrev wsX30 : List Cond := u_ws RX3 TX3 0
theorem nmX3 : ∀ a, a < 0 → ∀ b, b < 0 → a ≠ b → (TX3 a).2.1 ≠ (TX3 b).2.1 := by decide +kernel
theorem tyX3_ok : ∀ k, k < 0 → parseFieldDescriptor (TX3 k).2.2.1 = some (tyX3 k) := by decide +kernel
abbrev cX3_init : ByteArray := prog_5_method_1_code
def yX3_init : MethodName := ⟨RX3, "<init>", "()V"⟩
abbrev cX3_steps : ByteArray := prog_5_method_2_code
def yX3_steps : MethodName := ⟨RX3, "steps", "(IIIII)I"⟩
abbrev cX3_takes : ByteArray := prog_5_method_3_code
def yX3_takes : MethodName := ⟨RX3, "takes", "(IIIII)Z"⟩
abbrev cX3_stays : ByteArray := prog_5_method_4_code
def yX3_stays : MethodName := ⟨RX3, "stays", "(I)I"⟩
def RX4 : String := "CarpetEleven$Scene"
def TX4 : u_T := fun k => match k with
  | 0 => ("CarpetEleven$Scene", "shoes", "I", false)
  | 1 => ("CarpetEleven$Scene", "hour", "I", false)
  | 2 => ("CarpetEleven$Scene", "limit", "I", false)
  | 3 => ("CarpetEleven$Scene", "textNumber", "I", false)
  | _ => ("CarpetEleven$Scene", "text", "LCarpetEleven$Text;", false)
def tyX4 : Nat → FieldType := fun k => match k with
  | 0 => .int
  | 1 => .int
  | 2 => .int
  | 3 => .int
  | _ => .object "CarpetEleven$Text"
abbrev wsX40 : List Cond := u_ws RX4 TX4 5
theorem nmX4 : ∀ a, a < 5 → ∀ b, b < 5 → a ≠ b → (TX4 a).2.1 ≠ (TX4 b).2.1 := by decide +kernel
theorem tyX4_ok : ∀ k, k < 5 → parseFieldDescriptor (TX4 k).2.2.1 = some (tyX4 k) := by decide +kernel
abbrev cX4_init : ByteArray := prog_6_method_1_code
def yX4_init : MethodName := ⟨RX4, "<init>", "(LCarpetEleven$Text;)V"⟩
abbrev cX4_take : ByteArray := prog_6_method_2_code
def yX4_take : MethodName := ⟨RX4, "take", "(LCarpetEleven$Scene;)V"⟩
abbrev cX4_least : ByteArray := prog_6_method_3_code
def yX4_least : MethodName := ⟨RX4, "least", "(LCarpetEleven$Seller;I)I"⟩
abbrev cX4_first : ByteArray := prog_6_method_4_code
def yX4_first : MethodName := ⟨RX4, "first", "(LCarpetEleven$Seller;)I"⟩
abbrev cX4_pull : ByteArray := prog_6_method_5_code
def yX4_pull : MethodName := ⟨RX4, "pull", "(LCarpetEleven$Seller;I)I"⟩
def RX5 : String := "CarpetEleven$Seller"
def TX5 : u_T := fun k => match k with
  | 0 => ("CarpetEleven$Seller", "kind", "LCarpetEleven$Kind;", false)
  | 1 => ("CarpetEleven$Seller", "kindNumber", "I", false)
  | 2 => ("CarpetEleven$Seller", "cost", "I", false)
  | 3 => ("CarpetEleven$Seller", "number", "I", false)
  | 4 => ("CarpetEleven$Seller", "said", "I", false)
  | 5 => ("CarpetEleven$Seller", "cups", "I", false)
  | 6 => ("CarpetEleven$Seller", "stands", "I", false)
  | _ => ("CarpetEleven$Seller", "price", "I", false)
def tyX5 : Nat → FieldType := fun k => match k with
  | 0 => .object "CarpetEleven$Kind"
  | 1 => .int
  | 2 => .int
  | 3 => .int
  | 4 => .int
  | 5 => .int
  | 6 => .int
  | _ => .int
abbrev wsX50 : List Cond := u_ws RX5 TX5 8
theorem nmX5 : ∀ a, a < 8 → ∀ b, b < 8 → a ≠ b → (TX5 a).2.1 ≠ (TX5 b).2.1 := by decide +kernel
theorem tyX5_ok : ∀ k, k < 8 → parseFieldDescriptor (TX5 k).2.2.1 = some (tyX5 k) := by decide +kernel
abbrev cX5_init : ByteArray := prog_7_method_1_code
def yX5_init : MethodName := ⟨RX5, "<init>", "(LCarpetEleven$Kind;)V"⟩
abbrev cX5_take : ByteArray := prog_7_method_2_code
def yX5_take : MethodName := ⟨RX5, "take", "(LCarpetEleven$Seller;)V"⟩
abbrev cX5_takeTalk : ByteArray := prog_7_method_3_code
def yX5_takeTalk : MethodName := ⟨RX5, "takeTalk", "(LCarpetEleven$Seller;)V"⟩
abbrev cX5_begin : ByteArray := prog_7_method_4_code
def yX5_begin : MethodName := ⟨RX5, "begin", "(LCarpetEleven$Scene;)V"⟩
abbrev cX5_sellAt : ByteArray := prog_7_method_5_code
def yX5_sellAt : MethodName := ⟨RX5, "sellAt", "(I)V"⟩
abbrev cX5_hear : ByteArray := prog_7_method_6_code
def yX5_hear : MethodName := ⟨RX5, "hear", "(ILCarpetEleven$Scene;)V"⟩
abbrev cX5_goByRule : ByteArray := prog_7_method_7_code
def yX5_goByRule : MethodName := ⟨RX5, "goByRule", "(IILCarpetEleven$Scene;)V"⟩
def RX6 : String := "CarpetEleven$Sheet"
def TX6 : u_T := fun k => match k with
  | 0 => ("CarpetEleven$Sheet", "items", "[I", true)
  | 1 => ("CarpetEleven$Sheet", "sort", "I", false)
  | _ => ("CarpetEleven$Sheet", "size", "I", false)
def tyX6 : Nat → FieldType := fun k => match k with
  | 0 => .array .int
  | 1 => .int
  | _ => .int
abbrev wsX60 : List Cond := u_ws RX6 TX6 3
theorem nmX6 : ∀ a, a < 3 → ∀ b, b < 3 → a ≠ b → (TX6 a).2.1 ≠ (TX6 b).2.1 := by decide +kernel
theorem tyX6_ok : ∀ k, k < 3 → parseFieldDescriptor (TX6 k).2.2.1 = some (tyX6 k) := by decide +kernel
abbrev cX6_init : ByteArray := prog_8_method_1_code
def yX6_init : MethodName := ⟨RX6, "<init>", "()V"⟩
abbrev cX6_isMissing : ByteArray := prog_8_method_2_code
def yX6_isMissing : MethodName := ⟨RX6, "isMissing", "()Z"⟩
abbrev cX6_become : ByteArray := prog_8_method_3_code
def yX6_become : MethodName := ⟨RX6, "become", "(II)V"⟩
abbrev cX6_has : ByteArray := prog_8_method_4_code
def yX6_has : MethodName := ⟨RX6, "has", "(I)Z"⟩
abbrev cX6_hasRun : ByteArray := prog_8_method_5_code
def yX6_hasRun : MethodName := ⟨RX6, "hasRun", "(II)Z"⟩
abbrev cX6_at : ByteArray := prog_8_method_6_code
def yX6_at : MethodName := ⟨RX6, "at", "(I)I"⟩
abbrev cX6_put : ByteArray := prog_8_method_7_code
def yX6_put : MethodName := ⟨RX6, "put", "(II)V"⟩
def RX7 : String := "CarpetEleven$Slip"
def TX7 : u_T := fun k => match k with
  | _ => ("", "", "", false)
def tyX7 : Nat → FieldType := fun k => match k with
  | _ => .int
abbrev wsX70 : List Cond := u_ws RX7 TX7 0
theorem nmX7 : ∀ a, a < 0 → ∀ b, b < 0 → a ≠ b → (TX7 a).2.1 ≠ (TX7 b).2.1 := by decide +kernel
theorem tyX7_ok : ∀ k, k < 0 → parseFieldDescriptor (TX7 k).2.2.1 = some (tyX7 k) := by decide +kernel
abbrev cX7_init : ByteArray := prog_9_method_1_code
def yX7_init : MethodName := ⟨RX7, "<init>", "()V"⟩
abbrev cX7_steps : ByteArray := prog_9_method_2_code
def yX7_steps : MethodName := ⟨RX7, "steps", "(IIIII)I"⟩
abbrev cX7_takes : ByteArray := prog_9_method_3_code
def yX7_takes : MethodName := ⟨RX7, "takes", "(IIIII)Z"⟩
abbrev cX7_stays : ByteArray := prog_9_method_4_code
def yX7_stays : MethodName := ⟨RX7, "stays", "(I)I"⟩
def RX8 : String := "CarpetEleven$Stiff"
def TX8 : u_T := fun k => match k with
  | _ => ("", "", "", false)
def tyX8 : Nat → FieldType := fun k => match k with
  | _ => .int
abbrev wsX80 : List Cond := u_ws RX8 TX8 0
theorem nmX8 : ∀ a, a < 0 → ∀ b, b < 0 → a ≠ b → (TX8 a).2.1 ≠ (TX8 b).2.1 := by decide +kernel
theorem tyX8_ok : ∀ k, k < 0 → parseFieldDescriptor (TX8 k).2.2.1 = some (tyX8 k) := by decide +kernel
abbrev cX8_init : ByteArray := prog_10_method_1_code
def yX8_init : MethodName := ⟨RX8, "<init>", "()V"⟩
abbrev cX8_steps : ByteArray := prog_10_method_2_code
def yX8_steps : MethodName := ⟨RX8, "steps", "(IIIII)I"⟩
abbrev cX8_stays : ByteArray := prog_10_method_3_code
def yX8_stays : MethodName := ⟨RX8, "stays", "(I)I"⟩
def RX9 : String := "CarpetEleven$Tape"
def TX9 : u_T := fun k => match k with
  | 0 => ("CarpetEleven$Tape", "size", "I", false)
  | 1 => ("CarpetEleven$Tape", "letters", "[I", true)
  | 2 => ("CarpetEleven$Tape", "steps", "[I", true)
  | 3 => ("CarpetEleven$Tape", "place", "I", false)
  | 4 => ("CarpetEleven$Tape", "token", "I", false)
  | 5 => ("CarpetEleven$Tape", "tokenPlace", "I", false)
  | 6 => ("CarpetEleven$Tape", "tokenNumber", "I", false)
  | 7 => ("CarpetEleven$Tape", "stepCount", "I", false)
  | 8 => ("CarpetEleven$Tape", "leastEnd", "I", false)
  | 9 => ("CarpetEleven$Tape", "firstEnd", "I", false)
  | _ => ("CarpetEleven$Tape", "fault", "I", false)
def tyX9 : Nat → FieldType := fun k => match k with
  | 0 => .int
  | 1 => .array .int
  | 2 => .array .int
  | 3 => .int
  | 4 => .int
  | 5 => .int
  | 6 => .int
  | 7 => .int
  | 8 => .int
  | 9 => .int
  | _ => .int
abbrev wsX90 : List Cond := u_ws RX9 TX9 11
theorem nmX9 : ∀ a, a < 11 → ∀ b, b < 11 → a ≠ b → (TX9 a).2.1 ≠ (TX9 b).2.1 := by decide +kernel
theorem tyX9_ok : ∀ k, k < 11 → parseFieldDescriptor (TX9 k).2.2.1 = some (tyX9 k) := by decide +kernel
abbrev cX9_init : ByteArray := prog_11_method_1_code
def yX9_init : MethodName := ⟨RX9, "<init>", "()V"⟩
abbrev cX9_add : ByteArray := prog_11_method_2_code
def yX9_add : MethodName := ⟨RX9, "add", "(I)V"⟩
abbrev cX9_read : ByteArray := prog_11_method_3_code
def yX9_read : MethodName := ⟨RX9, "read", "()I"⟩
abbrev cX9_made : ByteArray := prog_11_method_4_code
def yX9_made : MethodName := ⟨RX9, "made", "()LCarpetEleven$Text;"⟩
abbrev cX9_part : ByteArray := prog_11_method_5_code
def yX9_part : MethodName := ⟨RX9, "part", "(I)V"⟩
abbrev cX9_expect : ByteArray := prog_11_method_6_code
def yX9_expect : MethodName := ⟨RX9, "expect", "(I)V"⟩
abbrev cX9_fail : ByteArray := prog_11_method_7_code
def yX9_fail : MethodName := ⟨RX9, "fail", "()V"⟩
abbrev cX9_either : ByteArray := prog_11_method_8_code
def yX9_either : MethodName := ⟨RX9, "either", "(I)V"⟩
abbrev cX9_both : ByteArray := prog_11_method_9_code
def yX9_both : MethodName := ⟨RX9, "both", "(I)V"⟩
abbrev cX9_denied : ByteArray := prog_11_method_10_code
def yX9_denied : MethodName := ⟨RX9, "denied", "(I)V"⟩
abbrev cX9_sum : ByteArray := prog_11_method_11_code
def yX9_sum : MethodName := ⟨RX9, "sum", "(I)V"⟩
abbrev cX9_term : ByteArray := prog_11_method_12_code
def yX9_term : MethodName := ⟨RX9, "term", "(I)V"⟩
abbrev cX9_one : ByteArray := prog_11_method_13_code
def yX9_one : MethodName := ⟨RX9, "one", "(I)V"⟩
abbrev cX9_emit : ByteArray := prog_11_method_14_code
def yX9_emit : MethodName := ⟨RX9, "emit", "(I)V"⟩
abbrev cX9_advance : ByteArray := prog_11_method_15_code
def yX9_advance : MethodName := ⟨RX9, "advance", "()V"⟩
abbrev cX9_numberToken : ByteArray := prog_11_method_16_code
def yX9_numberToken : MethodName := ⟨RX9, "numberToken", "()I"⟩
abbrev cX9_signToken : ByteArray := prog_11_method_17_code
def yX9_signToken : MethodName := ⟨RX9, "signToken", "(I)I"⟩
abbrev cX9_wordToken : ByteArray := prog_11_method_18_code
def yX9_wordToken : MethodName := ⟨RX9, "wordToken", "()I"⟩
abbrev cX9_spells : ByteArray := prog_11_method_19_code
def yX9_spells : MethodName := ⟨RX9, "spells", "(Ljava/lang/String;)Z"⟩
abbrev cX9_isBlank : ByteArray := prog_11_method_20_code
def yX9_isBlank : MethodName := ⟨RX9, "isBlank", "(I)Z"⟩
abbrev cX9_isSmallLetter : ByteArray := prog_11_method_21_code
def yX9_isSmallLetter : MethodName := ⟨RX9, "isSmallLetter", "(I)Z"⟩
abbrev cX9_isDigit : ByteArray := prog_11_method_22_code
def yX9_isDigit : MethodName := ⟨RX9, "isDigit", "(I)Z"⟩
def RX10 : String := "CarpetEleven$Text"
def TX10 : u_T := fun k => match k with
  | 0 => ("CarpetEleven$Text", "code", "[I", true)
  | 1 => ("CarpetEleven$Text", "leastEnd", "I", true)
  | 2 => ("CarpetEleven$Text", "firstEnd", "I", true)
  | _ => ("CarpetEleven$Text", "stack", "[I", true)
def tyX10 : Nat → FieldType := fun k => match k with
  | 0 => .array .int
  | 1 => .int
  | 2 => .int
  | _ => .array .int
abbrev wsX100 : List Cond := u_ws RX10 TX10 4
theorem nmX10 : ∀ a, a < 4 → ∀ b, b < 4 → a ≠ b → (TX10 a).2.1 ≠ (TX10 b).2.1 := by decide +kernel
theorem tyX10_ok : ∀ k, k < 4 → parseFieldDescriptor (TX10 k).2.2.1 = some (tyX10 k) := by decide +kernel
abbrev cX10_init : ByteArray := prog_12_method_1_code
def yX10_init : MethodName := ⟨RX10, "<init>", "([IIII)V"⟩
abbrev cX10_value : ByteArray := prog_12_method_2_code
def yX10_value : MethodName := ⟨RX10, "value", "(IILCarpetEleven$Seller;LCarpetEleven$Scene;I)I"⟩
abbrev cX10_named : ByteArray := prog_12_method_3_code
def yX10_named : MethodName := ⟨RX10, "named", "(ILCarpetEleven$Seller;LCarpetEleven$Scene;I)I"⟩
abbrev cX10_joined : ByteArray := prog_12_method_4_code
def yX10_joined : MethodName := ⟨RX10, "joined", "(III)I"⟩
def RX11 : String := "CarpetEleven"
def TX11 : u_T := fun k => match k with
  | 0 => ("CarpetEleven", "kinds", "[LCarpetEleven$Kind;", true)
  | 1 => ("CarpetEleven", "folk", "[LCarpetEleven$Seller;", true)
  | 2 => ("CarpetEleven", "scene", "LCarpetEleven$Scene;", true)
  | 3 => ("CarpetEleven", "texts", "[LCarpetEleven$Text;", true)
  | 4 => ("CarpetEleven", "tape", "LCarpetEleven$Tape;", true)
  | 5 => ("CarpetEleven", "sheets", "[LCarpetEleven$Sheet;", true)
  | 6 => ("CarpetEleven", "folkCount", "I", false)
  | 7 => ("CarpetEleven", "textCount", "I", false)
  | 8 => ("CarpetEleven", "thought", "LCarpetEleven$Seller;", true)
  | 9 => ("CarpetEleven", "crowd", "[LCarpetEleven$Seller;", true)
  | 10 => ("CarpetEleven", "thoughtScene", "LCarpetEleven$Scene;", true)
  | 11 => ("CarpetEleven", "keptFolk", "[LCarpetEleven$Seller;", true)
  | 12 => ("CarpetEleven", "keptScene", "LCarpetEleven$Scene;", true)
  | _ => ("CarpetEleven", "keptCount", "I", false)
def tyX11 : Nat → FieldType := fun k => match k with
  | 0 => .array (.object "CarpetEleven$Kind")
  | 1 => .array (.object "CarpetEleven$Seller")
  | 2 => .object "CarpetEleven$Scene"
  | 3 => .array (.object "CarpetEleven$Text")
  | 4 => .object "CarpetEleven$Tape"
  | 5 => .array (.object "CarpetEleven$Sheet")
  | 6 => .int
  | 7 => .int
  | 8 => .object "CarpetEleven$Seller"
  | 9 => .array (.object "CarpetEleven$Seller")
  | 10 => .object "CarpetEleven$Scene"
  | 11 => .array (.object "CarpetEleven$Seller")
  | 12 => .object "CarpetEleven$Scene"
  | _ => .int
abbrev wsX110 : List Cond := u_ws RX11 TX11 14
theorem nmX11 : ∀ a, a < 14 → ∀ b, b < 14 → a ≠ b → (TX11 a).2.1 ≠ (TX11 b).2.1 := by decide +kernel
theorem tyX11_ok : ∀ k, k < 14 → parseFieldDescriptor (TX11 k).2.2.1 = some (tyX11 k) := by decide +kernel
abbrev cX11_init : ByteArray := prog_1_method_1_code
def yX11_init : MethodName := ⟨RX11, "<init>", "()V"⟩
abbrev cX11_seller : ByteArray := prog_1_method_2_code
def yX11_seller : MethodName := ⟨RX11, "seller", "(II)I"⟩
abbrev cX11_set : ByteArray := prog_1_method_3_code
def yX11_set : MethodName := ⟨RX11, "set", "(III)I"⟩
abbrev cX11_anew : ByteArray := prog_1_method_4_code
def yX11_anew : MethodName := ⟨RX11, "anew", "(I)I"⟩
abbrev cX11_told : ByteArray := prog_1_method_5_code
def yX11_told : MethodName := ⟨RX11, "told", "(II)I"⟩
abbrev cX11_feed : ByteArray := prog_1_method_6_code
def yX11_feed : MethodName := ⟨RX11, "feed", "(I)I"⟩
abbrev cX11_text : ByteArray := prog_1_method_7_code
def yX11_text : MethodName := ⟨RX11, "text", "()I"⟩
abbrev cX11_force : ByteArray := prog_1_method_8_code
def yX11_force : MethodName := ⟨RX11, "force", "(I)I"⟩
abbrev cX11_word : ByteArray := prog_1_method_9_code
def yX11_word : MethodName := ⟨RX11, "word", "(II)I"⟩
abbrev cX11_agree : ByteArray := prog_1_method_10_code
def yX11_agree : MethodName := ⟨RX11, "agree", "(I)I"⟩
abbrev cX11_rule : ByteArray := prog_1_method_11_code
def yX11_rule : MethodName := ⟨RX11, "rule", "(IIII)I"⟩
abbrev cX11_bestRule : ByteArray := prog_1_method_12_code
def yX11_bestRule : MethodName := ⟨RX11, "bestRule", "(II)I"⟩
abbrev cX11_bestAt : ByteArray := prog_1_method_13_code
def yX11_bestAt : MethodName := ⟨RX11, "bestAt", "(IIII)I"⟩
abbrev cX11_whom : ByteArray := prog_1_method_14_code
def yX11_whom : MethodName := ⟨RX11, "whom", "(II)I"⟩
abbrev cX11_allInTurn : ByteArray := prog_1_method_15_code
def yX11_allInTurn : MethodName := ⟨RX11, "allInTurn", "(III)I"⟩
abbrev cX11_hisCost : ByteArray := prog_1_method_16_code
def yX11_hisCost : MethodName := ⟨RX11, "hisCost", "(III)I"⟩
abbrev cX11_slipped : ByteArray := prog_1_method_17_code
def yX11_slipped : MethodName := ⟨RX11, "slipped", "(III)I"⟩
abbrev cX11_market : ByteArray := prog_1_method_18_code
def yX11_market : MethodName := ⟨RX11, "market", "(IIII)I"⟩
abbrev cX11_judge : ByteArray := prog_1_method_19_code
def yX11_judge : MethodName := ⟨RX11, "judge", "(II)I"⟩
abbrev cX11_drawn : ByteArray := prog_1_method_20_code
def yX11_drawn : MethodName := ⟨RX11, "drawn", "(II)I"⟩
abbrev cX11_odds : ByteArray := prog_1_method_21_code
def yX11_odds : MethodName := ⟨RX11, "odds", "(IIII)J"⟩
abbrev cX11_image : ByteArray := prog_1_method_22_code
def yX11_image : MethodName := ⟨RX11, "image", "()I"⟩
abbrev cX11_back : ByteArray := prog_1_method_23_code
def yX11_back : MethodName := ⟨RX11, "back", "()I"⟩
abbrev cX11_count : ByteArray := prog_1_method_24_code
def yX11_count : MethodName := ⟨RX11, "count", "(I)I"⟩
abbrev cX11_sheet : ByteArray := prog_1_method_25_code
def yX11_sheet : MethodName := ⟨RX11, "sheet", "(III)I"⟩
abbrev cX11_cell : ByteArray := prog_1_method_26_code
def yX11_cell : MethodName := ⟨RX11, "cell", "(III)I"⟩
abbrev cX11_copy : ByteArray := prog_1_method_27_code
def yX11_copy : MethodName := ⟨RX11, "copy", "(IIIII)I"⟩
abbrev cX11_sellers : ByteArray := prog_1_method_28_code
def yX11_sellers : MethodName := ⟨RX11, "sellers", "(IIII)I"⟩
abbrev cX11_taken : ByteArray := prog_1_method_29_code
def yX11_taken : MethodName := ⟨RX11, "taken", "(II)I"⟩
abbrev cX11_isSeller : ByteArray := prog_1_method_30_code
def yX11_isSeller : MethodName := ⟨RX11, "isSeller", "(I)Z"⟩
abbrev cX11_isSheet : ByteArray := prog_1_method_31_code
def yX11_isSheet : MethodName := ⟨RX11, "isSheet", "(I)Z"⟩
abbrev cX11_isBid : ByteArray := prog_1_method_32_code
def yX11_isBid : MethodName := ⟨RX11, "isBid", "(I)Z"⟩
abbrev cX11_isRule : ByteArray := prog_1_method_33_code
def yX11_isRule : MethodName := ⟨RX11, "isRule", "(II)Z"⟩
abbrev cX11_topOf : ByteArray := prog_1_method_34_code
def yX11_topOf : MethodName := ⟨RX11, "topOf", "(I)I"⟩
abbrev cX11_within : ByteArray := prog_1_method_35_code
def yX11_within : MethodName := ⟨RX11, "within", "(III)I"⟩
abbrev cX11_commonDivisor : ByteArray := prog_1_method_36_code
def yX11_commonDivisor : MethodName := ⟨RX11, "commonDivisor", "(II)I"⟩
abbrev cX11_isUnder : ByteArray := prog_1_method_37_code
def yX11_isUnder : MethodName := ⟨RX11, "isUnder", "(LCarpetEleven$Kind;I)Z"⟩
abbrev cX11_comes : ByteArray := prog_1_method_38_code
def yX11_comes : MethodName := ⟨RX11, "comes", "(II)I"⟩
abbrev cX11_setCost : ByteArray := prog_1_method_39_code
def yX11_setCost : MethodName := ⟨RX11, "setCost", "(II)I"⟩
abbrev cX11_howMany : ByteArray := prog_1_method_40_code
def yX11_howMany : MethodName := ⟨RX11, "howMany", "(I)I"⟩
abbrev cX11_endByRule : ByteArray := prog_1_method_41_code
def yX11_endByRule : MethodName := ⟨RX11, "endByRule", "(III)LCarpetEleven$Seller;"⟩
abbrev cX11_saysSo : ByteArray := prog_1_method_42_code
def yX11_saysSo : MethodName := ⟨RX11, "saysSo", "(IILCarpetEleven$Sheet;)Z"⟩
abbrev cX11_crowdHasHope : ByteArray := prog_1_method_43_code
def yX11_crowdHasHope : MethodName := ⟨RX11, "crowdHasHope", "()Z"⟩
abbrev cX11_crowdSells : ByteArray := prog_1_method_44_code
def yX11_crowdSells : MethodName := ⟨RX11, "crowdSells", "(II)I"⟩
abbrev cX11_standsBySeed : ByteArray := prog_1_method_45_code
def yX11_standsBySeed : MethodName := ⟨RX11, "standsBySeed", "(II)I"⟩
def RX12 : String := "CarpetElevenModel"
def TX12 : u_T := fun k => match k with
  | 0 => ("CarpetElevenModel", "kind", "[I", true)
  | 1 => ("CarpetElevenModel", "cost", "[I", true)
  | 2 => ("CarpetElevenModel", "number", "[I", true)
  | 3 => ("CarpetElevenModel", "said", "[I", true)
  | 4 => ("CarpetElevenModel", "cups", "[I", true)
  | 5 => ("CarpetElevenModel", "stands", "[I", true)
  | 6 => ("CarpetElevenModel", "price", "[I", true)
  | 7 => ("CarpetElevenModel", "sellers", "I", false)
  | 8 => ("CarpetElevenModel", "shoes", "I", false)
  | 9 => ("CarpetElevenModel", "hour", "I", false)
  | 10 => ("CarpetElevenModel", "limit", "I", false)
  | 11 => ("CarpetElevenModel", "theRule", "I", false)
  | 12 => ("CarpetElevenModel", "words", "[[I", true)
  | 13 => ("CarpetElevenModel", "tape", "[I", true)
  | 14 => ("CarpetElevenModel", "codes", "[I", true)
  | 15 => ("CarpetElevenModel", "codeLong", "[I", true)
  | 16 => ("CarpetElevenModel", "held", "[I", true)
  | 17 => ("CarpetElevenModel", "stack", "[I", true)
  | 18 => ("CarpetElevenModel", "taped", "I", false)
  | 19 => ("CarpetElevenModel", "texts", "I", false)
  | 20 => ("CarpetElevenModel", "next", "I", false)
  | 21 => ("CarpetElevenModel", "token", "I", false)
  | 22 => ("CarpetElevenModel", "tokenAt", "I", false)
  | 23 => ("CarpetElevenModel", "value", "I", false)
  | 24 => ("CarpetElevenModel", "open", "I", false)
  | 25 => ("CarpetElevenModel", "heldMany", "I", false)
  | 26 => ("CarpetElevenModel", "row", "I", false)
  | 27 => ("CarpetElevenModel", "kept", "[I", true)
  | 28 => ("CarpetElevenModel", "keptMany", "I", false)
  | 29 => ("CarpetElevenModel", "keptShoes", "I", false)
  | 30 => ("CarpetElevenModel", "keptHour", "I", false)
  | 31 => ("CarpetElevenModel", "keptLimit", "I", false)
  | 32 => ("CarpetElevenModel", "keptRule", "I", false)
  | 33 => ("CarpetElevenModel", "hasImage", "Z", false)
  | 34 => ("CarpetElevenModel", "spoken", "I", false)
  | 35 => ("CarpetElevenModel", "thoughtStands", "I", false)
  | 36 => ("CarpetElevenModel", "thoughtPrice", "I", false)
  | 37 => ("CarpetElevenModel", "thoughtCups", "I", false)
  | 38 => ("CarpetElevenModel", "soldMany", "I", false)
  | 39 => ("CarpetElevenModel", "soldSum", "I", false)
  | 40 => ("CarpetElevenModel", "missed", "I", false)
  | 41 => ("CarpetElevenModel", "sort", "[I", true)
  | 42 => ("CarpetElevenModel", "size", "[I", true)
  | 43 => ("CarpetElevenModel", "cells", "[I", true)
  | _ => ("CarpetElevenModel", "moved", "[I", true)
def tyX12 : Nat → FieldType := fun k => match k with
  | 0 => .array .int
  | 1 => .array .int
  | 2 => .array .int
  | 3 => .array .int
  | 4 => .array .int
  | 5 => .array .int
  | 6 => .array .int
  | 7 => .int
  | 8 => .int
  | 9 => .int
  | 10 => .int
  | 11 => .int
  | 12 => .array (.array .int)
  | 13 => .array .int
  | 14 => .array .int
  | 15 => .array .int
  | 16 => .array .int
  | 17 => .array .int
  | 18 => .int
  | 19 => .int
  | 20 => .int
  | 21 => .int
  | 22 => .int
  | 23 => .int
  | 24 => .int
  | 25 => .int
  | 26 => .int
  | 27 => .array .int
  | 28 => .int
  | 29 => .int
  | 30 => .int
  | 31 => .int
  | 32 => .int
  | 33 => .boolean
  | 34 => .int
  | 35 => .int
  | 36 => .int
  | 37 => .int
  | 38 => .int
  | 39 => .int
  | 40 => .int
  | 41 => .array .int
  | 42 => .array .int
  | 43 => .array .int
  | _ => .array .int
abbrev wsX120 : List Cond := u_ws RX12 TX12 45
theorem nmX12 : ∀ a, a < 45 → ∀ b, b < 45 → a ≠ b → (TX12 a).2.1 ≠ (TX12 b).2.1 := by decide +kernel
theorem tyX12_ok : ∀ k, k < 45 → parseFieldDescriptor (TX12 k).2.2.1 = some (tyX12 k) := by decide +kernel
abbrev cX12_init : ByteArray := prog_14_method_1_code
def yX12_init : MethodName := ⟨RX12, "<init>", "()V"⟩
abbrev cX12_isIn : ByteArray := prog_14_method_2_code
def yX12_isIn : MethodName := ⟨RX12, "isIn", "(III)Z"⟩
abbrev cX12_isSeller : ByteArray := prog_14_method_3_code
def yX12_isSeller : MethodName := ⟨RX12, "isSeller", "(I)Z"⟩
abbrev cX12_writes : ByteArray := prog_14_method_4_code
def yX12_writes : MethodName := ⟨RX12, "writes", "(I)V"⟩
abbrev cX12_firstRule : ByteArray := prog_14_method_5_code
def yX12_firstRule : MethodName := ⟨RX12, "firstRule", "()V"⟩
abbrev cX12_feed : ByteArray := prog_14_method_6_code
def yX12_feed : MethodName := ⟨RX12, "feed", "(I)I"⟩
abbrev cX12_isAt : ByteArray := prog_14_method_7_code
def yX12_isAt : MethodName := ⟨RX12, "isAt", "(II)Z"⟩
abbrev cX12_isSign : ByteArray := prog_14_method_8_code
def yX12_isSign : MethodName := ⟨RX12, "isSign", "(I)Z"⟩
abbrev cX12_isWord : ByteArray := prog_14_method_9_code
def yX12_isWord : MethodName := ⟨RX12, "isWord", "([I)Z"⟩
abbrev cX12_reads : ByteArray := prog_14_method_10_code
def yX12_reads : MethodName := ⟨RX12, "reads", "()V"⟩
abbrev cX12_top : ByteArray := prog_14_method_11_code
def yX12_top : MethodName := ⟨RX12, "top", "()I"⟩
abbrev cX12_holds : ByteArray := prog_14_method_12_code
def yX12_holds : MethodName := ⟨RX12, "holds", "(I)V"⟩
abbrev cX12_lets : ByteArray := prog_14_method_13_code
def yX12_lets : MethodName := ⟨RX12, "lets", "()V"⟩
abbrev cX12_letsFrom : ByteArray := prog_14_method_14_code
def yX12_letsFrom : MethodName := ⟨RX12, "letsFrom", "(I)V"⟩
abbrev cX12_heightOf : ByteArray := prog_14_method_15_code
def yX12_heightOf : MethodName := ⟨RX12, "heightOf", "(I)I"⟩
abbrev cX12_mayNot : ByteArray := prog_14_method_16_code
def yX12_mayNot : MethodName := ⟨RX12, "mayNot", "()Z"⟩
abbrev cX12_ahead : ByteArray := prog_14_method_17_code
def yX12_ahead : MethodName := ⟨RX12, "ahead", "()I"⟩
abbrev cX12_deedOf : ByteArray := prog_14_method_18_code
def yX12_deedOf : MethodName := ⟨RX12, "deedOf", "(I)I"⟩
abbrev cX12_behind : ByteArray := prog_14_method_19_code
def yX12_behind : MethodName := ⟨RX12, "behind", "()I"⟩
abbrev cX12_readsRow : ByteArray := prog_14_method_20_code
def yX12_readsRow : MethodName := ⟨RX12, "readsRow", "()Z"⟩
abbrev cX12_text : ByteArray := prog_14_method_21_code
def yX12_text : MethodName := ⟨RX12, "text", "()I"⟩
abbrev cX12_force : ByteArray := prog_14_method_22_code
def yX12_force : MethodName := ⟨RX12, "force", "(I)I"⟩
abbrev cX12_named : ByteArray := prog_14_method_23_code
def yX12_named : MethodName := ⟨RX12, "named", "(IIII)I"⟩
abbrev cX12_done : ByteArray := prog_14_method_24_code
def yX12_done : MethodName := ⟨RX12, "done", "(III)I"⟩
abbrev cX12_says : ByteArray := prog_14_method_25_code
def yX12_says : MethodName := ⟨RX12, "says", "(IIII)I"⟩
abbrev cX12_bounded : ByteArray := prog_14_method_26_code
def yX12_bounded : MethodName := ⟨RX12, "bounded", "(III)I"⟩
abbrev cX12_leastOf : ByteArray := prog_14_method_27_code
def yX12_leastOf : MethodName := ⟨RX12, "leastOf", "(III)I"⟩
abbrev cX12_staysOf : ByteArray := prog_14_method_28_code
def yX12_staysOf : MethodName := ⟨RX12, "staysOf", "(I)I"⟩
abbrev cX12_begins : ByteArray := prog_14_method_29_code
def yX12_begins : MethodName := ⟨RX12, "begins", "(I)V"⟩
abbrev cX12_comes : ByteArray := prog_14_method_30_code
def yX12_comes : MethodName := ⟨RX12, "comes", "(II)I"⟩
abbrev cX12_seller : ByteArray := prog_14_method_31_code
def yX12_seller : MethodName := ⟨RX12, "seller", "(II)I"⟩
abbrev cX12_set : ByteArray := prog_14_method_32_code
def yX12_set : MethodName := ⟨RX12, "set", "(III)I"⟩
abbrev cX12_anew : ByteArray := prog_14_method_33_code
def yX12_anew : MethodName := ⟨RX12, "anew", "(I)I"⟩
abbrev cX12_told : ByteArray := prog_14_method_34_code
def yX12_told : MethodName := ⟨RX12, "told", "(II)I"⟩
abbrev cX12_isUnder : ByteArray := prog_14_method_35_code
def yX12_isUnder : MethodName := ⟨RX12, "isUnder", "(II)Z"⟩
abbrev cX12_taken : ByteArray := prog_14_method_36_code
def yX12_taken : MethodName := ⟨RX12, "taken", "(II)I"⟩
abbrev cX12_stepsOf : ByteArray := prog_14_method_37_code
def yX12_stepsOf : MethodName := ⟨RX12, "stepsOf", "(II)I"⟩
abbrev cX12_doesTake : ByteArray := prog_14_method_38_code
def yX12_doesTake : MethodName := ⟨RX12, "doesTake", "(IIII)Z"⟩
abbrev cX12_speaks : ByteArray := prog_14_method_39_code
def yX12_speaks : MethodName := ⟨RX12, "speaks", "(II)I"⟩
abbrev cX12_isBid : ByteArray := prog_14_method_40_code
def yX12_isBid : MethodName := ⟨RX12, "isBid", "(I)Z"⟩
abbrev cX12_word : ByteArray := prog_14_method_41_code
def yX12_word : MethodName := ⟨RX12, "word", "(II)I"⟩
abbrev cX12_agrees : ByteArray := prog_14_method_42_code
def yX12_agrees : MethodName := ⟨RX12, "agrees", "(I)I"⟩
abbrev cX12_agree : ByteArray := prog_14_method_43_code
def yX12_agree : MethodName := ⟨RX12, "agree", "(I)I"⟩
abbrev cX12_keeps : ByteArray := prog_14_method_44_code
def yX12_keeps : MethodName := ⟨RX12, "keeps", "(I)V"⟩
abbrev cX12_putsBack : ByteArray := prog_14_method_45_code
def yX12_putsBack : MethodName := ⟨RX12, "putsBack", "(II)V"⟩
abbrev cX12_standing : ByteArray := prog_14_method_46_code
def yX12_standing : MethodName := ⟨RX12, "standing", "(I)I"⟩
abbrev cX12_image : ByteArray := prog_14_method_47_code
def yX12_image : MethodName := ⟨RX12, "image", "()I"⟩
abbrev cX12_back : ByteArray := prog_14_method_48_code
def yX12_back : MethodName := ⟨RX12, "back", "()I"⟩
abbrev cX12_bids : ByteArray := prog_14_method_49_code
def yX12_bids : MethodName := ⟨RX12, "bids", "(IIII)V"⟩
abbrev cX12_isRule : ByteArray := prog_14_method_50_code
def yX12_isRule : MethodName := ⟨RX12, "isRule", "(II)Z"⟩
abbrev cX12_thinks : ByteArray := prog_14_method_51_code
def yX12_thinks : MethodName := ⟨RX12, "thinks", "(IIIZ)I"⟩
abbrev cX12_rule : ByteArray := prog_14_method_52_code
def yX12_rule : MethodName := ⟨RX12, "rule", "(IIII)I"⟩
abbrev cX12_bestRule : ByteArray := prog_14_method_53_code
def yX12_bestRule : MethodName := ⟨RX12, "bestRule", "(II)I"⟩
abbrev cX12_bestAt : ByteArray := prog_14_method_54_code
def yX12_bestAt : MethodName := ⟨RX12, "bestAt", "(IIII)I"⟩
abbrev cX12_whom : ByteArray := prog_14_method_55_code
def yX12_whom : MethodName := ⟨RX12, "whom", "(II)I"⟩
abbrev cX12_allInTurn : ByteArray := prog_14_method_56_code
def yX12_allInTurn : MethodName := ⟨RX12, "allInTurn", "(III)I"⟩
abbrev cX12_isJustSo : ByteArray := prog_14_method_57_code
def yX12_isJustSo : MethodName := ⟨RX12, "isJustSo", "(II)Z"⟩
abbrev cX12_hisCost : ByteArray := prog_14_method_58_code
def yX12_hisCost : MethodName := ⟨RX12, "hisCost", "(III)I"⟩
abbrev cX12_slipped : ByteArray := prog_14_method_59_code
def yX12_slipped : MethodName := ⟨RX12, "slipped", "(III)I"⟩
abbrev cX12_goesBuyer : ByteArray := prog_14_method_60_code
def yX12_goesBuyer : MethodName := ⟨RX12, "goesBuyer", "(III)V"⟩
abbrev cX12_market : ByteArray := prog_14_method_61_code
def yX12_market : MethodName := ⟨RX12, "market", "(IIII)I"⟩
abbrev cX12_judge : ByteArray := prog_14_method_62_code
def yX12_judge : MethodName := ⟨RX12, "judge", "(II)I"⟩
abbrev cX12_drawnBy : ByteArray := prog_14_method_63_code
def yX12_drawnBy : MethodName := ⟨RX12, "drawnBy", "(II)I"⟩
abbrev cX12_drawn : ByteArray := prog_14_method_64_code
def yX12_drawn : MethodName := ⟨RX12, "drawn", "(II)I"⟩
abbrev cX12_divisor : ByteArray := prog_14_method_65_code
def yX12_divisor : MethodName := ⟨RX12, "divisor", "(II)I"⟩
abbrev cX12_odds : ByteArray := prog_14_method_66_code
def yX12_odds : MethodName := ⟨RX12, "odds", "(IIII)J"⟩
abbrev cX12_count : ByteArray := prog_14_method_67_code
def yX12_count : MethodName := ⟨RX12, "count", "(I)I"⟩
abbrev cX12_isSheet : ByteArray := prog_14_method_68_code
def yX12_isSheet : MethodName := ⟨RX12, "isSheet", "(I)Z"⟩
abbrev cX12_sheet : ByteArray := prog_14_method_69_code
def yX12_sheet : MethodName := ⟨RX12, "sheet", "(III)I"⟩
abbrev cX12_cell : ByteArray := prog_14_method_70_code
def yX12_cell : MethodName := ⟨RX12, "cell", "(III)I"⟩
abbrev cX12_hasCells : ByteArray := prog_14_method_71_code
def yX12_hasCells : MethodName := ⟨RX12, "hasCells", "(III)Z"⟩
abbrev cX12_copy : ByteArray := prog_14_method_72_code
def yX12_copy : MethodName := ⟨RX12, "copy", "(IIIII)I"⟩
abbrev cX12_sellers : ByteArray := prog_14_method_73_code
def yX12_sellers : MethodName := ⟨RX12, "sellers", "(IIII)I"⟩
def RJ9 : String := "java/lang/Math"
def TJ9 : u_T := fun k => match k with
  | _ => ("", "", "", false)
def tyJ9 : Nat → FieldType := fun k => match k with
  | _ => .int
abbrev wsJ90 : List Cond := u_ws RJ9 TJ9 0
theorem nmJ9 : ∀ a, a < 0 → ∀ b, b < 0 → a ≠ b → (TJ9 a).2.1 ≠ (TJ9 b).2.1 := by decide +kernel
theorem tyJ9_ok : ∀ k, k < 0 → parseFieldDescriptor (TJ9 k).2.2.1 = some (tyJ9 k) := by decide +kernel
abbrev cJ9_max_7cf53 : ByteArray := prog_15_method_65_code
def yJ9_max_7cf53 : MethodName := ⟨RJ9, "max", "(II)I"⟩
abbrev cJ9_min_7cf53 : ByteArray := prog_15_method_69_code
def yJ9_min_7cf53 : MethodName := ⟨RJ9, "min", "(II)I"⟩
def RJ0 : String := "java/lang/String"
def TJ0 : u_T := fun k => match k with
  | _ => ("", "", "", false)
def tyJ0 : Nat → FieldType := fun k => match k with
  | _ => .int
abbrev wsJ00 : List Cond := u_ws RJ0 TJ0 0
theorem nmJ0 : ∀ a, a < 0 → ∀ b, b < 0 → a ≠ b → (TJ0 a).2.1 ≠ (TJ0 b).2.1 := by decide +kernel
theorem tyJ0_ok : ∀ k, k < 0 → parseFieldDescriptor (TJ0 k).2.2.1 = some (tyJ0 k) := by decide +kernel
abbrev cJ0_length_8abf5 : ByteArray := prog_16_method_54_code
def yJ0_length_8abf5 : MethodName := ⟨RJ0, "length", "()I"⟩
abbrev cJ0_charAt_5068e : ByteArray := prog_16_method_56_code
def yJ0_charAt_5068e : MethodName := ⟨RJ0, "charAt", "(I)C"⟩
abbrev cJ0_coder_7d493 : ByteArray := prog_16_method_152_code
def yJ0_coder_7d493 : MethodName := ⟨RJ0, "coder", "()B"⟩
abbrev cJ0_isLatin1_aae02 : ByteArray := prog_16_method_154_code
def yJ0_isLatin1_aae02 : MethodName := ⟨RJ0, "isLatin1", "()Z"⟩
abbrev cJ0_checkIndex_df160 : ByteArray := prog_16_method_155_code
def yJ0_checkIndex_df160 : MethodName := ⟨RJ0, "checkIndex", "(II)V"⟩
def RJ1 : String := "java/lang/StringLatin1"
def TJ1 : u_T := fun k => match k with
  | _ => ("", "", "", false)
def tyJ1 : Nat → FieldType := fun k => match k with
  | _ => .int
abbrev wsJ10 : List Cond := u_ws RJ1 TJ1 0
theorem nmJ1 : ∀ a, a < 0 → ∀ b, b < 0 → a ≠ b → (TJ1 a).2.1 ≠ (TJ1 b).2.1 := by decide +kernel
theorem tyJ1_ok : ∀ k, k < 0 → parseFieldDescriptor (TJ1 k).2.2.1 = some (tyJ1 k) := by decide +kernel
abbrev cJ1_charAt_3b067 : ByteArray := prog_17_method_2_code
def yJ1_charAt_3b067 : MethodName := ⟨RJ1, "charAt", "([BI)C"⟩
def RJ2 : String := "java/lang/StringUTF16"
def TJ2 : u_T := fun k => match k with
  | _ => ("", "", "", false)
def tyJ2 : Nat → FieldType := fun k => match k with
  | _ => .int
abbrev wsJ20 : List Cond := u_ws RJ2 TJ2 0
theorem nmJ2 : ∀ a, a < 0 → ∀ b, b < 0 → a ≠ b → (TJ2 a).2.1 ≠ (TJ2 b).2.1 := by decide +kernel
theorem tyJ2_ok : ∀ k, k < 0 → parseFieldDescriptor (TJ2 k).2.2.1 = some (tyJ2 k) := by decide +kernel
abbrev cJ2_getChar_3b067 : ByteArray := prog_18_method_5_code
def yJ2_getChar_3b067 : MethodName := ⟨RJ2, "getChar", "([BI)C"⟩
abbrev cJ2_length_9d52b : ByteArray := prog_18_method_6_code
def yJ2_length_9d52b : MethodName := ⟨RJ2, "length", "([B)I"⟩
abbrev cJ2_charAt_3b067 : ByteArray := prog_18_method_83_code
def yJ2_charAt_3b067 : MethodName := ⟨RJ2, "charAt", "([BI)C"⟩
abbrev cJ2_checkIndex_2214a : ByteArray := prog_18_method_91_code
def yJ2_checkIndex_2214a : MethodName := ⟨RJ2, "checkIndex", "(I[B)V"⟩
def RJ10 : String := "java/lang/System"
def TJ10 : u_T := fun k => match k with
  | _ => ("", "", "", false)
def tyJ10 : Nat → FieldType := fun k => match k with
  | _ => .int
abbrev wsJ100 : List Cond := u_ws RJ10 TJ10 0
theorem nmJ10 : ∀ a, a < 0 → ∀ b, b < 0 → a ≠ b → (TJ10 a).2.1 ≠ (TJ10 b).2.1 := by decide +kernel
theorem tyJ10_ok : ∀ k, k < 0 → parseFieldDescriptor (TJ10 k).2.2.1 = some (tyJ10 k) := by decide +kernel
def RJ3 : String := "jdk/internal/util/Preconditions"
def TJ3 : u_T := fun k => match k with
  | _ => ("", "", "", false)
def tyJ3 : Nat → FieldType := fun k => match k with
  | _ => .int
abbrev wsJ30 : List Cond := u_ws RJ3 TJ3 0
theorem nmJ3 : ∀ a, a < 0 → ∀ b, b < 0 → a ≠ b → (TJ3 a).2.1 ≠ (TJ3 b).2.1 := by decide +kernel
theorem tyJ3_ok : ∀ k, k < 0 → parseFieldDescriptor (TJ3 k).2.2.1 = some (tyJ3 k) := by decide +kernel
abbrev cJ3_checkIndex_8e157 : ByteArray := prog_20_method_11_code
def yJ3_checkIndex_8e157 : MethodName := ⟨RJ3, "checkIndex", "(IILjava/util/function/BiFunction;)I"⟩
def RL : String := "CarpetElevenLaw"
abbrev cL_law : ByteArray := code
def yL_law : MethodName := ⟨RL, "law", "([I)Z"⟩
abbrev vwCl : List vw_C := [(RX0, TX0, 0), (RX1, TX1, 0), (RX2, TX2, 0), (RX3, TX3, 0), (RX4, TX4, 5), (RX5, TX5, 8), (RX6, TX6, 3), (RX7, TX7, 0), (RX8, TX8, 0), (RX9, TX9, 11), (RX10, TX10, 4), (RX11, TX11, 14), (RX12, TX12, 45)]
end
section
/-! the tables' words, by their places -/
theorem wd_0 : lw_tbl[0]? = some (Jvm.Cond.selects "CarpetEleven$Tape" ({ cls := "CarpetEleven$Tape", name := "advance", desc := "()V" } : Jvm.MethodName) ({ cls := "CarpetEleven$Tape", name := "advance", desc := "()V" } : Jvm.MethodName)) := by decide +kernel
theorem wd_1 : lw_tbl[1]? = some (Jvm.Cond.selects "CarpetEleven$Tape" ({ cls := "CarpetEleven$Tape", name := "wordToken", desc := "()I" } : Jvm.MethodName) ({ cls := "CarpetEleven$Tape", name := "wordToken", desc := "()I" } : Jvm.MethodName)) := by decide +kernel
theorem wd_2 : lw_tbl[2]? = some (Jvm.Cond.selects "CarpetEleven$Tape" ({ cls := "CarpetEleven$Tape", name := "spells", desc := "(Ljava/lang/String;)Z" } : Jvm.MethodName) ({ cls := "CarpetEleven$Tape", name := "spells", desc := "(Ljava/lang/String;)Z" } : Jvm.MethodName)) := by decide +kernel
theorem wd_3 : lw_tbl[3]? = some (Jvm.Cond.selects "CarpetEleven$Tape" ({ cls := "CarpetEleven$Tape", name := "numberToken", desc := "()I" } : Jvm.MethodName) ({ cls := "CarpetEleven$Tape", name := "numberToken", desc := "()I" } : Jvm.MethodName)) := by decide +kernel
theorem wd_4 : lw_tbl[4]? = some (Jvm.Cond.selects "CarpetEleven$Tape" ({ cls := "CarpetEleven$Tape", name := "part", desc := "(I)V" } : Jvm.MethodName) ({ cls := "CarpetEleven$Tape", name := "part", desc := "(I)V" } : Jvm.MethodName)) := by decide +kernel
theorem wd_5 : lw_tbl[5]? = some (Jvm.Cond.selects "CarpetEleven$Tape" ({ cls := "CarpetEleven$Tape", name := "expect", desc := "(I)V" } : Jvm.MethodName) ({ cls := "CarpetEleven$Tape", name := "expect", desc := "(I)V" } : Jvm.MethodName)) := by decide +kernel
theorem wd_6 : lw_tbl[6]? = some (Jvm.Cond.selects "CarpetEleven$Tape" ({ cls := "CarpetEleven$Tape", name := "fail", desc := "()V" } : Jvm.MethodName) ({ cls := "CarpetEleven$Tape", name := "fail", desc := "()V" } : Jvm.MethodName)) := by decide +kernel
theorem wd_7 : lw_tbl[7]? = some (Jvm.Cond.selects "CarpetEleven$Tape" ({ cls := "CarpetEleven$Tape", name := "either", desc := "(I)V" } : Jvm.MethodName) ({ cls := "CarpetEleven$Tape", name := "either", desc := "(I)V" } : Jvm.MethodName)) := by decide +kernel
theorem wd_8 : lw_tbl[8]? = some (Jvm.Cond.selects "CarpetEleven$Tape" ({ cls := "CarpetEleven$Tape", name := "both", desc := "(I)V" } : Jvm.MethodName) ({ cls := "CarpetEleven$Tape", name := "both", desc := "(I)V" } : Jvm.MethodName)) := by decide +kernel
theorem wd_9 : lw_tbl[9]? = some (Jvm.Cond.selects "CarpetEleven$Tape" ({ cls := "CarpetEleven$Tape", name := "denied", desc := "(I)V" } : Jvm.MethodName) ({ cls := "CarpetEleven$Tape", name := "denied", desc := "(I)V" } : Jvm.MethodName)) := by decide +kernel
theorem wd_10 : lw_tbl[10]? = some (Jvm.Cond.selects "CarpetEleven$Tape" ({ cls := "CarpetEleven$Tape", name := "emit", desc := "(I)V" } : Jvm.MethodName) ({ cls := "CarpetEleven$Tape", name := "emit", desc := "(I)V" } : Jvm.MethodName)) := by decide +kernel
theorem wd_11 : lw_tbl[11]? = some (Jvm.Cond.selects "CarpetEleven$Tape" ({ cls := "CarpetEleven$Tape", name := "sum", desc := "(I)V" } : Jvm.MethodName) ({ cls := "CarpetEleven$Tape", name := "sum", desc := "(I)V" } : Jvm.MethodName)) := by decide +kernel
theorem wd_12 : lw_tbl[12]? = some (Jvm.Cond.selects "CarpetEleven$Tape" ({ cls := "CarpetEleven$Tape", name := "term", desc := "(I)V" } : Jvm.MethodName) ({ cls := "CarpetEleven$Tape", name := "term", desc := "(I)V" } : Jvm.MethodName)) := by decide +kernel
theorem wd_13 : lw_tbl[13]? = some (Jvm.Cond.selects "CarpetEleven$Tape" ({ cls := "CarpetEleven$Tape", name := "one", desc := "(I)V" } : Jvm.MethodName) ({ cls := "CarpetEleven$Tape", name := "one", desc := "(I)V" } : Jvm.MethodName)) := by decide +kernel
theorem wd_14 : lw_tbl[14]? = some (Jvm.Cond.selects "CarpetEleven" ({ cls := "CarpetEleven", name := "comes", desc := "(II)I" } : Jvm.MethodName) ({ cls := "CarpetEleven", name := "comes", desc := "(II)I" } : Jvm.MethodName)) := by decide +kernel
theorem wd_15 : lw_tbl[15]? = some (Jvm.Cond.selects "CarpetEleven" ({ cls := "CarpetEleven", name := "setCost", desc := "(II)I" } : Jvm.MethodName) ({ cls := "CarpetEleven", name := "setCost", desc := "(II)I" } : Jvm.MethodName)) := by decide +kernel
theorem wd_16 : lw_tbl[16]? = some (Jvm.Cond.selects "CarpetEleven" ({ cls := "CarpetEleven", name := "isSeller", desc := "(I)Z" } : Jvm.MethodName) ({ cls := "CarpetEleven", name := "isSeller", desc := "(I)Z" } : Jvm.MethodName)) := by decide +kernel
theorem wd_17 : lw_tbl[17]? = some (Jvm.Cond.selects "CarpetEleven" ({ cls := "CarpetEleven", name := "endByRule", desc := "(III)LCarpetEleven$Seller;" } : Jvm.MethodName) ({ cls := "CarpetEleven", name := "endByRule", desc := "(III)LCarpetEleven$Seller;" } : Jvm.MethodName)) := by decide +kernel
theorem wd_18 : lw_tbl[18]? = some (Jvm.Cond.selects "CarpetEleven" ({ cls := "CarpetEleven", name := "saysSo", desc := "(IILCarpetEleven$Sheet;)Z" } : Jvm.MethodName) ({ cls := "CarpetEleven", name := "saysSo", desc := "(IILCarpetEleven$Sheet;)Z" } : Jvm.MethodName)) := by decide +kernel
theorem wd_19 : lw_tbl[19]? = some (Jvm.Cond.selects "CarpetEleven" ({ cls := "CarpetEleven", name := "crowdHasHope", desc := "()Z" } : Jvm.MethodName) ({ cls := "CarpetEleven", name := "crowdHasHope", desc := "()Z" } : Jvm.MethodName)) := by decide +kernel
theorem wd_20 : lw_tbl[20]? = some (Jvm.Cond.selects "CarpetEleven" ({ cls := "CarpetEleven", name := "crowdSells", desc := "(II)I" } : Jvm.MethodName) ({ cls := "CarpetEleven", name := "crowdSells", desc := "(II)I" } : Jvm.MethodName)) := by decide +kernel
theorem wd_21 : lw_tbl[21]? = some (Jvm.Cond.selects "CarpetEleven" ({ cls := "CarpetEleven", name := "standsBySeed", desc := "(II)I" } : Jvm.MethodName) ({ cls := "CarpetEleven", name := "standsBySeed", desc := "(II)I" } : Jvm.MethodName)) := by decide +kernel
theorem wd_22 : lw_tbl[22]? = some (Jvm.Cond.selects "CarpetEleven" ({ cls := "CarpetEleven", name := "howMany", desc := "(I)I" } : Jvm.MethodName) ({ cls := "CarpetEleven", name := "howMany", desc := "(I)I" } : Jvm.MethodName)) := by decide +kernel
theorem wd_23 : lw_tbl[23]? = some (Jvm.Cond.selects "CarpetElevenModel" ({ cls := "CarpetElevenModel", name := "firstRule", desc := "()V" } : Jvm.MethodName) ({ cls := "CarpetElevenModel", name := "firstRule", desc := "()V" } : Jvm.MethodName)) := by decide +kernel
theorem wd_24 : lw_tbl[24]? = some (Jvm.Cond.selects "CarpetElevenModel" ({ cls := "CarpetElevenModel", name := "writes", desc := "(I)V" } : Jvm.MethodName) ({ cls := "CarpetElevenModel", name := "writes", desc := "(I)V" } : Jvm.MethodName)) := by decide +kernel
theorem wd_25 : lw_tbl[25]? = some (Jvm.Cond.selects "CarpetElevenModel" ({ cls := "CarpetElevenModel", name := "reads", desc := "()V" } : Jvm.MethodName) ({ cls := "CarpetElevenModel", name := "reads", desc := "()V" } : Jvm.MethodName)) := by decide +kernel
theorem wd_26 : lw_tbl[26]? = some (Jvm.Cond.selects "CarpetElevenModel" ({ cls := "CarpetElevenModel", name := "isAt", desc := "(II)Z" } : Jvm.MethodName) ({ cls := "CarpetElevenModel", name := "isAt", desc := "(II)Z" } : Jvm.MethodName)) := by decide +kernel
theorem wd_27 : lw_tbl[27]? = some (Jvm.Cond.selects "CarpetElevenModel" ({ cls := "CarpetElevenModel", name := "isWord", desc := "([I)Z" } : Jvm.MethodName) ({ cls := "CarpetElevenModel", name := "isWord", desc := "([I)Z" } : Jvm.MethodName)) := by decide +kernel
theorem wd_28 : lw_tbl[28]? = some (Jvm.Cond.selects "CarpetElevenModel" ({ cls := "CarpetElevenModel", name := "readsRow", desc := "()Z" } : Jvm.MethodName) ({ cls := "CarpetElevenModel", name := "readsRow", desc := "()Z" } : Jvm.MethodName)) := by decide +kernel
theorem wd_29 : lw_tbl[29]? = some (Jvm.Cond.selects "CarpetElevenModel" ({ cls := "CarpetElevenModel", name := "ahead", desc := "()I" } : Jvm.MethodName) ({ cls := "CarpetElevenModel", name := "ahead", desc := "()I" } : Jvm.MethodName)) := by decide +kernel
theorem wd_30 : lw_tbl[30]? = some (Jvm.Cond.selects "CarpetElevenModel" ({ cls := "CarpetElevenModel", name := "mayNot", desc := "()Z" } : Jvm.MethodName) ({ cls := "CarpetElevenModel", name := "mayNot", desc := "()Z" } : Jvm.MethodName)) := by decide +kernel
theorem wd_31 : lw_tbl[31]? = some (Jvm.Cond.selects "CarpetElevenModel" ({ cls := "CarpetElevenModel", name := "top", desc := "()I" } : Jvm.MethodName) ({ cls := "CarpetElevenModel", name := "top", desc := "()I" } : Jvm.MethodName)) := by decide +kernel
theorem wd_32 : lw_tbl[32]? = some (Jvm.Cond.selects "CarpetElevenModel" ({ cls := "CarpetElevenModel", name := "holds", desc := "(I)V" } : Jvm.MethodName) ({ cls := "CarpetElevenModel", name := "holds", desc := "(I)V" } : Jvm.MethodName)) := by decide +kernel
theorem wd_33 : lw_tbl[33]? = some (Jvm.Cond.selects "CarpetElevenModel" ({ cls := "CarpetElevenModel", name := "behind", desc := "()I" } : Jvm.MethodName) ({ cls := "CarpetElevenModel", name := "behind", desc := "()I" } : Jvm.MethodName)) := by decide +kernel
theorem wd_34 : lw_tbl[34]? = some (Jvm.Cond.selects "CarpetElevenModel" ({ cls := "CarpetElevenModel", name := "letsFrom", desc := "(I)V" } : Jvm.MethodName) ({ cls := "CarpetElevenModel", name := "letsFrom", desc := "(I)V" } : Jvm.MethodName)) := by decide +kernel
theorem wd_35 : lw_tbl[35]? = some (Jvm.Cond.selects "CarpetElevenModel" ({ cls := "CarpetElevenModel", name := "lets", desc := "()V" } : Jvm.MethodName) ({ cls := "CarpetElevenModel", name := "lets", desc := "()V" } : Jvm.MethodName)) := by decide +kernel
theorem wd_36 : lw_tbl[36]? = some (Jvm.Cond.selects "CarpetElevenModel" ({ cls := "CarpetElevenModel", name := "comes", desc := "(II)I" } : Jvm.MethodName) ({ cls := "CarpetElevenModel", name := "comes", desc := "(II)I" } : Jvm.MethodName)) := by decide +kernel
theorem wd_37 : lw_tbl[37]? = some (Jvm.Cond.selects "CarpetElevenModel" ({ cls := "CarpetElevenModel", name := "begins", desc := "(I)V" } : Jvm.MethodName) ({ cls := "CarpetElevenModel", name := "begins", desc := "(I)V" } : Jvm.MethodName)) := by decide +kernel
theorem wd_38 : lw_tbl[38]? = some (Jvm.Cond.selects "CarpetElevenModel" ({ cls := "CarpetElevenModel", name := "says", desc := "(IIII)I" } : Jvm.MethodName) ({ cls := "CarpetElevenModel", name := "says", desc := "(IIII)I" } : Jvm.MethodName)) := by decide +kernel
theorem wd_39 : lw_tbl[39]? = some (Jvm.Cond.selects "CarpetElevenModel" ({ cls := "CarpetElevenModel", name := "named", desc := "(IIII)I" } : Jvm.MethodName) ({ cls := "CarpetElevenModel", name := "named", desc := "(IIII)I" } : Jvm.MethodName)) := by decide +kernel
theorem wd_40 : lw_tbl[40]? = some (Jvm.Cond.selects "CarpetElevenModel" ({ cls := "CarpetElevenModel", name := "leastOf", desc := "(III)I" } : Jvm.MethodName) ({ cls := "CarpetElevenModel", name := "leastOf", desc := "(III)I" } : Jvm.MethodName)) := by decide +kernel
theorem wd_41 : lw_tbl[41]? = some (Jvm.Cond.selects "CarpetElevenModel" ({ cls := "CarpetElevenModel", name := "isSeller", desc := "(I)Z" } : Jvm.MethodName) ({ cls := "CarpetElevenModel", name := "isSeller", desc := "(I)Z" } : Jvm.MethodName)) := by decide +kernel
theorem wd_42 : lw_tbl[42]? = some (Jvm.Cond.selects "CarpetElevenModel" ({ cls := "CarpetElevenModel", name := "staysOf", desc := "(I)I" } : Jvm.MethodName) ({ cls := "CarpetElevenModel", name := "staysOf", desc := "(I)I" } : Jvm.MethodName)) := by decide +kernel
theorem wd_43 : lw_tbl[43]? = some (Jvm.Cond.selects "CarpetElevenModel" ({ cls := "CarpetElevenModel", name := "speaks", desc := "(II)I" } : Jvm.MethodName) ({ cls := "CarpetElevenModel", name := "speaks", desc := "(II)I" } : Jvm.MethodName)) := by decide +kernel
theorem wd_44 : lw_tbl[44]? = some (Jvm.Cond.selects "CarpetElevenModel" ({ cls := "CarpetElevenModel", name := "stepsOf", desc := "(II)I" } : Jvm.MethodName) ({ cls := "CarpetElevenModel", name := "stepsOf", desc := "(II)I" } : Jvm.MethodName)) := by decide +kernel
theorem wd_45 : lw_tbl[45]? = some (Jvm.Cond.selects "CarpetElevenModel" ({ cls := "CarpetElevenModel", name := "doesTake", desc := "(IIII)Z" } : Jvm.MethodName) ({ cls := "CarpetElevenModel", name := "doesTake", desc := "(IIII)Z" } : Jvm.MethodName)) := by decide +kernel
theorem wd_46 : lw_tbl[46]? = some (Jvm.Cond.selects "CarpetElevenModel" ({ cls := "CarpetElevenModel", name := "agrees", desc := "(I)I" } : Jvm.MethodName) ({ cls := "CarpetElevenModel", name := "agrees", desc := "(I)I" } : Jvm.MethodName)) := by decide +kernel
theorem wd_47 : lw_tbl[47]? = some (Jvm.Cond.selects "CarpetElevenModel" ({ cls := "CarpetElevenModel", name := "keeps", desc := "(I)V" } : Jvm.MethodName) ({ cls := "CarpetElevenModel", name := "keeps", desc := "(I)V" } : Jvm.MethodName)) := by decide +kernel
theorem wd_48 : lw_tbl[48]? = some (Jvm.Cond.selects "CarpetElevenModel" ({ cls := "CarpetElevenModel", name := "standing", desc := "(I)I" } : Jvm.MethodName) ({ cls := "CarpetElevenModel", name := "standing", desc := "(I)I" } : Jvm.MethodName)) := by decide +kernel
theorem wd_49 : lw_tbl[49]? = some (Jvm.Cond.selects "CarpetElevenModel" ({ cls := "CarpetElevenModel", name := "putsBack", desc := "(II)V" } : Jvm.MethodName) ({ cls := "CarpetElevenModel", name := "putsBack", desc := "(II)V" } : Jvm.MethodName)) := by decide +kernel
theorem wd_50 : lw_tbl[50]? = some (Jvm.Cond.selects "CarpetElevenModel" ({ cls := "CarpetElevenModel", name := "thinks", desc := "(IIIZ)I" } : Jvm.MethodName) ({ cls := "CarpetElevenModel", name := "thinks", desc := "(IIIZ)I" } : Jvm.MethodName)) := by decide +kernel
theorem wd_51 : lw_tbl[51]? = some (Jvm.Cond.selects "CarpetElevenModel" ({ cls := "CarpetElevenModel", name := "bids", desc := "(IIII)V" } : Jvm.MethodName) ({ cls := "CarpetElevenModel", name := "bids", desc := "(IIII)V" } : Jvm.MethodName)) := by decide +kernel
theorem wd_52 : lw_tbl[52]? = some (Jvm.Cond.selects "CarpetElevenModel" ({ cls := "CarpetElevenModel", name := "isJustSo", desc := "(II)Z" } : Jvm.MethodName) ({ cls := "CarpetElevenModel", name := "isJustSo", desc := "(II)Z" } : Jvm.MethodName)) := by decide +kernel
theorem wd_53 : lw_tbl[53]? = some (Jvm.Cond.selects "CarpetElevenModel" ({ cls := "CarpetElevenModel", name := "goesBuyer", desc := "(III)V" } : Jvm.MethodName) ({ cls := "CarpetElevenModel", name := "goesBuyer", desc := "(III)V" } : Jvm.MethodName)) := by decide +kernel
theorem wd_54 : lw_tbl[54]? = some (Jvm.Cond.selects "CarpetElevenModel" ({ cls := "CarpetElevenModel", name := "drawnBy", desc := "(II)I" } : Jvm.MethodName) ({ cls := "CarpetElevenModel", name := "drawnBy", desc := "(II)I" } : Jvm.MethodName)) := by decide +kernel
theorem wd_55 : lw_tbl[55]? = some (Jvm.Cond.selects "CarpetElevenModel" ({ cls := "CarpetElevenModel", name := "hasCells", desc := "(III)Z" } : Jvm.MethodName) ({ cls := "CarpetElevenModel", name := "hasCells", desc := "(III)Z" } : Jvm.MethodName)) := by decide +kernel
theorem wd_56 : lw_tbl[56]? = some (Jvm.Cond.initialized "CarpetElevenLaw") := by decide +kernel
theorem wd_57 : lw_tbl[57]? = some (Jvm.Cond.initialized "CarpetEleven") := by decide +kernel
theorem wd_58 : lw_tbl[58]? = some (Jvm.Cond.initialized "CarpetEleven$Tape") := by decide +kernel
theorem wd_59 : lw_tbl[59]? = some (Jvm.Cond.initialized "CarpetEleven$Kind") := by decide +kernel
theorem wd_60 : lw_tbl[60]? = some (Jvm.Cond.initialized "CarpetEleven$Halver") := by decide +kernel
theorem wd_61 : lw_tbl[61]? = some (Jvm.Cond.initialized "CarpetEleven$Stiff") := by decide +kernel
theorem wd_62 : lw_tbl[62]? = some (Jvm.Cond.initialized "CarpetEleven$Slip") := by decide +kernel
theorem wd_63 : lw_tbl[63]? = some (Jvm.Cond.initialized "CarpetEleven$Brother") := by decide +kernel
theorem wd_64 : lw_tbl[64]? = some (Jvm.Cond.initialized "CarpetEleven$Eager") := by decide +kernel
theorem wd_65 : lw_tbl[65]? = some (Jvm.Cond.initialized "CarpetEleven$Seller") := by decide +kernel
theorem wd_66 : lw_tbl[66]? = some (Jvm.Cond.initialized "CarpetEleven$Sheet") := by decide +kernel
theorem wd_67 : lw_tbl[67]? = some (Jvm.Cond.initialized "java/lang/String") := by decide +kernel
theorem wd_68 : lw_tbl[68]? = some (Jvm.Cond.initialized "java/lang/StringLatin1") := by decide +kernel
theorem wd_69 : lw_tbl[69]? = some (Jvm.Cond.initialized "jdk/internal/util/Preconditions") := by decide +kernel
theorem wd_70 : lw_tbl[70]? = some (Jvm.Cond.initialized "java/lang/StringUTF16") := by decide +kernel
theorem wd_71 : lw_tbl[71]? = some (Jvm.Cond.initialized "CarpetEleven$Text") := by decide +kernel
theorem wd_72 : lw_tbl[72]? = some (Jvm.Cond.initialized "java/lang/Math") := by decide +kernel
theorem wd_73 : lw_tbl[73]? = some (Jvm.Cond.initialized "java/lang/System") := by decide +kernel
theorem wd_74 : lw_tbl[74]? = some (Jvm.Cond.initialized "CarpetEleven$Scene") := by decide +kernel
theorem wd_75 : lw_tbl[75]? = some (Jvm.Cond.initialized "CarpetElevenModel") := by decide +kernel
theorem wd_76 : lw_tbl[76]? = some (Jvm.Cond.classLink "CarpetElevenLaw" (7 : Nat) "CarpetEleven") := by decide +kernel
theorem wd_77 : lw_tbl[77]? = some (Jvm.Cond.instantiable "CarpetEleven" (14 : Nat)) := by decide +kernel
theorem wd_78 : lw_tbl[78]? = some (Jvm.Cond.methodLink "CarpetElevenLaw" (9 : Nat) ({ cls := "CarpetEleven", name := "<init>", desc := "()V" } : Jvm.MethodName)) := by decide +kernel
theorem wd_79 : lw_tbl[79]? = some (Jvm.Cond.instanceMethod ({ cls := "CarpetEleven", name := "<init>", desc := "()V" } : Jvm.MethodName)) := by decide +kernel
theorem wd_80 : lw_tbl[80]? = some (Jvm.Cond.code ({ cls := "CarpetEleven", name := "<init>", desc := "()V" } : Jvm.MethodName) prog_1_method_1_code (2 : Nat) (Option.none : Option Jvm.ClassFile.FieldType)) := by decide +kernel
theorem wd_81 : lw_tbl[81]? = some (Jvm.Cond.methodLink "CarpetEleven" (1 : Nat) ({ cls := "java/lang/Object", name := "<init>", desc := "()V" } : Jvm.MethodName)) := by decide +kernel
theorem wd_82 : lw_tbl[82]? = some (Jvm.Cond.instanceMethod ({ cls := "java/lang/Object", name := "<init>", desc := "()V" } : Jvm.MethodName)) := by decide +kernel
theorem wd_83 : lw_tbl[83]? = some (Jvm.Cond.code ({ cls := "java/lang/Object", name := "<init>", desc := "()V" } : Jvm.MethodName) object_method_1_code (1 : Nat) (Option.none : Option Jvm.ClassFile.FieldType)) := by decide +kernel
theorem wd_84 : lw_tbl[84]? = some (Jvm.Cond.classLink "CarpetEleven" (9 : Nat) "CarpetEleven$Kind") := by decide +kernel
theorem wd_85 : lw_tbl[85]? = some (Jvm.Cond.arrayOver (Jvm.ClassFile.FieldType.object "CarpetEleven$Kind")) := by decide +kernel
theorem wd_86 : lw_tbl[86]? = some (Jvm.Cond.classLink "CarpetEleven" (15 : Nat) "CarpetEleven$Seller") := by decide +kernel
theorem wd_87 : lw_tbl[87]? = some (Jvm.Cond.arrayOver (Jvm.ClassFile.FieldType.object "CarpetEleven$Seller")) := by decide +kernel
theorem wd_88 : lw_tbl[88]? = some (Jvm.Cond.classLink "CarpetEleven" (21 : Nat) "CarpetEleven$Text") := by decide +kernel
theorem wd_89 : lw_tbl[89]? = some (Jvm.Cond.arrayOver (Jvm.ClassFile.FieldType.object "CarpetEleven$Text")) := by decide +kernel
theorem wd_90 : lw_tbl[90]? = some (Jvm.Cond.classLink "CarpetEleven" (27 : Nat) "CarpetEleven$Tape") := by decide +kernel
theorem wd_91 : lw_tbl[91]? = some (Jvm.Cond.instantiable "CarpetEleven$Tape" (11 : Nat)) := by decide +kernel
theorem wd_92 : lw_tbl[92]? = some (Jvm.Cond.methodLinkNest "CarpetEleven" (29 : Nat) ({ cls := "CarpetEleven$Tape", name := "<init>", desc := "()V" } : Jvm.MethodName) "CarpetEleven") := by decide +kernel
theorem wd_93 : lw_tbl[93]? = some (Jvm.Cond.instanceMethod ({ cls := "CarpetEleven$Tape", name := "<init>", desc := "()V" } : Jvm.MethodName)) := by decide +kernel
theorem wd_94 : lw_tbl[94]? = some (Jvm.Cond.code ({ cls := "CarpetEleven$Tape", name := "<init>", desc := "()V" } : Jvm.MethodName) prog_11_method_1_code (1 : Nat) (Option.none : Option Jvm.ClassFile.FieldType)) := by decide +kernel
theorem wd_95 : lw_tbl[95]? = some (Jvm.Cond.methodLink "CarpetEleven$Tape" (3 : Nat) ({ cls := "java/lang/Object", name := "<init>", desc := "()V" } : Jvm.MethodName)) := by decide +kernel
theorem wd_96 : lw_tbl[96]? = some (Jvm.Cond.fieldLink "CarpetEleven$Tape" (9 : Nat) "CarpetEleven$Tape" "size" "I") := by decide +kernel
theorem wd_97 : lw_tbl[97]? = some (Jvm.Cond.fieldLink "CarpetEleven" (178 : Nat) "CarpetEleven$Tape" "size" "I") := by decide +kernel
theorem wd_98 : lw_tbl[98]? = some (Jvm.Cond.fieldLink "CarpetEleven$Tape" (15 : Nat) "CarpetEleven$Tape" "letters" "[I") := by decide +kernel
theorem wd_99 : lw_tbl[99]? = some (Jvm.Cond.fieldLink "CarpetEleven$Tape" (19 : Nat) "CarpetEleven$Tape" "steps" "[I") := by decide +kernel
theorem wd_100 : lw_tbl[100]? = some (Jvm.Cond.fieldLink "CarpetEleven$Tape" (22 : Nat) "CarpetEleven$Tape" "place" "I") := by decide +kernel
theorem wd_101 : lw_tbl[101]? = some (Jvm.Cond.fieldLink "CarpetEleven$Tape" (25 : Nat) "CarpetEleven$Tape" "token" "I") := by decide +kernel
theorem wd_102 : lw_tbl[102]? = some (Jvm.Cond.fieldLink "CarpetEleven$Tape" (28 : Nat) "CarpetEleven$Tape" "tokenPlace" "I") := by decide +kernel
theorem wd_103 : lw_tbl[103]? = some (Jvm.Cond.fieldLink "CarpetEleven$Tape" (31 : Nat) "CarpetEleven$Tape" "tokenNumber" "I") := by decide +kernel
theorem wd_104 : lw_tbl[104]? = some (Jvm.Cond.fieldLink "CarpetEleven$Tape" (34 : Nat) "CarpetEleven$Tape" "stepCount" "I") := by decide +kernel
theorem wd_105 : lw_tbl[105]? = some (Jvm.Cond.fieldLink "CarpetEleven$Tape" (37 : Nat) "CarpetEleven$Tape" "leastEnd" "I") := by decide +kernel
theorem wd_106 : lw_tbl[106]? = some (Jvm.Cond.fieldLink "CarpetEleven$Tape" (40 : Nat) "CarpetEleven$Tape" "firstEnd" "I") := by decide +kernel
theorem wd_107 : lw_tbl[107]? = some (Jvm.Cond.fieldLink "CarpetEleven$Tape" (43 : Nat) "CarpetEleven$Tape" "fault" "I") := by decide +kernel
theorem wd_108 : lw_tbl[108]? = some (Jvm.Cond.lays "CarpetEleven$Tape" "CarpetEleven$Tape" "size" "I") := by decide +kernel
theorem wd_109 : lw_tbl[109]? = some (Jvm.Cond.soleField "CarpetEleven$Tape" "size") := by decide +kernel
theorem wd_110 : lw_tbl[110]? = some (Jvm.Cond.laysFinal "CarpetEleven$Tape" "CarpetEleven$Tape" "letters" "[I") := by decide +kernel
theorem wd_111 : lw_tbl[111]? = some (Jvm.Cond.soleField "CarpetEleven$Tape" "letters") := by decide +kernel
theorem wd_112 : lw_tbl[112]? = some (Jvm.Cond.laysFinal "CarpetEleven$Tape" "CarpetEleven$Tape" "steps" "[I") := by decide +kernel
theorem wd_113 : lw_tbl[113]? = some (Jvm.Cond.soleField "CarpetEleven$Tape" "steps") := by decide +kernel
theorem wd_114 : lw_tbl[114]? = some (Jvm.Cond.lays "CarpetEleven$Tape" "CarpetEleven$Tape" "place" "I") := by decide +kernel
theorem wd_115 : lw_tbl[115]? = some (Jvm.Cond.soleField "CarpetEleven$Tape" "place") := by decide +kernel
theorem wd_116 : lw_tbl[116]? = some (Jvm.Cond.lays "CarpetEleven$Tape" "CarpetEleven$Tape" "token" "I") := by decide +kernel
theorem wd_117 : lw_tbl[117]? = some (Jvm.Cond.soleField "CarpetEleven$Tape" "token") := by decide +kernel
theorem wd_118 : lw_tbl[118]? = some (Jvm.Cond.lays "CarpetEleven$Tape" "CarpetEleven$Tape" "tokenPlace" "I") := by decide +kernel
theorem wd_119 : lw_tbl[119]? = some (Jvm.Cond.soleField "CarpetEleven$Tape" "tokenPlace") := by decide +kernel
theorem wd_120 : lw_tbl[120]? = some (Jvm.Cond.lays "CarpetEleven$Tape" "CarpetEleven$Tape" "tokenNumber" "I") := by decide +kernel
theorem wd_121 : lw_tbl[121]? = some (Jvm.Cond.soleField "CarpetEleven$Tape" "tokenNumber") := by decide +kernel
theorem wd_122 : lw_tbl[122]? = some (Jvm.Cond.lays "CarpetEleven$Tape" "CarpetEleven$Tape" "stepCount" "I") := by decide +kernel
theorem wd_123 : lw_tbl[123]? = some (Jvm.Cond.soleField "CarpetEleven$Tape" "stepCount") := by decide +kernel
theorem wd_124 : lw_tbl[124]? = some (Jvm.Cond.lays "CarpetEleven$Tape" "CarpetEleven$Tape" "leastEnd" "I") := by decide +kernel
theorem wd_125 : lw_tbl[125]? = some (Jvm.Cond.soleField "CarpetEleven$Tape" "leastEnd") := by decide +kernel
theorem wd_126 : lw_tbl[126]? = some (Jvm.Cond.lays "CarpetEleven$Tape" "CarpetEleven$Tape" "firstEnd" "I") := by decide +kernel
theorem wd_127 : lw_tbl[127]? = some (Jvm.Cond.soleField "CarpetEleven$Tape" "firstEnd") := by decide +kernel
theorem wd_128 : lw_tbl[128]? = some (Jvm.Cond.lays "CarpetEleven$Tape" "CarpetEleven$Tape" "fault" "I") := by decide +kernel
theorem wd_129 : lw_tbl[129]? = some (Jvm.Cond.soleField "CarpetEleven$Tape" "fault") := by decide +kernel
theorem wd_130 : lw_tbl[130]? = some (Jvm.Cond.superclass "CarpetEleven$Tape" "java/lang/Object") := by decide +kernel
theorem wd_131 : lw_tbl[131]? = some (Jvm.Cond.arrayClass Jvm.ClassFile.FieldType.int) := by decide +kernel
theorem wd_132 : lw_tbl[132]? = some (Jvm.Cond.classLink "CarpetEleven" (34 : Nat) "CarpetEleven$Sheet") := by decide +kernel
theorem wd_133 : lw_tbl[133]? = some (Jvm.Cond.arrayOver (Jvm.ClassFile.FieldType.object "CarpetEleven$Sheet")) := by decide +kernel
theorem wd_134 : lw_tbl[134]? = some (Jvm.Cond.instantiable "CarpetEleven$Kind" (0 : Nat)) := by decide +kernel
theorem wd_135 : lw_tbl[135]? = some (Jvm.Cond.methodLinkNest "CarpetEleven" (56 : Nat) ({ cls := "CarpetEleven$Kind", name := "<init>", desc := "()V" } : Jvm.MethodName) "CarpetEleven") := by decide +kernel
theorem wd_136 : lw_tbl[136]? = some (Jvm.Cond.instanceMethod ({ cls := "CarpetEleven$Kind", name := "<init>", desc := "()V" } : Jvm.MethodName)) := by decide +kernel
theorem wd_137 : lw_tbl[137]? = some (Jvm.Cond.code ({ cls := "CarpetEleven$Kind", name := "<init>", desc := "()V" } : Jvm.MethodName) prog_5_method_1_code (1 : Nat) (Option.none : Option Jvm.ClassFile.FieldType)) := by decide +kernel
theorem wd_138 : lw_tbl[138]? = some (Jvm.Cond.methodLink "CarpetEleven$Kind" (1 : Nat) ({ cls := "java/lang/Object", name := "<init>", desc := "()V" } : Jvm.MethodName)) := by decide +kernel
theorem wd_139 : lw_tbl[139]? = some (Jvm.Cond.superclass "CarpetEleven$Kind" "java/lang/Object") := by decide +kernel
theorem wd_140 : lw_tbl[140]? = some (Jvm.Cond.classLink "CarpetEleven" (57 : Nat) "CarpetEleven$Halver") := by decide +kernel
theorem wd_141 : lw_tbl[141]? = some (Jvm.Cond.instantiable "CarpetEleven$Halver" (0 : Nat)) := by decide +kernel
theorem wd_142 : lw_tbl[142]? = some (Jvm.Cond.methodLinkNest "CarpetEleven" (59 : Nat) ({ cls := "CarpetEleven$Halver", name := "<init>", desc := "()V" } : Jvm.MethodName) "CarpetEleven") := by decide +kernel
theorem wd_143 : lw_tbl[143]? = some (Jvm.Cond.instanceMethod ({ cls := "CarpetEleven$Halver", name := "<init>", desc := "()V" } : Jvm.MethodName)) := by decide +kernel
theorem wd_144 : lw_tbl[144]? = some (Jvm.Cond.code ({ cls := "CarpetEleven$Halver", name := "<init>", desc := "()V" } : Jvm.MethodName) prog_4_method_1_code (1 : Nat) (Option.none : Option Jvm.ClassFile.FieldType)) := by decide +kernel
theorem wd_145 : lw_tbl[145]? = some (Jvm.Cond.methodLinkNest "CarpetEleven$Halver" (1 : Nat) ({ cls := "CarpetEleven$Kind", name := "<init>", desc := "()V" } : Jvm.MethodName) "CarpetEleven") := by decide +kernel
theorem wd_146 : lw_tbl[146]? = some (Jvm.Cond.superclass "CarpetEleven$Halver" "CarpetEleven$Kind") := by decide +kernel
theorem wd_147 : lw_tbl[147]? = some (Jvm.Cond.classLink "CarpetEleven" (60 : Nat) "CarpetEleven$Stiff") := by decide +kernel
theorem wd_148 : lw_tbl[148]? = some (Jvm.Cond.instantiable "CarpetEleven$Stiff" (0 : Nat)) := by decide +kernel
theorem wd_149 : lw_tbl[149]? = some (Jvm.Cond.methodLinkNest "CarpetEleven" (62 : Nat) ({ cls := "CarpetEleven$Stiff", name := "<init>", desc := "()V" } : Jvm.MethodName) "CarpetEleven") := by decide +kernel
theorem wd_150 : lw_tbl[150]? = some (Jvm.Cond.instanceMethod ({ cls := "CarpetEleven$Stiff", name := "<init>", desc := "()V" } : Jvm.MethodName)) := by decide +kernel
theorem wd_151 : lw_tbl[151]? = some (Jvm.Cond.code ({ cls := "CarpetEleven$Stiff", name := "<init>", desc := "()V" } : Jvm.MethodName) prog_10_method_1_code (1 : Nat) (Option.none : Option Jvm.ClassFile.FieldType)) := by decide +kernel
theorem wd_152 : lw_tbl[152]? = some (Jvm.Cond.methodLinkNest "CarpetEleven$Stiff" (1 : Nat) ({ cls := "CarpetEleven$Kind", name := "<init>", desc := "()V" } : Jvm.MethodName) "CarpetEleven") := by decide +kernel
theorem wd_153 : lw_tbl[153]? = some (Jvm.Cond.superclass "CarpetEleven$Stiff" "CarpetEleven$Kind") := by decide +kernel
theorem wd_154 : lw_tbl[154]? = some (Jvm.Cond.classLink "CarpetEleven" (63 : Nat) "CarpetEleven$Slip") := by decide +kernel
theorem wd_155 : lw_tbl[155]? = some (Jvm.Cond.instantiable "CarpetEleven$Slip" (0 : Nat)) := by decide +kernel
theorem wd_156 : lw_tbl[156]? = some (Jvm.Cond.methodLinkNest "CarpetEleven" (65 : Nat) ({ cls := "CarpetEleven$Slip", name := "<init>", desc := "()V" } : Jvm.MethodName) "CarpetEleven") := by decide +kernel
theorem wd_157 : lw_tbl[157]? = some (Jvm.Cond.instanceMethod ({ cls := "CarpetEleven$Slip", name := "<init>", desc := "()V" } : Jvm.MethodName)) := by decide +kernel
theorem wd_158 : lw_tbl[158]? = some (Jvm.Cond.code ({ cls := "CarpetEleven$Slip", name := "<init>", desc := "()V" } : Jvm.MethodName) prog_9_method_1_code (1 : Nat) (Option.none : Option Jvm.ClassFile.FieldType)) := by decide +kernel
theorem wd_159 : lw_tbl[159]? = some (Jvm.Cond.methodLinkNest "CarpetEleven$Slip" (1 : Nat) ({ cls := "CarpetEleven$Stiff", name := "<init>", desc := "()V" } : Jvm.MethodName) "CarpetEleven") := by decide +kernel
theorem wd_160 : lw_tbl[160]? = some (Jvm.Cond.superclass "CarpetEleven$Slip" "CarpetEleven$Stiff") := by decide +kernel
theorem wd_161 : lw_tbl[161]? = some (Jvm.Cond.classLink "CarpetEleven" (66 : Nat) "CarpetEleven$Brother") := by decide +kernel
theorem wd_162 : lw_tbl[162]? = some (Jvm.Cond.instantiable "CarpetEleven$Brother" (0 : Nat)) := by decide +kernel
theorem wd_163 : lw_tbl[163]? = some (Jvm.Cond.methodLinkNest "CarpetEleven" (68 : Nat) ({ cls := "CarpetEleven$Brother", name := "<init>", desc := "()V" } : Jvm.MethodName) "CarpetEleven") := by decide +kernel
theorem wd_164 : lw_tbl[164]? = some (Jvm.Cond.instanceMethod ({ cls := "CarpetEleven$Brother", name := "<init>", desc := "()V" } : Jvm.MethodName)) := by decide +kernel
theorem wd_165 : lw_tbl[165]? = some (Jvm.Cond.code ({ cls := "CarpetEleven$Brother", name := "<init>", desc := "()V" } : Jvm.MethodName) prog_2_method_1_code (1 : Nat) (Option.none : Option Jvm.ClassFile.FieldType)) := by decide +kernel
theorem wd_166 : lw_tbl[166]? = some (Jvm.Cond.methodLinkNest "CarpetEleven$Brother" (1 : Nat) ({ cls := "CarpetEleven$Halver", name := "<init>", desc := "()V" } : Jvm.MethodName) "CarpetEleven") := by decide +kernel
theorem wd_167 : lw_tbl[167]? = some (Jvm.Cond.superclass "CarpetEleven$Brother" "CarpetEleven$Halver") := by decide +kernel
theorem wd_168 : lw_tbl[168]? = some (Jvm.Cond.classLink "CarpetEleven" (69 : Nat) "CarpetEleven$Eager") := by decide +kernel
theorem wd_169 : lw_tbl[169]? = some (Jvm.Cond.instantiable "CarpetEleven$Eager" (0 : Nat)) := by decide +kernel
theorem wd_170 : lw_tbl[170]? = some (Jvm.Cond.methodLinkNest "CarpetEleven" (71 : Nat) ({ cls := "CarpetEleven$Eager", name := "<init>", desc := "()V" } : Jvm.MethodName) "CarpetEleven") := by decide +kernel
theorem wd_171 : lw_tbl[171]? = some (Jvm.Cond.instanceMethod ({ cls := "CarpetEleven$Eager", name := "<init>", desc := "()V" } : Jvm.MethodName)) := by decide +kernel
theorem wd_172 : lw_tbl[172]? = some (Jvm.Cond.code ({ cls := "CarpetEleven$Eager", name := "<init>", desc := "()V" } : Jvm.MethodName) prog_3_method_1_code (1 : Nat) (Option.none : Option Jvm.ClassFile.FieldType)) := by decide +kernel
theorem wd_173 : lw_tbl[173]? = some (Jvm.Cond.methodLinkNest "CarpetEleven$Eager" (1 : Nat) ({ cls := "CarpetEleven$Halver", name := "<init>", desc := "()V" } : Jvm.MethodName) "CarpetEleven") := by decide +kernel
theorem wd_174 : lw_tbl[174]? = some (Jvm.Cond.superclass "CarpetEleven$Eager" "CarpetEleven$Halver") := by decide +kernel
theorem wd_175 : lw_tbl[175]? = some (Jvm.Cond.instantiable "CarpetEleven$Seller" (8 : Nat)) := by decide +kernel
theorem wd_176 : lw_tbl[176]? = some (Jvm.Cond.methodLink "CarpetEleven" (72 : Nat) ({ cls := "CarpetEleven$Seller", name := "<init>", desc := "(LCarpetEleven$Kind;)V" } : Jvm.MethodName)) := by decide +kernel
theorem wd_177 : lw_tbl[177]? = some (Jvm.Cond.instanceMethod ({ cls := "CarpetEleven$Seller", name := "<init>", desc := "(LCarpetEleven$Kind;)V" } : Jvm.MethodName)) := by decide +kernel
theorem wd_178 : lw_tbl[178]? = some (Jvm.Cond.code ({ cls := "CarpetEleven$Seller", name := "<init>", desc := "(LCarpetEleven$Kind;)V" } : Jvm.MethodName) prog_7_method_1_code (2 : Nat) (Option.none : Option Jvm.ClassFile.FieldType)) := by decide +kernel
theorem wd_179 : lw_tbl[179]? = some (Jvm.Cond.methodLink "CarpetEleven$Seller" (3 : Nat) ({ cls := "java/lang/Object", name := "<init>", desc := "()V" } : Jvm.MethodName)) := by decide +kernel
theorem wd_180 : lw_tbl[180]? = some (Jvm.Cond.fieldLink "CarpetEleven$Seller" (33 : Nat) "CarpetEleven$Seller" "kind" "LCarpetEleven$Kind;") := by decide +kernel
theorem wd_181 : lw_tbl[181]? = some (Jvm.Cond.fieldLink "CarpetEleven" (171 : Nat) "CarpetEleven$Seller" "kind" "LCarpetEleven$Kind;") := by decide +kernel
theorem wd_182 : lw_tbl[182]? = some (Jvm.Cond.fieldLink "CarpetEleven$Seller" (9 : Nat) "CarpetEleven$Seller" "kindNumber" "I") := by decide +kernel
theorem wd_183 : lw_tbl[183]? = some (Jvm.Cond.fieldLink "CarpetEleven" (149 : Nat) "CarpetEleven$Seller" "kindNumber" "I") := by decide +kernel
theorem wd_184 : lw_tbl[184]? = some (Jvm.Cond.fieldLink "CarpetEleven$Seller" (15 : Nat) "CarpetEleven$Seller" "cost" "I") := by decide +kernel
theorem wd_185 : lw_tbl[185]? = some (Jvm.Cond.fieldLink "CarpetEleven$Text" (48 : Nat) "CarpetEleven$Seller" "cost" "I") := by decide +kernel
theorem wd_186 : lw_tbl[186]? = some (Jvm.Cond.fieldLink "CarpetEleven" (152 : Nat) "CarpetEleven$Seller" "cost" "I") := by decide +kernel
theorem wd_187 : lw_tbl[187]? = some (Jvm.Cond.fieldLink "CarpetEleven$Seller" (18 : Nat) "CarpetEleven$Seller" "number" "I") := by decide +kernel
theorem wd_188 : lw_tbl[188]? = some (Jvm.Cond.fieldLink "CarpetEleven" (155 : Nat) "CarpetEleven$Seller" "number" "I") := by decide +kernel
theorem wd_189 : lw_tbl[189]? = some (Jvm.Cond.fieldLink "CarpetEleven$Seller" (21 : Nat) "CarpetEleven$Seller" "said" "I") := by decide +kernel
theorem wd_190 : lw_tbl[190]? = some (Jvm.Cond.fieldLink "CarpetEleven$Text" (61 : Nat) "CarpetEleven$Seller" "said" "I") := by decide +kernel
theorem wd_191 : lw_tbl[191]? = some (Jvm.Cond.fieldLink "CarpetEleven" (146 : Nat) "CarpetEleven$Seller" "said" "I") := by decide +kernel
theorem wd_192 : lw_tbl[192]? = some (Jvm.Cond.fieldLink "CarpetEleven$Seller" (24 : Nat) "CarpetEleven$Seller" "cups" "I") := by decide +kernel
theorem wd_193 : lw_tbl[193]? = some (Jvm.Cond.fieldLink "CarpetEleven$Text" (64 : Nat) "CarpetEleven$Seller" "cups" "I") := by decide +kernel
theorem wd_194 : lw_tbl[194]? = some (Jvm.Cond.fieldLink "CarpetEleven" (158 : Nat) "CarpetEleven$Seller" "cups" "I") := by decide +kernel
theorem wd_195 : lw_tbl[195]? = some (Jvm.Cond.fieldLink "CarpetEleven$Seller" (27 : Nat) "CarpetEleven$Seller" "stands" "I") := by decide +kernel
theorem wd_196 : lw_tbl[196]? = some (Jvm.Cond.fieldLink "CarpetEleven" (161 : Nat) "CarpetEleven$Seller" "stands" "I") := by decide +kernel
theorem wd_197 : lw_tbl[197]? = some (Jvm.Cond.fieldLink "CarpetEleven$Seller" (30 : Nat) "CarpetEleven$Seller" "price" "I") := by decide +kernel
theorem wd_198 : lw_tbl[198]? = some (Jvm.Cond.fieldLink "CarpetEleven" (164 : Nat) "CarpetEleven$Seller" "price" "I") := by decide +kernel
theorem wd_199 : lw_tbl[199]? = some (Jvm.Cond.lays "CarpetEleven$Seller" "CarpetEleven$Seller" "kind" "LCarpetEleven$Kind;") := by decide +kernel
theorem wd_200 : lw_tbl[200]? = some (Jvm.Cond.soleField "CarpetEleven$Seller" "kind") := by decide +kernel
theorem wd_201 : lw_tbl[201]? = some (Jvm.Cond.lays "CarpetEleven$Seller" "CarpetEleven$Seller" "kindNumber" "I") := by decide +kernel
theorem wd_202 : lw_tbl[202]? = some (Jvm.Cond.soleField "CarpetEleven$Seller" "kindNumber") := by decide +kernel
theorem wd_203 : lw_tbl[203]? = some (Jvm.Cond.lays "CarpetEleven$Seller" "CarpetEleven$Seller" "cost" "I") := by decide +kernel
theorem wd_204 : lw_tbl[204]? = some (Jvm.Cond.soleField "CarpetEleven$Seller" "cost") := by decide +kernel
theorem wd_205 : lw_tbl[205]? = some (Jvm.Cond.lays "CarpetEleven$Seller" "CarpetEleven$Seller" "number" "I") := by decide +kernel
theorem wd_206 : lw_tbl[206]? = some (Jvm.Cond.soleField "CarpetEleven$Seller" "number") := by decide +kernel
theorem wd_207 : lw_tbl[207]? = some (Jvm.Cond.lays "CarpetEleven$Seller" "CarpetEleven$Seller" "said" "I") := by decide +kernel
theorem wd_208 : lw_tbl[208]? = some (Jvm.Cond.soleField "CarpetEleven$Seller" "said") := by decide +kernel
theorem wd_209 : lw_tbl[209]? = some (Jvm.Cond.lays "CarpetEleven$Seller" "CarpetEleven$Seller" "cups" "I") := by decide +kernel
theorem wd_210 : lw_tbl[210]? = some (Jvm.Cond.soleField "CarpetEleven$Seller" "cups") := by decide +kernel
theorem wd_211 : lw_tbl[211]? = some (Jvm.Cond.lays "CarpetEleven$Seller" "CarpetEleven$Seller" "stands" "I") := by decide +kernel
theorem wd_212 : lw_tbl[212]? = some (Jvm.Cond.soleField "CarpetEleven$Seller" "stands") := by decide +kernel
theorem wd_213 : lw_tbl[213]? = some (Jvm.Cond.lays "CarpetEleven$Seller" "CarpetEleven$Seller" "price" "I") := by decide +kernel
theorem wd_214 : lw_tbl[214]? = some (Jvm.Cond.soleField "CarpetEleven$Seller" "price") := by decide +kernel
theorem wd_215 : lw_tbl[215]? = some (Jvm.Cond.superclass "CarpetEleven$Seller" "java/lang/Object") := by decide +kernel
theorem wd_216 : lw_tbl[216]? = some (Jvm.Cond.instantiable "CarpetEleven$Sheet" (3 : Nat)) := by decide +kernel
theorem wd_217 : lw_tbl[217]? = some (Jvm.Cond.methodLinkNest "CarpetEleven" (79 : Nat) ({ cls := "CarpetEleven$Sheet", name := "<init>", desc := "()V" } : Jvm.MethodName) "CarpetEleven") := by decide +kernel
theorem wd_218 : lw_tbl[218]? = some (Jvm.Cond.instanceMethod ({ cls := "CarpetEleven$Sheet", name := "<init>", desc := "()V" } : Jvm.MethodName)) := by decide +kernel
theorem wd_219 : lw_tbl[219]? = some (Jvm.Cond.code ({ cls := "CarpetEleven$Sheet", name := "<init>", desc := "()V" } : Jvm.MethodName) prog_8_method_1_code (1 : Nat) (Option.none : Option Jvm.ClassFile.FieldType)) := by decide +kernel
theorem wd_220 : lw_tbl[220]? = some (Jvm.Cond.methodLink "CarpetEleven$Sheet" (3 : Nat) ({ cls := "java/lang/Object", name := "<init>", desc := "()V" } : Jvm.MethodName)) := by decide +kernel
theorem wd_221 : lw_tbl[221]? = some (Jvm.Cond.fieldLink "CarpetEleven$Sheet" (9 : Nat) "CarpetEleven$Sheet" "items" "[I") := by decide +kernel
theorem wd_222 : lw_tbl[222]? = some (Jvm.Cond.fieldLink "CarpetEleven" (271 : Nat) "CarpetEleven$Sheet" "items" "[I") := by decide +kernel
theorem wd_223 : lw_tbl[223]? = some (Jvm.Cond.fieldLink "CarpetEleven$Sheet" (15 : Nat) "CarpetEleven$Sheet" "sort" "I") := by decide +kernel
theorem wd_224 : lw_tbl[224]? = some (Jvm.Cond.fieldLink "CarpetEleven" (265 : Nat) "CarpetEleven$Sheet" "sort" "I") := by decide +kernel
theorem wd_225 : lw_tbl[225]? = some (Jvm.Cond.fieldLink "CarpetEleven$Sheet" (19 : Nat) "CarpetEleven$Sheet" "size" "I") := by decide +kernel
theorem wd_226 : lw_tbl[226]? = some (Jvm.Cond.fieldLink "CarpetEleven" (223 : Nat) "CarpetEleven$Sheet" "size" "I") := by decide +kernel
theorem wd_227 : lw_tbl[227]? = some (Jvm.Cond.laysFinal "CarpetEleven$Sheet" "CarpetEleven$Sheet" "items" "[I") := by decide +kernel
theorem wd_228 : lw_tbl[228]? = some (Jvm.Cond.soleField "CarpetEleven$Sheet" "items") := by decide +kernel
theorem wd_229 : lw_tbl[229]? = some (Jvm.Cond.lays "CarpetEleven$Sheet" "CarpetEleven$Sheet" "sort" "I") := by decide +kernel
theorem wd_230 : lw_tbl[230]? = some (Jvm.Cond.soleField "CarpetEleven$Sheet" "sort") := by decide +kernel
theorem wd_231 : lw_tbl[231]? = some (Jvm.Cond.lays "CarpetEleven$Sheet" "CarpetEleven$Sheet" "size" "I") := by decide +kernel
theorem wd_232 : lw_tbl[232]? = some (Jvm.Cond.soleField "CarpetEleven$Sheet" "size") := by decide +kernel
theorem wd_233 : lw_tbl[233]? = some (Jvm.Cond.superclass "CarpetEleven$Sheet" "java/lang/Object") := by decide +kernel
theorem wd_234 : lw_tbl[234]? = some (Jvm.Cond.stringRef "CarpetEleven" (80 : Nat) "least cost + shoes * 2 - ( hour < 9 ) * 10 ; first 2 * cost + shoes * 20 ; pull 0 ;") := by decide +kernel
theorem wd_235 : lw_tbl[235]? = some (Jvm.Cond.methodLink "CarpetEleven" (82 : Nat) ({ cls := "java/lang/String", name := "length", desc := "()I" } : Jvm.MethodName)) := by decide +kernel
theorem wd_236 : lw_tbl[236]? = some (Jvm.Cond.instanceMethod ({ cls := "java/lang/String", name := "length", desc := "()I" } : Jvm.MethodName)) := by decide +kernel
theorem wd_237 : lw_tbl[237]? = some (Jvm.Cond.selects "java/lang/String" ({ cls := "java/lang/String", name := "length", desc := "()I" } : Jvm.MethodName) ({ cls := "java/lang/String", name := "length", desc := "()I" } : Jvm.MethodName)) := by decide +kernel
theorem wd_238 : lw_tbl[238]? = some (Jvm.Cond.code ({ cls := "java/lang/String", name := "length", desc := "()I" } : Jvm.MethodName) prog_16_method_54_code (1 : Nat) (Option.some Jvm.ClassFile.FieldType.int)) := by decide +kernel
theorem wd_239 : lw_tbl[239]? = some (Jvm.Cond.methodLink "java/lang/String" (335 : Nat) ({ cls := "java/lang/String", name := "coder", desc := "()B" } : Jvm.MethodName)) := by decide +kernel
theorem wd_240 : lw_tbl[240]? = some (Jvm.Cond.instanceMethod ({ cls := "java/lang/String", name := "coder", desc := "()B" } : Jvm.MethodName)) := by decide +kernel
theorem wd_241 : lw_tbl[241]? = some (Jvm.Cond.selects "java/lang/String" ({ cls := "java/lang/String", name := "coder", desc := "()B" } : Jvm.MethodName) ({ cls := "java/lang/String", name := "coder", desc := "()B" } : Jvm.MethodName)) := by decide +kernel
theorem wd_242 : lw_tbl[242]? = some (Jvm.Cond.code ({ cls := "java/lang/String", name := "coder", desc := "()B" } : Jvm.MethodName) prog_16_method_152_code (1 : Nat) (Option.some Jvm.ClassFile.FieldType.byte)) := by decide +kernel
theorem wd_243 : lw_tbl[243]? = some (Jvm.Cond.fieldLink "java/lang/String" (38 : Nat) "java/lang/String" "COMPACT_STRINGS" "Z") := by decide +kernel
theorem wd_244 : lw_tbl[244]? = some (Jvm.Cond.laysStatic "java/lang/String" "COMPACT_STRINGS" "Z") := by decide +kernel
theorem wd_245 : lw_tbl[245]? = some (Jvm.Cond.methodLink "CarpetEleven" (88 : Nat) ({ cls := "java/lang/String", name := "charAt", desc := "(I)C" } : Jvm.MethodName)) := by decide +kernel
theorem wd_246 : lw_tbl[246]? = some (Jvm.Cond.instanceMethod ({ cls := "java/lang/String", name := "charAt", desc := "(I)C" } : Jvm.MethodName)) := by decide +kernel
theorem wd_247 : lw_tbl[247]? = some (Jvm.Cond.selects "java/lang/String" ({ cls := "java/lang/String", name := "charAt", desc := "(I)C" } : Jvm.MethodName) ({ cls := "java/lang/String", name := "charAt", desc := "(I)C" } : Jvm.MethodName)) := by decide +kernel
theorem wd_248 : lw_tbl[248]? = some (Jvm.Cond.code ({ cls := "java/lang/String", name := "charAt", desc := "(I)C" } : Jvm.MethodName) prog_16_method_56_code (2 : Nat) (Option.some Jvm.ClassFile.FieldType.char)) := by decide +kernel
theorem wd_249 : lw_tbl[249]? = some (Jvm.Cond.methodLink "java/lang/String" (492 : Nat) ({ cls := "java/lang/String", name := "isLatin1", desc := "()Z" } : Jvm.MethodName)) := by decide +kernel
theorem wd_250 : lw_tbl[250]? = some (Jvm.Cond.instanceMethod ({ cls := "java/lang/String", name := "isLatin1", desc := "()Z" } : Jvm.MethodName)) := by decide +kernel
theorem wd_251 : lw_tbl[251]? = some (Jvm.Cond.selects "java/lang/String" ({ cls := "java/lang/String", name := "isLatin1", desc := "()Z" } : Jvm.MethodName) ({ cls := "java/lang/String", name := "isLatin1", desc := "()Z" } : Jvm.MethodName)) := by decide +kernel
theorem wd_252 : lw_tbl[252]? = some (Jvm.Cond.code ({ cls := "java/lang/String", name := "isLatin1", desc := "()Z" } : Jvm.MethodName) prog_16_method_154_code (1 : Nat) (Option.some Jvm.ClassFile.FieldType.boolean)) := by decide +kernel
theorem wd_253 : lw_tbl[253]? = some (Jvm.Cond.methodLink "java/lang/String" (495 : Nat) ({ cls := "java/lang/StringLatin1", name := "charAt", desc := "([BI)C" } : Jvm.MethodName)) := by decide +kernel
theorem wd_254 : lw_tbl[254]? = some (Jvm.Cond.static ({ cls := "java/lang/StringLatin1", name := "charAt", desc := "([BI)C" } : Jvm.MethodName)) := by decide +kernel
theorem wd_255 : lw_tbl[255]? = some (Jvm.Cond.code ({ cls := "java/lang/StringLatin1", name := "charAt", desc := "([BI)C" } : Jvm.MethodName) prog_17_method_2_code (2 : Nat) (Option.some Jvm.ClassFile.FieldType.char)) := by decide +kernel
theorem wd_256 : lw_tbl[256]? = some (Jvm.Cond.methodLink "java/lang/StringLatin1" (9 : Nat) ({ cls := "java/lang/String", name := "checkIndex", desc := "(II)V" } : Jvm.MethodName)) := by decide +kernel
theorem wd_257 : lw_tbl[257]? = some (Jvm.Cond.static ({ cls := "java/lang/String", name := "checkIndex", desc := "(II)V" } : Jvm.MethodName)) := by decide +kernel
theorem wd_258 : lw_tbl[258]? = some (Jvm.Cond.code ({ cls := "java/lang/String", name := "checkIndex", desc := "(II)V" } : Jvm.MethodName) prog_16_method_155_code (2 : Nat) (Option.none : Option Jvm.ClassFile.FieldType)) := by decide +kernel
theorem wd_259 : lw_tbl[259]? = some (Jvm.Cond.fieldLink "java/lang/String" (1053 : Nat) "jdk/internal/util/Preconditions" "SIOOBE_FORMATTER" "Ljava/util/function/BiFunction;") := by decide +kernel
theorem wd_260 : lw_tbl[260]? = some (Jvm.Cond.laysStatic "jdk/internal/util/Preconditions" "SIOOBE_FORMATTER" "Ljava/util/function/BiFunction;") := by decide +kernel
theorem wd_261 : lw_tbl[261]? = some (Jvm.Cond.methodLink "java/lang/String" (1059 : Nat) ({ cls := "jdk/internal/util/Preconditions", name := "checkIndex", desc := "(IILjava/util/function/BiFunction;)I" } : Jvm.MethodName)) := by decide +kernel
theorem wd_262 : lw_tbl[262]? = some (Jvm.Cond.static ({ cls := "jdk/internal/util/Preconditions", name := "checkIndex", desc := "(IILjava/util/function/BiFunction;)I" } : Jvm.MethodName)) := by decide +kernel
theorem wd_263 : lw_tbl[263]? = some (Jvm.Cond.code ({ cls := "jdk/internal/util/Preconditions", name := "checkIndex", desc := "(IILjava/util/function/BiFunction;)I" } : Jvm.MethodName) prog_20_method_11_code (3 : Nat) (Option.some Jvm.ClassFile.FieldType.int)) := by decide +kernel
theorem wd_264 : lw_tbl[264]? = some (Jvm.Cond.methodLink "java/lang/String" (498 : Nat) ({ cls := "java/lang/StringUTF16", name := "charAt", desc := "([BI)C" } : Jvm.MethodName)) := by decide +kernel
theorem wd_265 : lw_tbl[265]? = some (Jvm.Cond.static ({ cls := "java/lang/StringUTF16", name := "charAt", desc := "([BI)C" } : Jvm.MethodName)) := by decide +kernel
theorem wd_266 : lw_tbl[266]? = some (Jvm.Cond.code ({ cls := "java/lang/StringUTF16", name := "charAt", desc := "([BI)C" } : Jvm.MethodName) prog_18_method_83_code (2 : Nat) (Option.some Jvm.ClassFile.FieldType.char)) := by decide +kernel
theorem wd_267 : lw_tbl[267]? = some (Jvm.Cond.methodLink "java/lang/StringUTF16" (67 : Nat) ({ cls := "java/lang/StringUTF16", name := "checkIndex", desc := "(I[B)V" } : Jvm.MethodName)) := by decide +kernel
theorem wd_268 : lw_tbl[268]? = some (Jvm.Cond.static ({ cls := "java/lang/StringUTF16", name := "checkIndex", desc := "(I[B)V" } : Jvm.MethodName)) := by decide +kernel
theorem wd_269 : lw_tbl[269]? = some (Jvm.Cond.code ({ cls := "java/lang/StringUTF16", name := "checkIndex", desc := "(I[B)V" } : Jvm.MethodName) prog_18_method_91_code (2 : Nat) (Option.none : Option Jvm.ClassFile.FieldType)) := by decide +kernel
theorem wd_270 : lw_tbl[270]? = some (Jvm.Cond.methodLink "java/lang/StringUTF16" (48 : Nat) ({ cls := "java/lang/StringUTF16", name := "length", desc := "([B)I" } : Jvm.MethodName)) := by decide +kernel
theorem wd_271 : lw_tbl[271]? = some (Jvm.Cond.static ({ cls := "java/lang/StringUTF16", name := "length", desc := "([B)I" } : Jvm.MethodName)) := by decide +kernel
theorem wd_272 : lw_tbl[272]? = some (Jvm.Cond.code ({ cls := "java/lang/StringUTF16", name := "length", desc := "([B)I" } : Jvm.MethodName) prog_18_method_6_code (1 : Nat) (Option.some Jvm.ClassFile.FieldType.int)) := by decide +kernel
theorem wd_273 : lw_tbl[273]? = some (Jvm.Cond.methodLink "java/lang/StringUTF16" (414 : Nat) ({ cls := "java/lang/String", name := "checkIndex", desc := "(II)V" } : Jvm.MethodName)) := by decide +kernel
theorem wd_274 : lw_tbl[274]? = some (Jvm.Cond.methodLink "java/lang/StringUTF16" (71 : Nat) ({ cls := "java/lang/StringUTF16", name := "getChar", desc := "([BI)C" } : Jvm.MethodName)) := by decide +kernel
theorem wd_275 : lw_tbl[275]? = some (Jvm.Cond.static ({ cls := "java/lang/StringUTF16", name := "getChar", desc := "([BI)C" } : Jvm.MethodName)) := by decide +kernel
theorem wd_276 : lw_tbl[276]? = some (Jvm.Cond.code ({ cls := "java/lang/StringUTF16", name := "getChar", desc := "([BI)C" } : Jvm.MethodName) prog_18_method_5_code (2 : Nat) (Option.some Jvm.ClassFile.FieldType.char)) := by decide +kernel
theorem wd_277 : lw_tbl[277]? = some (Jvm.Cond.fieldLink "java/lang/StringUTF16" (44 : Nat) "java/lang/StringUTF16" "$assertionsDisabled" "Z") := by decide +kernel
theorem wd_278 : lw_tbl[278]? = some (Jvm.Cond.laysStatic "java/lang/StringUTF16" "$assertionsDisabled" "Z") := by decide +kernel
theorem wd_279 : lw_tbl[279]? = some (Jvm.Cond.fieldLink "java/lang/StringUTF16" (59 : Nat) "java/lang/StringUTF16" "HI_BYTE_SHIFT" "I") := by decide +kernel
theorem wd_280 : lw_tbl[280]? = some (Jvm.Cond.laysStatic "java/lang/StringUTF16" "HI_BYTE_SHIFT" "I") := by decide +kernel
theorem wd_281 : lw_tbl[281]? = some (Jvm.Cond.fieldLink "java/lang/StringUTF16" (63 : Nat) "java/lang/StringUTF16" "LO_BYTE_SHIFT" "I") := by decide +kernel
theorem wd_282 : lw_tbl[282]? = some (Jvm.Cond.laysStatic "java/lang/StringUTF16" "LO_BYTE_SHIFT" "I") := by decide +kernel
theorem wd_283 : lw_tbl[283]? = some (Jvm.Cond.methodLink "CarpetEleven" (92 : Nat) ({ cls := "CarpetEleven$Tape", name := "add", desc := "(I)V" } : Jvm.MethodName)) := by decide +kernel
theorem wd_284 : lw_tbl[284]? = some (Jvm.Cond.instanceMethod ({ cls := "CarpetEleven$Tape", name := "add", desc := "(I)V" } : Jvm.MethodName)) := by decide +kernel
theorem wd_285 : lw_tbl[285]? = some (Jvm.Cond.selects "CarpetEleven$Tape" ({ cls := "CarpetEleven$Tape", name := "add", desc := "(I)V" } : Jvm.MethodName) ({ cls := "CarpetEleven$Tape", name := "add", desc := "(I)V" } : Jvm.MethodName)) := by decide +kernel
theorem wd_286 : lw_tbl[286]? = some (Jvm.Cond.code ({ cls := "CarpetEleven$Tape", name := "add", desc := "(I)V" } : Jvm.MethodName) prog_11_method_2_code (2 : Nat) (Option.none : Option Jvm.ClassFile.FieldType)) := by decide +kernel
theorem wd_287 : lw_tbl[287]? = some (Jvm.Cond.methodLink "CarpetEleven" (96 : Nat) ({ cls := "CarpetEleven$Tape", name := "read", desc := "()I" } : Jvm.MethodName)) := by decide +kernel
theorem wd_288 : lw_tbl[288]? = some (Jvm.Cond.instanceMethod ({ cls := "CarpetEleven$Tape", name := "read", desc := "()I" } : Jvm.MethodName)) := by decide +kernel
theorem wd_289 : lw_tbl[289]? = some (Jvm.Cond.selects "CarpetEleven$Tape" ({ cls := "CarpetEleven$Tape", name := "read", desc := "()I" } : Jvm.MethodName) ({ cls := "CarpetEleven$Tape", name := "read", desc := "()I" } : Jvm.MethodName)) := by decide +kernel
theorem wd_290 : lw_tbl[290]? = some (Jvm.Cond.code ({ cls := "CarpetEleven$Tape", name := "read", desc := "()I" } : Jvm.MethodName) prog_11_method_3_code (1 : Nat) (Option.some Jvm.ClassFile.FieldType.int)) := by decide +kernel
theorem wd_291 : lw_tbl[291]? = some (Jvm.Cond.methodLink "CarpetEleven$Tape" (46 : Nat) ({ cls := "CarpetEleven$Tape", name := "advance", desc := "()V" } : Jvm.MethodName)) := by decide +kernel
theorem wd_292 : lw_tbl[292]? = some (Jvm.Cond.privateMethod ({ cls := "CarpetEleven$Tape", name := "advance", desc := "()V" } : Jvm.MethodName)) := by decide +kernel
theorem wd_293 : lw_tbl[293]? = some (Jvm.Cond.instanceMethod ({ cls := "CarpetEleven$Tape", name := "advance", desc := "()V" } : Jvm.MethodName)) := by decide +kernel
theorem wd_294 : lw_tbl[294]? = some (Jvm.Cond.code ({ cls := "CarpetEleven$Tape", name := "advance", desc := "()V" } : Jvm.MethodName) prog_11_method_15_code (1 : Nat) (Option.none : Option Jvm.ClassFile.FieldType)) := by decide +kernel
theorem wd_295 : lw_tbl[295]? = some (Jvm.Cond.methodLink "CarpetEleven$Tape" (85 : Nat) ({ cls := "CarpetEleven$Tape", name := "isBlank", desc := "(I)Z" } : Jvm.MethodName)) := by decide +kernel
theorem wd_296 : lw_tbl[296]? = some (Jvm.Cond.static ({ cls := "CarpetEleven$Tape", name := "isBlank", desc := "(I)Z" } : Jvm.MethodName)) := by decide +kernel
theorem wd_297 : lw_tbl[297]? = some (Jvm.Cond.code ({ cls := "CarpetEleven$Tape", name := "isBlank", desc := "(I)Z" } : Jvm.MethodName) prog_11_method_20_code (1 : Nat) (Option.some Jvm.ClassFile.FieldType.boolean)) := by decide +kernel
theorem wd_298 : lw_tbl[298]? = some (Jvm.Cond.methodLink "CarpetEleven$Tape" (89 : Nat) ({ cls := "CarpetEleven$Tape", name := "isSmallLetter", desc := "(I)Z" } : Jvm.MethodName)) := by decide +kernel
theorem wd_299 : lw_tbl[299]? = some (Jvm.Cond.static ({ cls := "CarpetEleven$Tape", name := "isSmallLetter", desc := "(I)Z" } : Jvm.MethodName)) := by decide +kernel
theorem wd_300 : lw_tbl[300]? = some (Jvm.Cond.code ({ cls := "CarpetEleven$Tape", name := "isSmallLetter", desc := "(I)Z" } : Jvm.MethodName) prog_11_method_21_code (1 : Nat) (Option.some Jvm.ClassFile.FieldType.boolean)) := by decide +kernel
theorem wd_301 : lw_tbl[301]? = some (Jvm.Cond.methodLink "CarpetEleven$Tape" (92 : Nat) ({ cls := "CarpetEleven$Tape", name := "wordToken", desc := "()I" } : Jvm.MethodName)) := by decide +kernel
theorem wd_302 : lw_tbl[302]? = some (Jvm.Cond.privateMethod ({ cls := "CarpetEleven$Tape", name := "wordToken", desc := "()I" } : Jvm.MethodName)) := by decide +kernel
theorem wd_303 : lw_tbl[303]? = some (Jvm.Cond.instanceMethod ({ cls := "CarpetEleven$Tape", name := "wordToken", desc := "()I" } : Jvm.MethodName)) := by decide +kernel
theorem wd_304 : lw_tbl[304]? = some (Jvm.Cond.code ({ cls := "CarpetEleven$Tape", name := "wordToken", desc := "()I" } : Jvm.MethodName) prog_11_method_18_code (1 : Nat) (Option.some Jvm.ClassFile.FieldType.int)) := by decide +kernel
theorem wd_305 : lw_tbl[305]? = some (Jvm.Cond.stringRef "CarpetEleven$Tape" (106 : Nat) "least") := by decide +kernel
theorem wd_306 : lw_tbl[306]? = some (Jvm.Cond.methodLink "CarpetEleven$Tape" (108 : Nat) ({ cls := "CarpetEleven$Tape", name := "spells", desc := "(Ljava/lang/String;)Z" } : Jvm.MethodName)) := by decide +kernel
theorem wd_307 : lw_tbl[307]? = some (Jvm.Cond.privateMethod ({ cls := "CarpetEleven$Tape", name := "spells", desc := "(Ljava/lang/String;)Z" } : Jvm.MethodName)) := by decide +kernel
theorem wd_308 : lw_tbl[308]? = some (Jvm.Cond.instanceMethod ({ cls := "CarpetEleven$Tape", name := "spells", desc := "(Ljava/lang/String;)Z" } : Jvm.MethodName)) := by decide +kernel
theorem wd_309 : lw_tbl[309]? = some (Jvm.Cond.code ({ cls := "CarpetEleven$Tape", name := "spells", desc := "(Ljava/lang/String;)Z" } : Jvm.MethodName) prog_11_method_19_code (3 : Nat) (Option.some Jvm.ClassFile.FieldType.boolean)) := by decide +kernel
theorem wd_310 : lw_tbl[310]? = some (Jvm.Cond.methodLink "CarpetEleven$Tape" (134 : Nat) ({ cls := "java/lang/String", name := "length", desc := "()I" } : Jvm.MethodName)) := by decide +kernel
theorem wd_311 : lw_tbl[311]? = some (Jvm.Cond.methodLink "CarpetEleven$Tape" (139 : Nat) ({ cls := "java/lang/String", name := "charAt", desc := "(I)C" } : Jvm.MethodName)) := by decide +kernel
theorem wd_312 : lw_tbl[312]? = some (Jvm.Cond.stringRef "CarpetEleven$Tape" (112 : Nat) "first") := by decide +kernel
theorem wd_313 : lw_tbl[313]? = some (Jvm.Cond.stringRef "CarpetEleven$Tape" (114 : Nat) "pull") := by decide +kernel
theorem wd_314 : lw_tbl[314]? = some (Jvm.Cond.stringRef "CarpetEleven$Tape" (116 : Nat) "or") := by decide +kernel
theorem wd_315 : lw_tbl[315]? = some (Jvm.Cond.stringRef "CarpetEleven$Tape" (118 : Nat) "and") := by decide +kernel
theorem wd_316 : lw_tbl[316]? = some (Jvm.Cond.stringRef "CarpetEleven$Tape" (120 : Nat) "not") := by decide +kernel
theorem wd_317 : lw_tbl[317]? = some (Jvm.Cond.stringRef "CarpetEleven$Tape" (122 : Nat) "cost") := by decide +kernel
theorem wd_318 : lw_tbl[318]? = some (Jvm.Cond.stringRef "CarpetEleven$Tape" (124 : Nat) "shoes") := by decide +kernel
theorem wd_319 : lw_tbl[319]? = some (Jvm.Cond.stringRef "CarpetEleven$Tape" (126 : Nat) "hour") := by decide +kernel
theorem wd_320 : lw_tbl[320]? = some (Jvm.Cond.stringRef "CarpetEleven$Tape" (128 : Nat) "bid") := by decide +kernel
theorem wd_321 : lw_tbl[321]? = some (Jvm.Cond.stringRef "CarpetEleven$Tape" (130 : Nat) "said") := by decide +kernel
theorem wd_322 : lw_tbl[322]? = some (Jvm.Cond.stringRef "CarpetEleven$Tape" (132 : Nat) "cups") := by decide +kernel
theorem wd_323 : lw_tbl[323]? = some (Jvm.Cond.methodLink "CarpetEleven$Tape" (96 : Nat) ({ cls := "CarpetEleven$Tape", name := "isDigit", desc := "(I)Z" } : Jvm.MethodName)) := by decide +kernel
theorem wd_324 : lw_tbl[324]? = some (Jvm.Cond.static ({ cls := "CarpetEleven$Tape", name := "isDigit", desc := "(I)Z" } : Jvm.MethodName)) := by decide +kernel
theorem wd_325 : lw_tbl[325]? = some (Jvm.Cond.code ({ cls := "CarpetEleven$Tape", name := "isDigit", desc := "(I)Z" } : Jvm.MethodName) prog_11_method_22_code (1 : Nat) (Option.some Jvm.ClassFile.FieldType.boolean)) := by decide +kernel
theorem wd_326 : lw_tbl[326]? = some (Jvm.Cond.methodLink "CarpetEleven$Tape" (99 : Nat) ({ cls := "CarpetEleven$Tape", name := "numberToken", desc := "()I" } : Jvm.MethodName)) := by decide +kernel
theorem wd_327 : lw_tbl[327]? = some (Jvm.Cond.privateMethod ({ cls := "CarpetEleven$Tape", name := "numberToken", desc := "()I" } : Jvm.MethodName)) := by decide +kernel
theorem wd_328 : lw_tbl[328]? = some (Jvm.Cond.instanceMethod ({ cls := "CarpetEleven$Tape", name := "numberToken", desc := "()I" } : Jvm.MethodName)) := by decide +kernel
theorem wd_329 : lw_tbl[329]? = some (Jvm.Cond.code ({ cls := "CarpetEleven$Tape", name := "numberToken", desc := "()I" } : Jvm.MethodName) prog_11_method_16_code (1 : Nat) (Option.some Jvm.ClassFile.FieldType.int)) := by decide +kernel
theorem wd_330 : lw_tbl[330]? = some (Jvm.Cond.methodLink "CarpetEleven$Tape" (102 : Nat) ({ cls := "CarpetEleven$Tape", name := "signToken", desc := "(I)I" } : Jvm.MethodName)) := by decide +kernel
theorem wd_331 : lw_tbl[331]? = some (Jvm.Cond.static ({ cls := "CarpetEleven$Tape", name := "signToken", desc := "(I)I" } : Jvm.MethodName)) := by decide +kernel
theorem wd_332 : lw_tbl[332]? = some (Jvm.Cond.code ({ cls := "CarpetEleven$Tape", name := "signToken", desc := "(I)I" } : Jvm.MethodName) prog_11_method_17_code (1 : Nat) (Option.some Jvm.ClassFile.FieldType.int)) := by decide +kernel
theorem wd_333 : lw_tbl[333]? = some (Jvm.Cond.methodLink "CarpetEleven$Tape" (49 : Nat) ({ cls := "CarpetEleven$Tape", name := "part", desc := "(I)V" } : Jvm.MethodName)) := by decide +kernel
theorem wd_334 : lw_tbl[334]? = some (Jvm.Cond.privateMethod ({ cls := "CarpetEleven$Tape", name := "part", desc := "(I)V" } : Jvm.MethodName)) := by decide +kernel
theorem wd_335 : lw_tbl[335]? = some (Jvm.Cond.instanceMethod ({ cls := "CarpetEleven$Tape", name := "part", desc := "(I)V" } : Jvm.MethodName)) := by decide +kernel
theorem wd_336 : lw_tbl[336]? = some (Jvm.Cond.code ({ cls := "CarpetEleven$Tape", name := "part", desc := "(I)V" } : Jvm.MethodName) prog_11_method_5_code (2 : Nat) (Option.none : Option Jvm.ClassFile.FieldType)) := by decide +kernel
theorem wd_337 : lw_tbl[337]? = some (Jvm.Cond.methodLink "CarpetEleven$Tape" (61 : Nat) ({ cls := "CarpetEleven$Tape", name := "expect", desc := "(I)V" } : Jvm.MethodName)) := by decide +kernel
theorem wd_338 : lw_tbl[338]? = some (Jvm.Cond.privateMethod ({ cls := "CarpetEleven$Tape", name := "expect", desc := "(I)V" } : Jvm.MethodName)) := by decide +kernel
theorem wd_339 : lw_tbl[339]? = some (Jvm.Cond.instanceMethod ({ cls := "CarpetEleven$Tape", name := "expect", desc := "(I)V" } : Jvm.MethodName)) := by decide +kernel
theorem wd_340 : lw_tbl[340]? = some (Jvm.Cond.code ({ cls := "CarpetEleven$Tape", name := "expect", desc := "(I)V" } : Jvm.MethodName) prog_11_method_6_code (2 : Nat) (Option.none : Option Jvm.ClassFile.FieldType)) := by decide +kernel
theorem wd_341 : lw_tbl[341]? = some (Jvm.Cond.methodLink "CarpetEleven$Tape" (53 : Nat) ({ cls := "CarpetEleven$Tape", name := "fail", desc := "()V" } : Jvm.MethodName)) := by decide +kernel
theorem wd_342 : lw_tbl[342]? = some (Jvm.Cond.privateMethod ({ cls := "CarpetEleven$Tape", name := "fail", desc := "()V" } : Jvm.MethodName)) := by decide +kernel
theorem wd_343 : lw_tbl[343]? = some (Jvm.Cond.instanceMethod ({ cls := "CarpetEleven$Tape", name := "fail", desc := "()V" } : Jvm.MethodName)) := by decide +kernel
theorem wd_344 : lw_tbl[344]? = some (Jvm.Cond.code ({ cls := "CarpetEleven$Tape", name := "fail", desc := "()V" } : Jvm.MethodName) prog_11_method_7_code (1 : Nat) (Option.none : Option Jvm.ClassFile.FieldType)) := by decide +kernel
theorem wd_345 : lw_tbl[345]? = some (Jvm.Cond.methodLink "CarpetEleven$Tape" (64 : Nat) ({ cls := "CarpetEleven$Tape", name := "either", desc := "(I)V" } : Jvm.MethodName)) := by decide +kernel
theorem wd_346 : lw_tbl[346]? = some (Jvm.Cond.privateMethod ({ cls := "CarpetEleven$Tape", name := "either", desc := "(I)V" } : Jvm.MethodName)) := by decide +kernel
theorem wd_347 : lw_tbl[347]? = some (Jvm.Cond.instanceMethod ({ cls := "CarpetEleven$Tape", name := "either", desc := "(I)V" } : Jvm.MethodName)) := by decide +kernel
theorem wd_348 : lw_tbl[348]? = some (Jvm.Cond.code ({ cls := "CarpetEleven$Tape", name := "either", desc := "(I)V" } : Jvm.MethodName) prog_11_method_8_code (3 : Nat) (Option.none : Option Jvm.ClassFile.FieldType)) := by decide +kernel
theorem wd_349 : lw_tbl[349]? = some (Jvm.Cond.methodLink "CarpetEleven$Tape" (67 : Nat) ({ cls := "CarpetEleven$Tape", name := "both", desc := "(I)V" } : Jvm.MethodName)) := by decide +kernel
theorem wd_350 : lw_tbl[350]? = some (Jvm.Cond.privateMethod ({ cls := "CarpetEleven$Tape", name := "both", desc := "(I)V" } : Jvm.MethodName)) := by decide +kernel
theorem wd_351 : lw_tbl[351]? = some (Jvm.Cond.instanceMethod ({ cls := "CarpetEleven$Tape", name := "both", desc := "(I)V" } : Jvm.MethodName)) := by decide +kernel
theorem wd_352 : lw_tbl[352]? = some (Jvm.Cond.code ({ cls := "CarpetEleven$Tape", name := "both", desc := "(I)V" } : Jvm.MethodName) prog_11_method_9_code (3 : Nat) (Option.none : Option Jvm.ClassFile.FieldType)) := by decide +kernel
theorem wd_353 : lw_tbl[353]? = some (Jvm.Cond.methodLink "CarpetEleven$Tape" (73 : Nat) ({ cls := "CarpetEleven$Tape", name := "denied", desc := "(I)V" } : Jvm.MethodName)) := by decide +kernel
theorem wd_354 : lw_tbl[354]? = some (Jvm.Cond.privateMethod ({ cls := "CarpetEleven$Tape", name := "denied", desc := "(I)V" } : Jvm.MethodName)) := by decide +kernel
theorem wd_355 : lw_tbl[355]? = some (Jvm.Cond.instanceMethod ({ cls := "CarpetEleven$Tape", name := "denied", desc := "(I)V" } : Jvm.MethodName)) := by decide +kernel
theorem wd_356 : lw_tbl[356]? = some (Jvm.Cond.code ({ cls := "CarpetEleven$Tape", name := "denied", desc := "(I)V" } : Jvm.MethodName) prog_11_method_10_code (3 : Nat) (Option.none : Option Jvm.ClassFile.FieldType)) := by decide +kernel
theorem wd_357 : lw_tbl[357]? = some (Jvm.Cond.methodLink "CarpetEleven$Tape" (70 : Nat) ({ cls := "CarpetEleven$Tape", name := "emit", desc := "(I)V" } : Jvm.MethodName)) := by decide +kernel
theorem wd_358 : lw_tbl[358]? = some (Jvm.Cond.privateMethod ({ cls := "CarpetEleven$Tape", name := "emit", desc := "(I)V" } : Jvm.MethodName)) := by decide +kernel
theorem wd_359 : lw_tbl[359]? = some (Jvm.Cond.instanceMethod ({ cls := "CarpetEleven$Tape", name := "emit", desc := "(I)V" } : Jvm.MethodName)) := by decide +kernel
theorem wd_360 : lw_tbl[360]? = some (Jvm.Cond.code ({ cls := "CarpetEleven$Tape", name := "emit", desc := "(I)V" } : Jvm.MethodName) prog_11_method_14_code (2 : Nat) (Option.none : Option Jvm.ClassFile.FieldType)) := by decide +kernel
theorem wd_361 : lw_tbl[361]? = some (Jvm.Cond.methodLink "CarpetEleven$Tape" (76 : Nat) ({ cls := "CarpetEleven$Tape", name := "sum", desc := "(I)V" } : Jvm.MethodName)) := by decide +kernel
theorem wd_362 : lw_tbl[362]? = some (Jvm.Cond.privateMethod ({ cls := "CarpetEleven$Tape", name := "sum", desc := "(I)V" } : Jvm.MethodName)) := by decide +kernel
theorem wd_363 : lw_tbl[363]? = some (Jvm.Cond.instanceMethod ({ cls := "CarpetEleven$Tape", name := "sum", desc := "(I)V" } : Jvm.MethodName)) := by decide +kernel
theorem wd_364 : lw_tbl[364]? = some (Jvm.Cond.code ({ cls := "CarpetEleven$Tape", name := "sum", desc := "(I)V" } : Jvm.MethodName) prog_11_method_11_code (4 : Nat) (Option.none : Option Jvm.ClassFile.FieldType)) := by decide +kernel
theorem wd_365 : lw_tbl[365]? = some (Jvm.Cond.methodLink "CarpetEleven$Tape" (79 : Nat) ({ cls := "CarpetEleven$Tape", name := "term", desc := "(I)V" } : Jvm.MethodName)) := by decide +kernel
theorem wd_366 : lw_tbl[366]? = some (Jvm.Cond.privateMethod ({ cls := "CarpetEleven$Tape", name := "term", desc := "(I)V" } : Jvm.MethodName)) := by decide +kernel
theorem wd_367 : lw_tbl[367]? = some (Jvm.Cond.instanceMethod ({ cls := "CarpetEleven$Tape", name := "term", desc := "(I)V" } : Jvm.MethodName)) := by decide +kernel
theorem wd_368 : lw_tbl[368]? = some (Jvm.Cond.code ({ cls := "CarpetEleven$Tape", name := "term", desc := "(I)V" } : Jvm.MethodName) prog_11_method_12_code (3 : Nat) (Option.none : Option Jvm.ClassFile.FieldType)) := by decide +kernel
theorem wd_369 : lw_tbl[369]? = some (Jvm.Cond.methodLink "CarpetEleven$Tape" (82 : Nat) ({ cls := "CarpetEleven$Tape", name := "one", desc := "(I)V" } : Jvm.MethodName)) := by decide +kernel
theorem wd_370 : lw_tbl[370]? = some (Jvm.Cond.privateMethod ({ cls := "CarpetEleven$Tape", name := "one", desc := "(I)V" } : Jvm.MethodName)) := by decide +kernel
theorem wd_371 : lw_tbl[371]? = some (Jvm.Cond.instanceMethod ({ cls := "CarpetEleven$Tape", name := "one", desc := "(I)V" } : Jvm.MethodName)) := by decide +kernel
theorem wd_372 : lw_tbl[372]? = some (Jvm.Cond.code ({ cls := "CarpetEleven$Tape", name := "one", desc := "(I)V" } : Jvm.MethodName) prog_11_method_13_code (2 : Nat) (Option.none : Option Jvm.ClassFile.FieldType)) := by decide +kernel
theorem wd_373 : lw_tbl[373]? = some (Jvm.Cond.methodLink "CarpetEleven" (99 : Nat) ({ cls := "CarpetEleven$Tape", name := "made", desc := "()LCarpetEleven$Text;" } : Jvm.MethodName)) := by decide +kernel
theorem wd_374 : lw_tbl[374]? = some (Jvm.Cond.instanceMethod ({ cls := "CarpetEleven$Tape", name := "made", desc := "()LCarpetEleven$Text;" } : Jvm.MethodName)) := by decide +kernel
theorem wd_375 : lw_tbl[375]? = some (Jvm.Cond.selects "CarpetEleven$Tape" ({ cls := "CarpetEleven$Tape", name := "made", desc := "()LCarpetEleven$Text;" } : Jvm.MethodName) ({ cls := "CarpetEleven$Tape", name := "made", desc := "()LCarpetEleven$Text;" } : Jvm.MethodName)) := by decide +kernel
theorem wd_376 : lw_tbl[376]? = some (Jvm.Cond.code ({ cls := "CarpetEleven$Tape", name := "made", desc := "()LCarpetEleven$Text;" } : Jvm.MethodName) prog_11_method_4_code (1 : Nat) (Option.some (Jvm.ClassFile.FieldType.object "CarpetEleven$Text"))) := by decide +kernel
theorem wd_377 : lw_tbl[377]? = some (Jvm.Cond.classLink "CarpetEleven$Tape" (56 : Nat) "CarpetEleven$Text") := by decide +kernel
theorem wd_378 : lw_tbl[378]? = some (Jvm.Cond.instantiable "CarpetEleven$Text" (4 : Nat)) := by decide +kernel
theorem wd_379 : lw_tbl[379]? = some (Jvm.Cond.methodLink "CarpetEleven$Tape" (58 : Nat) ({ cls := "CarpetEleven$Text", name := "<init>", desc := "([IIII)V" } : Jvm.MethodName)) := by decide +kernel
theorem wd_380 : lw_tbl[380]? = some (Jvm.Cond.instanceMethod ({ cls := "CarpetEleven$Text", name := "<init>", desc := "([IIII)V" } : Jvm.MethodName)) := by decide +kernel
theorem wd_381 : lw_tbl[381]? = some (Jvm.Cond.code ({ cls := "CarpetEleven$Text", name := "<init>", desc := "([IIII)V" } : Jvm.MethodName) prog_12_method_1_code (6 : Nat) (Option.none : Option Jvm.ClassFile.FieldType)) := by decide +kernel
theorem wd_382 : lw_tbl[382]? = some (Jvm.Cond.methodLink "CarpetEleven$Text" (1 : Nat) ({ cls := "java/lang/Object", name := "<init>", desc := "()V" } : Jvm.MethodName)) := by decide +kernel
theorem wd_383 : lw_tbl[383]? = some (Jvm.Cond.methodLinkNest "CarpetEleven$Text" (7 : Nat) ({ cls := "CarpetEleven", name := "within", desc := "(III)I" } : Jvm.MethodName) "CarpetEleven") := by decide +kernel
theorem wd_384 : lw_tbl[384]? = some (Jvm.Cond.static ({ cls := "CarpetEleven", name := "within", desc := "(III)I" } : Jvm.MethodName)) := by decide +kernel
theorem wd_385 : lw_tbl[385]? = some (Jvm.Cond.code ({ cls := "CarpetEleven", name := "within", desc := "(III)I" } : Jvm.MethodName) prog_1_method_35_code (3 : Nat) (Option.some Jvm.ClassFile.FieldType.int)) := by decide +kernel
theorem wd_386 : lw_tbl[386]? = some (Jvm.Cond.methodLink "CarpetEleven" (285 : Nat) ({ cls := "java/lang/Math", name := "min", desc := "(II)I" } : Jvm.MethodName)) := by decide +kernel
theorem wd_387 : lw_tbl[387]? = some (Jvm.Cond.static ({ cls := "java/lang/Math", name := "min", desc := "(II)I" } : Jvm.MethodName)) := by decide +kernel
theorem wd_388 : lw_tbl[388]? = some (Jvm.Cond.code ({ cls := "java/lang/Math", name := "min", desc := "(II)I" } : Jvm.MethodName) prog_15_method_69_code (2 : Nat) (Option.some Jvm.ClassFile.FieldType.int)) := by decide +kernel
theorem wd_389 : lw_tbl[389]? = some (Jvm.Cond.methodLink "CarpetEleven" (290 : Nat) ({ cls := "java/lang/Math", name := "max", desc := "(II)I" } : Jvm.MethodName)) := by decide +kernel
theorem wd_390 : lw_tbl[390]? = some (Jvm.Cond.static ({ cls := "java/lang/Math", name := "max", desc := "(II)I" } : Jvm.MethodName)) := by decide +kernel
theorem wd_391 : lw_tbl[391]? = some (Jvm.Cond.code ({ cls := "java/lang/Math", name := "max", desc := "(II)I" } : Jvm.MethodName) prog_15_method_65_code (2 : Nat) (Option.some Jvm.ClassFile.FieldType.int)) := by decide +kernel
theorem wd_392 : lw_tbl[392]? = some (Jvm.Cond.methodLink "CarpetEleven$Text" (29 : Nat) ({ cls := "java/lang/System", name := "arraycopy", desc := "(Ljava/lang/Object;ILjava/lang/Object;II)V" } : Jvm.MethodName)) := by decide +kernel
theorem wd_393 : lw_tbl[393]? = some (Jvm.Cond.static ({ cls := "java/lang/System", name := "arraycopy", desc := "(Ljava/lang/Object;ILjava/lang/Object;II)V" } : Jvm.MethodName)) := by decide +kernel
theorem wd_394 : lw_tbl[394]? = some (Jvm.Cond.native ({ cls := "java/lang/System", name := "arraycopy", desc := "(Ljava/lang/Object;ILjava/lang/Object;II)V" } : Jvm.MethodName)) := by decide +kernel
theorem wd_395 : lw_tbl[395]? = some (Jvm.Cond.fieldLink "CarpetEleven$Text" (13 : Nat) "CarpetEleven$Text" "code" "[I") := by decide +kernel
theorem wd_396 : lw_tbl[396]? = some (Jvm.Cond.fieldLink "CarpetEleven$Scene" (48 : Nat) "CarpetEleven$Text" "code" "[I") := by decide +kernel
theorem wd_397 : lw_tbl[397]? = some (Jvm.Cond.fieldLink "CarpetEleven$Text" (22 : Nat) "CarpetEleven$Text" "leastEnd" "I") := by decide +kernel
theorem wd_398 : lw_tbl[398]? = some (Jvm.Cond.fieldLink "CarpetEleven$Scene" (28 : Nat) "CarpetEleven$Text" "leastEnd" "I") := by decide +kernel
theorem wd_399 : lw_tbl[399]? = some (Jvm.Cond.fieldLink "CarpetEleven$Text" (26 : Nat) "CarpetEleven$Text" "firstEnd" "I") := by decide +kernel
theorem wd_400 : lw_tbl[400]? = some (Jvm.Cond.fieldLink "CarpetEleven$Scene" (41 : Nat) "CarpetEleven$Text" "firstEnd" "I") := by decide +kernel
theorem wd_401 : lw_tbl[401]? = some (Jvm.Cond.fieldLink "CarpetEleven$Text" (19 : Nat) "CarpetEleven$Text" "stack" "[I") := by decide +kernel
theorem wd_402 : lw_tbl[402]? = some (Jvm.Cond.laysFinal "CarpetEleven$Text" "CarpetEleven$Text" "code" "[I") := by decide +kernel
theorem wd_403 : lw_tbl[403]? = some (Jvm.Cond.soleField "CarpetEleven$Text" "code") := by decide +kernel
theorem wd_404 : lw_tbl[404]? = some (Jvm.Cond.laysFinal "CarpetEleven$Text" "CarpetEleven$Text" "leastEnd" "I") := by decide +kernel
theorem wd_405 : lw_tbl[405]? = some (Jvm.Cond.soleField "CarpetEleven$Text" "leastEnd") := by decide +kernel
theorem wd_406 : lw_tbl[406]? = some (Jvm.Cond.laysFinal "CarpetEleven$Text" "CarpetEleven$Text" "firstEnd" "I") := by decide +kernel
theorem wd_407 : lw_tbl[407]? = some (Jvm.Cond.soleField "CarpetEleven$Text" "firstEnd") := by decide +kernel
theorem wd_408 : lw_tbl[408]? = some (Jvm.Cond.laysFinal "CarpetEleven$Text" "CarpetEleven$Text" "stack" "[I") := by decide +kernel
theorem wd_409 : lw_tbl[409]? = some (Jvm.Cond.soleField "CarpetEleven$Text" "stack") := by decide +kernel
theorem wd_410 : lw_tbl[410]? = some (Jvm.Cond.superclass "CarpetEleven$Text" "java/lang/Object") := by decide +kernel
theorem wd_411 : lw_tbl[411]? = some (Jvm.Cond.arrayClass Jvm.ClassFile.FieldType.byte) := by decide +kernel
theorem wd_412 : lw_tbl[412]? = some (Jvm.Cond.classLink "CarpetEleven" (103 : Nat) "CarpetEleven$Scene") := by decide +kernel
theorem wd_413 : lw_tbl[413]? = some (Jvm.Cond.instantiable "CarpetEleven$Scene" (5 : Nat)) := by decide +kernel
theorem wd_414 : lw_tbl[414]? = some (Jvm.Cond.methodLink "CarpetEleven" (105 : Nat) ({ cls := "CarpetEleven$Scene", name := "<init>", desc := "(LCarpetEleven$Text;)V" } : Jvm.MethodName)) := by decide +kernel
theorem wd_415 : lw_tbl[415]? = some (Jvm.Cond.instanceMethod ({ cls := "CarpetEleven$Scene", name := "<init>", desc := "(LCarpetEleven$Text;)V" } : Jvm.MethodName)) := by decide +kernel
theorem wd_416 : lw_tbl[416]? = some (Jvm.Cond.code ({ cls := "CarpetEleven$Scene", name := "<init>", desc := "(LCarpetEleven$Text;)V" } : Jvm.MethodName) prog_6_method_1_code (2 : Nat) (Option.none : Option Jvm.ClassFile.FieldType)) := by decide +kernel
theorem wd_417 : lw_tbl[417]? = some (Jvm.Cond.methodLink "CarpetEleven$Scene" (3 : Nat) ({ cls := "java/lang/Object", name := "<init>", desc := "()V" } : Jvm.MethodName)) := by decide +kernel
theorem wd_418 : lw_tbl[418]? = some (Jvm.Cond.fieldLink "CarpetEleven$Scene" (9 : Nat) "CarpetEleven$Scene" "shoes" "I") := by decide +kernel
theorem wd_419 : lw_tbl[419]? = some (Jvm.Cond.fieldLink "CarpetEleven$Text" (53 : Nat) "CarpetEleven$Scene" "shoes" "I") := by decide +kernel
theorem wd_420 : lw_tbl[420]? = some (Jvm.Cond.fieldLink "CarpetEleven" (129 : Nat) "CarpetEleven$Scene" "shoes" "I") := by decide +kernel
theorem wd_421 : lw_tbl[421]? = some (Jvm.Cond.fieldLink "CarpetEleven$Scene" (15 : Nat) "CarpetEleven$Scene" "hour" "I") := by decide +kernel
theorem wd_422 : lw_tbl[422]? = some (Jvm.Cond.fieldLink "CarpetEleven$Text" (58 : Nat) "CarpetEleven$Scene" "hour" "I") := by decide +kernel
theorem wd_423 : lw_tbl[423]? = some (Jvm.Cond.fieldLink "CarpetEleven" (132 : Nat) "CarpetEleven$Scene" "hour" "I") := by decide +kernel
theorem wd_424 : lw_tbl[424]? = some (Jvm.Cond.fieldLink "CarpetEleven$Seller" (51 : Nat) "CarpetEleven$Scene" "hour" "I") := by decide +kernel
theorem wd_425 : lw_tbl[425]? = some (Jvm.Cond.fieldLink "CarpetEleven$Scene" (18 : Nat) "CarpetEleven$Scene" "limit" "I") := by decide +kernel
theorem wd_426 : lw_tbl[426]? = some (Jvm.Cond.fieldLink "CarpetEleven" (135 : Nat) "CarpetEleven$Scene" "limit" "I") := by decide +kernel
theorem wd_427 : lw_tbl[427]? = some (Jvm.Cond.fieldLink "CarpetEleven$Seller" (84 : Nat) "CarpetEleven$Scene" "limit" "I") := by decide +kernel
theorem wd_428 : lw_tbl[428]? = some (Jvm.Cond.fieldLink "CarpetEleven$Scene" (21 : Nat) "CarpetEleven$Scene" "textNumber" "I") := by decide +kernel
theorem wd_429 : lw_tbl[429]? = some (Jvm.Cond.fieldLink "CarpetEleven" (181 : Nat) "CarpetEleven$Scene" "textNumber" "I") := by decide +kernel
theorem wd_430 : lw_tbl[430]? = some (Jvm.Cond.fieldLink "CarpetEleven$Scene" (24 : Nat) "CarpetEleven$Scene" "text" "LCarpetEleven$Text;") := by decide +kernel
theorem wd_431 : lw_tbl[431]? = some (Jvm.Cond.fieldLink "CarpetEleven" (184 : Nat) "CarpetEleven$Scene" "text" "LCarpetEleven$Text;") := by decide +kernel
theorem wd_432 : lw_tbl[432]? = some (Jvm.Cond.lays "CarpetEleven$Scene" "CarpetEleven$Scene" "shoes" "I") := by decide +kernel
theorem wd_433 : lw_tbl[433]? = some (Jvm.Cond.soleField "CarpetEleven$Scene" "shoes") := by decide +kernel
theorem wd_434 : lw_tbl[434]? = some (Jvm.Cond.lays "CarpetEleven$Scene" "CarpetEleven$Scene" "hour" "I") := by decide +kernel
theorem wd_435 : lw_tbl[435]? = some (Jvm.Cond.soleField "CarpetEleven$Scene" "hour") := by decide +kernel
theorem wd_436 : lw_tbl[436]? = some (Jvm.Cond.lays "CarpetEleven$Scene" "CarpetEleven$Scene" "limit" "I") := by decide +kernel
theorem wd_437 : lw_tbl[437]? = some (Jvm.Cond.soleField "CarpetEleven$Scene" "limit") := by decide +kernel
theorem wd_438 : lw_tbl[438]? = some (Jvm.Cond.lays "CarpetEleven$Scene" "CarpetEleven$Scene" "textNumber" "I") := by decide +kernel
theorem wd_439 : lw_tbl[439]? = some (Jvm.Cond.soleField "CarpetEleven$Scene" "textNumber") := by decide +kernel
theorem wd_440 : lw_tbl[440]? = some (Jvm.Cond.lays "CarpetEleven$Scene" "CarpetEleven$Scene" "text" "LCarpetEleven$Text;") := by decide +kernel
theorem wd_441 : lw_tbl[441]? = some (Jvm.Cond.soleField "CarpetEleven$Scene" "text") := by decide +kernel
theorem wd_442 : lw_tbl[442]? = some (Jvm.Cond.superclass "CarpetEleven$Scene" "java/lang/Object") := by decide +kernel
theorem wd_443 : lw_tbl[443]? = some (Jvm.Cond.fieldLink "CarpetEleven" (11 : Nat) "CarpetEleven" "kinds" "[LCarpetEleven$Kind;") := by decide +kernel
theorem wd_444 : lw_tbl[444]? = some (Jvm.Cond.fieldLink "CarpetEleven" (17 : Nat) "CarpetEleven" "folk" "[LCarpetEleven$Seller;") := by decide +kernel
theorem wd_445 : lw_tbl[445]? = some (Jvm.Cond.fieldLink "CarpetEleven" (108 : Nat) "CarpetEleven" "scene" "LCarpetEleven$Scene;") := by decide +kernel
theorem wd_446 : lw_tbl[446]? = some (Jvm.Cond.fieldLink "CarpetEleven" (23 : Nat) "CarpetEleven" "texts" "[LCarpetEleven$Text;") := by decide +kernel
theorem wd_447 : lw_tbl[447]? = some (Jvm.Cond.fieldLink "CarpetEleven" (30 : Nat) "CarpetEleven" "tape" "LCarpetEleven$Tape;") := by decide +kernel
theorem wd_448 : lw_tbl[448]? = some (Jvm.Cond.fieldLink "CarpetEleven" (36 : Nat) "CarpetEleven" "sheets" "[LCarpetEleven$Sheet;") := by decide +kernel
theorem wd_449 : lw_tbl[449]? = some (Jvm.Cond.fieldLink "CarpetEleven" (40 : Nat) "CarpetEleven" "folkCount" "I") := by decide +kernel
theorem wd_450 : lw_tbl[450]? = some (Jvm.Cond.fieldLink "CarpetEleven" (44 : Nat) "CarpetEleven" "textCount" "I") := by decide +kernel
theorem wd_451 : lw_tbl[451]? = some (Jvm.Cond.fieldLink "CarpetEleven" (75 : Nat) "CarpetEleven" "thought" "LCarpetEleven$Seller;") := by decide +kernel
theorem wd_452 : lw_tbl[452]? = some (Jvm.Cond.fieldLink "CarpetEleven" (47 : Nat) "CarpetEleven" "crowd" "[LCarpetEleven$Seller;") := by decide +kernel
theorem wd_453 : lw_tbl[453]? = some (Jvm.Cond.fieldLink "CarpetEleven" (112 : Nat) "CarpetEleven" "thoughtScene" "LCarpetEleven$Scene;") := by decide +kernel
theorem wd_454 : lw_tbl[454]? = some (Jvm.Cond.fieldLink "CarpetEleven" (50 : Nat) "CarpetEleven" "keptFolk" "[LCarpetEleven$Seller;") := by decide +kernel
theorem wd_455 : lw_tbl[455]? = some (Jvm.Cond.fieldLink "CarpetEleven" (115 : Nat) "CarpetEleven" "keptScene" "LCarpetEleven$Scene;") := by decide +kernel
theorem wd_456 : lw_tbl[456]? = some (Jvm.Cond.fieldLink "CarpetEleven" (53 : Nat) "CarpetEleven" "keptCount" "I") := by decide +kernel
theorem wd_457 : lw_tbl[457]? = some (Jvm.Cond.laysFinal "CarpetEleven" "CarpetEleven" "kinds" "[LCarpetEleven$Kind;") := by decide +kernel
theorem wd_458 : lw_tbl[458]? = some (Jvm.Cond.soleField "CarpetEleven" "kinds") := by decide +kernel
theorem wd_459 : lw_tbl[459]? = some (Jvm.Cond.laysFinal "CarpetEleven" "CarpetEleven" "folk" "[LCarpetEleven$Seller;") := by decide +kernel
theorem wd_460 : lw_tbl[460]? = some (Jvm.Cond.soleField "CarpetEleven" "folk") := by decide +kernel
theorem wd_461 : lw_tbl[461]? = some (Jvm.Cond.laysFinal "CarpetEleven" "CarpetEleven" "scene" "LCarpetEleven$Scene;") := by decide +kernel
theorem wd_462 : lw_tbl[462]? = some (Jvm.Cond.soleField "CarpetEleven" "scene") := by decide +kernel
theorem wd_463 : lw_tbl[463]? = some (Jvm.Cond.laysFinal "CarpetEleven" "CarpetEleven" "texts" "[LCarpetEleven$Text;") := by decide +kernel
theorem wd_464 : lw_tbl[464]? = some (Jvm.Cond.soleField "CarpetEleven" "texts") := by decide +kernel
theorem wd_465 : lw_tbl[465]? = some (Jvm.Cond.laysFinal "CarpetEleven" "CarpetEleven" "tape" "LCarpetEleven$Tape;") := by decide +kernel
theorem wd_466 : lw_tbl[466]? = some (Jvm.Cond.soleField "CarpetEleven" "tape") := by decide +kernel
theorem wd_467 : lw_tbl[467]? = some (Jvm.Cond.laysFinal "CarpetEleven" "CarpetEleven" "sheets" "[LCarpetEleven$Sheet;") := by decide +kernel
theorem wd_468 : lw_tbl[468]? = some (Jvm.Cond.soleField "CarpetEleven" "sheets") := by decide +kernel
theorem wd_469 : lw_tbl[469]? = some (Jvm.Cond.lays "CarpetEleven" "CarpetEleven" "folkCount" "I") := by decide +kernel
theorem wd_470 : lw_tbl[470]? = some (Jvm.Cond.soleField "CarpetEleven" "folkCount") := by decide +kernel
theorem wd_471 : lw_tbl[471]? = some (Jvm.Cond.lays "CarpetEleven" "CarpetEleven" "textCount" "I") := by decide +kernel
theorem wd_472 : lw_tbl[472]? = some (Jvm.Cond.soleField "CarpetEleven" "textCount") := by decide +kernel
theorem wd_473 : lw_tbl[473]? = some (Jvm.Cond.laysFinal "CarpetEleven" "CarpetEleven" "thought" "LCarpetEleven$Seller;") := by decide +kernel
theorem wd_474 : lw_tbl[474]? = some (Jvm.Cond.soleField "CarpetEleven" "thought") := by decide +kernel
theorem wd_475 : lw_tbl[475]? = some (Jvm.Cond.laysFinal "CarpetEleven" "CarpetEleven" "crowd" "[LCarpetEleven$Seller;") := by decide +kernel
theorem wd_476 : lw_tbl[476]? = some (Jvm.Cond.soleField "CarpetEleven" "crowd") := by decide +kernel
theorem wd_477 : lw_tbl[477]? = some (Jvm.Cond.laysFinal "CarpetEleven" "CarpetEleven" "thoughtScene" "LCarpetEleven$Scene;") := by decide +kernel
theorem wd_478 : lw_tbl[478]? = some (Jvm.Cond.soleField "CarpetEleven" "thoughtScene") := by decide +kernel
theorem wd_479 : lw_tbl[479]? = some (Jvm.Cond.laysFinal "CarpetEleven" "CarpetEleven" "keptFolk" "[LCarpetEleven$Seller;") := by decide +kernel
theorem wd_480 : lw_tbl[480]? = some (Jvm.Cond.soleField "CarpetEleven" "keptFolk") := by decide +kernel
theorem wd_481 : lw_tbl[481]? = some (Jvm.Cond.laysFinal "CarpetEleven" "CarpetEleven" "keptScene" "LCarpetEleven$Scene;") := by decide +kernel
theorem wd_482 : lw_tbl[482]? = some (Jvm.Cond.soleField "CarpetEleven" "keptScene") := by decide +kernel
theorem wd_483 : lw_tbl[483]? = some (Jvm.Cond.lays "CarpetEleven" "CarpetEleven" "keptCount" "I") := by decide +kernel
theorem wd_484 : lw_tbl[484]? = some (Jvm.Cond.soleField "CarpetEleven" "keptCount") := by decide +kernel
theorem wd_485 : lw_tbl[485]? = some (Jvm.Cond.superclass "CarpetEleven" "java/lang/Object") := by decide +kernel
theorem wd_486 : lw_tbl[486]? = some (Jvm.Cond.methodLink "CarpetElevenLaw" (13 : Nat) ({ cls := "CarpetEleven", name := "seller", desc := "(II)I" } : Jvm.MethodName)) := by decide +kernel
theorem wd_487 : lw_tbl[487]? = some (Jvm.Cond.instanceMethod ({ cls := "CarpetEleven", name := "seller", desc := "(II)I" } : Jvm.MethodName)) := by decide +kernel
theorem wd_488 : lw_tbl[488]? = some (Jvm.Cond.selects "CarpetEleven" ({ cls := "CarpetEleven", name := "seller", desc := "(II)I" } : Jvm.MethodName) ({ cls := "CarpetEleven", name := "seller", desc := "(II)I" } : Jvm.MethodName)) := by decide +kernel
theorem wd_489 : lw_tbl[489]? = some (Jvm.Cond.code ({ cls := "CarpetEleven", name := "seller", desc := "(II)I" } : Jvm.MethodName) prog_1_method_2_code (3 : Nat) (Option.some Jvm.ClassFile.FieldType.int)) := by decide +kernel
theorem wd_490 : lw_tbl[490]? = some (Jvm.Cond.methodLink "CarpetEleven" (118 : Nat) ({ cls := "CarpetEleven", name := "comes", desc := "(II)I" } : Jvm.MethodName)) := by decide +kernel
theorem wd_491 : lw_tbl[491]? = some (Jvm.Cond.privateMethod ({ cls := "CarpetEleven", name := "comes", desc := "(II)I" } : Jvm.MethodName)) := by decide +kernel
theorem wd_492 : lw_tbl[492]? = some (Jvm.Cond.instanceMethod ({ cls := "CarpetEleven", name := "comes", desc := "(II)I" } : Jvm.MethodName)) := by decide +kernel
theorem wd_493 : lw_tbl[493]? = some (Jvm.Cond.code ({ cls := "CarpetEleven", name := "comes", desc := "(II)I" } : Jvm.MethodName) prog_1_method_38_code (4 : Nat) (Option.some Jvm.ClassFile.FieldType.int)) := by decide +kernel
theorem wd_494 : lw_tbl[494]? = some (Jvm.Cond.methodLink "CarpetEleven" (142 : Nat) ({ cls := "CarpetEleven$Seller", name := "begin", desc := "(LCarpetEleven$Scene;)V" } : Jvm.MethodName)) := by decide +kernel
theorem wd_495 : lw_tbl[495]? = some (Jvm.Cond.instanceMethod ({ cls := "CarpetEleven$Seller", name := "begin", desc := "(LCarpetEleven$Scene;)V" } : Jvm.MethodName)) := by decide +kernel
theorem wd_496 : lw_tbl[496]? = some (Jvm.Cond.selects "CarpetEleven$Seller" ({ cls := "CarpetEleven$Seller", name := "begin", desc := "(LCarpetEleven$Scene;)V" } : Jvm.MethodName) ({ cls := "CarpetEleven$Seller", name := "begin", desc := "(LCarpetEleven$Scene;)V" } : Jvm.MethodName)) := by decide +kernel
theorem wd_497 : lw_tbl[497]? = some (Jvm.Cond.code ({ cls := "CarpetEleven$Seller", name := "begin", desc := "(LCarpetEleven$Scene;)V" } : Jvm.MethodName) prog_7_method_4_code (2 : Nat) (Option.none : Option Jvm.ClassFile.FieldType)) := by decide +kernel
theorem wd_498 : lw_tbl[498]? = some (Jvm.Cond.methodLink "CarpetEleven$Seller" (41 : Nat) ({ cls := "CarpetEleven$Scene", name := "first", desc := "(LCarpetEleven$Seller;)I" } : Jvm.MethodName)) := by decide +kernel
theorem wd_499 : lw_tbl[499]? = some (Jvm.Cond.instanceMethod ({ cls := "CarpetEleven$Scene", name := "first", desc := "(LCarpetEleven$Seller;)I" } : Jvm.MethodName)) := by decide +kernel
theorem wd_500 : lw_tbl[500]? = some (Jvm.Cond.selects "CarpetEleven$Scene" ({ cls := "CarpetEleven$Scene", name := "first", desc := "(LCarpetEleven$Seller;)I" } : Jvm.MethodName) ({ cls := "CarpetEleven$Scene", name := "first", desc := "(LCarpetEleven$Seller;)I" } : Jvm.MethodName)) := by decide +kernel
theorem wd_501 : lw_tbl[501]? = some (Jvm.Cond.code ({ cls := "CarpetEleven$Scene", name := "first", desc := "(LCarpetEleven$Seller;)I" } : Jvm.MethodName) prog_6_method_4_code (3 : Nat) (Option.some Jvm.ClassFile.FieldType.int)) := by decide +kernel
theorem wd_502 : lw_tbl[502]? = some (Jvm.Cond.methodLink "CarpetEleven$Scene" (33 : Nat) ({ cls := "CarpetEleven$Text", name := "value", desc := "(IILCarpetEleven$Seller;LCarpetEleven$Scene;I)I" } : Jvm.MethodName)) := by decide +kernel
theorem wd_503 : lw_tbl[503]? = some (Jvm.Cond.instanceMethod ({ cls := "CarpetEleven$Text", name := "value", desc := "(IILCarpetEleven$Seller;LCarpetEleven$Scene;I)I" } : Jvm.MethodName)) := by decide +kernel
theorem wd_504 : lw_tbl[504]? = some (Jvm.Cond.selects "CarpetEleven$Text" ({ cls := "CarpetEleven$Text", name := "value", desc := "(IILCarpetEleven$Seller;LCarpetEleven$Scene;I)I" } : Jvm.MethodName) ({ cls := "CarpetEleven$Text", name := "value", desc := "(IILCarpetEleven$Seller;LCarpetEleven$Scene;I)I" } : Jvm.MethodName)) := by decide +kernel
theorem wd_505 : lw_tbl[505]? = some (Jvm.Cond.code ({ cls := "CarpetEleven$Text", name := "value", desc := "(IILCarpetEleven$Seller;LCarpetEleven$Scene;I)I" } : Jvm.MethodName) prog_12_method_2_code (10 : Nat) (Option.some Jvm.ClassFile.FieldType.int)) := by decide +kernel
theorem wd_506 : lw_tbl[506]? = some (Jvm.Cond.methodLink "CarpetEleven$Text" (35 : Nat) ({ cls := "java/lang/Math", name := "max", desc := "(II)I" } : Jvm.MethodName)) := by decide +kernel
theorem wd_507 : lw_tbl[507]? = some (Jvm.Cond.methodLink "CarpetEleven$Text" (41 : Nat) ({ cls := "CarpetEleven$Text", name := "named", desc := "(ILCarpetEleven$Seller;LCarpetEleven$Scene;I)I" } : Jvm.MethodName)) := by decide +kernel
theorem wd_508 : lw_tbl[508]? = some (Jvm.Cond.static ({ cls := "CarpetEleven$Text", name := "named", desc := "(ILCarpetEleven$Seller;LCarpetEleven$Scene;I)I" } : Jvm.MethodName)) := by decide +kernel
theorem wd_509 : lw_tbl[509]? = some (Jvm.Cond.code ({ cls := "CarpetEleven$Text", name := "named", desc := "(ILCarpetEleven$Seller;LCarpetEleven$Scene;I)I" } : Jvm.MethodName) prog_12_method_3_code (4 : Nat) (Option.some Jvm.ClassFile.FieldType.int)) := by decide +kernel
theorem wd_510 : lw_tbl[510]? = some (Jvm.Cond.methodLink "CarpetEleven$Text" (45 : Nat) ({ cls := "CarpetEleven$Text", name := "joined", desc := "(III)I" } : Jvm.MethodName)) := by decide +kernel
theorem wd_511 : lw_tbl[511]? = some (Jvm.Cond.static ({ cls := "CarpetEleven$Text", name := "joined", desc := "(III)I" } : Jvm.MethodName)) := by decide +kernel
theorem wd_512 : lw_tbl[512]? = some (Jvm.Cond.code ({ cls := "CarpetEleven$Text", name := "joined", desc := "(III)I" } : Jvm.MethodName) prog_12_method_4_code (3 : Nat) (Option.some Jvm.ClassFile.FieldType.int)) := by decide +kernel
theorem wd_513 : lw_tbl[513]? = some (Jvm.Cond.methodLink "CarpetEleven$Scene" (44 : Nat) ({ cls := "CarpetEleven$Scene", name := "least", desc := "(LCarpetEleven$Seller;I)I" } : Jvm.MethodName)) := by decide +kernel
theorem wd_514 : lw_tbl[514]? = some (Jvm.Cond.instanceMethod ({ cls := "CarpetEleven$Scene", name := "least", desc := "(LCarpetEleven$Seller;I)I" } : Jvm.MethodName)) := by decide +kernel
theorem wd_515 : lw_tbl[515]? = some (Jvm.Cond.selects "CarpetEleven$Scene" ({ cls := "CarpetEleven$Scene", name := "least", desc := "(LCarpetEleven$Seller;I)I" } : Jvm.MethodName) ({ cls := "CarpetEleven$Scene", name := "least", desc := "(LCarpetEleven$Seller;I)I" } : Jvm.MethodName)) := by decide +kernel
theorem wd_516 : lw_tbl[516]? = some (Jvm.Cond.code ({ cls := "CarpetEleven$Scene", name := "least", desc := "(LCarpetEleven$Seller;I)I" } : Jvm.MethodName) prog_6_method_3_code (3 : Nat) (Option.some Jvm.ClassFile.FieldType.int)) := by decide +kernel
theorem wd_517 : lw_tbl[517]? = some (Jvm.Cond.methodLinkNest "CarpetEleven$Scene" (37 : Nat) ({ cls := "CarpetEleven", name := "within", desc := "(III)I" } : Jvm.MethodName) "CarpetEleven") := by decide +kernel
theorem wd_518 : lw_tbl[518]? = some (Jvm.Cond.methodLink "CarpetElevenLaw" (18 : Nat) ({ cls := "CarpetEleven", name := "set", desc := "(III)I" } : Jvm.MethodName)) := by decide +kernel
theorem wd_519 : lw_tbl[519]? = some (Jvm.Cond.instanceMethod ({ cls := "CarpetEleven", name := "set", desc := "(III)I" } : Jvm.MethodName)) := by decide +kernel
theorem wd_520 : lw_tbl[520]? = some (Jvm.Cond.selects "CarpetEleven" ({ cls := "CarpetEleven", name := "set", desc := "(III)I" } : Jvm.MethodName) ({ cls := "CarpetEleven", name := "set", desc := "(III)I" } : Jvm.MethodName)) := by decide +kernel
theorem wd_521 : lw_tbl[521]? = some (Jvm.Cond.code ({ cls := "CarpetEleven", name := "set", desc := "(III)I" } : Jvm.MethodName) prog_1_method_3_code (5 : Nat) (Option.some Jvm.ClassFile.FieldType.int)) := by decide +kernel
theorem wd_522 : lw_tbl[522]? = some (Jvm.Cond.methodLink "CarpetEleven" (122 : Nat) ({ cls := "CarpetEleven", name := "setCost", desc := "(II)I" } : Jvm.MethodName)) := by decide +kernel
theorem wd_523 : lw_tbl[523]? = some (Jvm.Cond.privateMethod ({ cls := "CarpetEleven", name := "setCost", desc := "(II)I" } : Jvm.MethodName)) := by decide +kernel
theorem wd_524 : lw_tbl[524]? = some (Jvm.Cond.instanceMethod ({ cls := "CarpetEleven", name := "setCost", desc := "(II)I" } : Jvm.MethodName)) := by decide +kernel
theorem wd_525 : lw_tbl[525]? = some (Jvm.Cond.code ({ cls := "CarpetEleven", name := "setCost", desc := "(II)I" } : Jvm.MethodName) prog_1_method_39_code (4 : Nat) (Option.some Jvm.ClassFile.FieldType.int)) := by decide +kernel
theorem wd_526 : lw_tbl[526]? = some (Jvm.Cond.methodLink "CarpetEleven" (138 : Nat) ({ cls := "CarpetEleven", name := "isSeller", desc := "(I)Z" } : Jvm.MethodName)) := by decide +kernel
theorem wd_527 : lw_tbl[527]? = some (Jvm.Cond.privateMethod ({ cls := "CarpetEleven", name := "isSeller", desc := "(I)Z" } : Jvm.MethodName)) := by decide +kernel
theorem wd_528 : lw_tbl[528]? = some (Jvm.Cond.instanceMethod ({ cls := "CarpetEleven", name := "isSeller", desc := "(I)Z" } : Jvm.MethodName)) := by decide +kernel
theorem wd_529 : lw_tbl[529]? = some (Jvm.Cond.code ({ cls := "CarpetEleven", name := "isSeller", desc := "(I)Z" } : Jvm.MethodName) prog_1_method_30_code (2 : Nat) (Option.some Jvm.ClassFile.FieldType.boolean)) := by decide +kernel
theorem wd_530 : lw_tbl[530]? = some (Jvm.Cond.methodLink "CarpetEleven" (125 : Nat) ({ cls := "CarpetEleven", name := "topOf", desc := "(I)I" } : Jvm.MethodName)) := by decide +kernel
theorem wd_531 : lw_tbl[531]? = some (Jvm.Cond.static ({ cls := "CarpetEleven", name := "topOf", desc := "(I)I" } : Jvm.MethodName)) := by decide +kernel
theorem wd_532 : lw_tbl[532]? = some (Jvm.Cond.code ({ cls := "CarpetEleven", name := "topOf", desc := "(I)I" } : Jvm.MethodName) prog_1_method_34_code (1 : Nat) (Option.some Jvm.ClassFile.FieldType.int)) := by decide +kernel
theorem wd_533 : lw_tbl[533]? = some (Jvm.Cond.methodLink "CarpetElevenLaw" (23 : Nat) ({ cls := "CarpetEleven", name := "anew", desc := "(I)I" } : Jvm.MethodName)) := by decide +kernel
theorem wd_534 : lw_tbl[534]? = some (Jvm.Cond.instanceMethod ({ cls := "CarpetEleven", name := "anew", desc := "(I)I" } : Jvm.MethodName)) := by decide +kernel
theorem wd_535 : lw_tbl[535]? = some (Jvm.Cond.selects "CarpetEleven" ({ cls := "CarpetEleven", name := "anew", desc := "(I)I" } : Jvm.MethodName) ({ cls := "CarpetEleven", name := "anew", desc := "(I)I" } : Jvm.MethodName)) := by decide +kernel
theorem wd_536 : lw_tbl[536]? = some (Jvm.Cond.code ({ cls := "CarpetEleven", name := "anew", desc := "(I)I" } : Jvm.MethodName) prog_1_method_4_code (2 : Nat) (Option.some Jvm.ClassFile.FieldType.int)) := by decide +kernel
theorem wd_537 : lw_tbl[537]? = some (Jvm.Cond.methodLink "CarpetElevenLaw" (28 : Nat) ({ cls := "CarpetEleven", name := "told", desc := "(II)I" } : Jvm.MethodName)) := by decide +kernel
theorem wd_538 : lw_tbl[538]? = some (Jvm.Cond.instanceMethod ({ cls := "CarpetEleven", name := "told", desc := "(II)I" } : Jvm.MethodName)) := by decide +kernel
theorem wd_539 : lw_tbl[539]? = some (Jvm.Cond.selects "CarpetEleven" ({ cls := "CarpetEleven", name := "told", desc := "(II)I" } : Jvm.MethodName) ({ cls := "CarpetEleven", name := "told", desc := "(II)I" } : Jvm.MethodName)) := by decide +kernel
theorem wd_540 : lw_tbl[540]? = some (Jvm.Cond.code ({ cls := "CarpetEleven", name := "told", desc := "(II)I" } : Jvm.MethodName) prog_1_method_5_code (4 : Nat) (Option.some Jvm.ClassFile.FieldType.int)) := by decide +kernel
theorem wd_541 : lw_tbl[541]? = some (Jvm.Cond.methodLink "CarpetEleven" (167 : Nat) ({ cls := "CarpetEleven$Scene", name := "least", desc := "(LCarpetEleven$Seller;I)I" } : Jvm.MethodName)) := by decide +kernel
theorem wd_542 : lw_tbl[542]? = some (Jvm.Cond.methodLink "CarpetEleven" (175 : Nat) ({ cls := "CarpetEleven$Kind", name := "stays", desc := "(I)I" } : Jvm.MethodName)) := by decide +kernel
theorem wd_543 : lw_tbl[543]? = some (Jvm.Cond.instanceMethod ({ cls := "CarpetEleven$Kind", name := "stays", desc := "(I)I" } : Jvm.MethodName)) := by decide +kernel
theorem wd_544 : lw_tbl[544]? = some (Jvm.Cond.selects "CarpetEleven$Kind" ({ cls := "CarpetEleven$Kind", name := "stays", desc := "(I)I" } : Jvm.MethodName) ({ cls := "CarpetEleven$Kind", name := "stays", desc := "(I)I" } : Jvm.MethodName)) := by decide +kernel
theorem wd_545 : lw_tbl[545]? = some (Jvm.Cond.sameMethod "CarpetEleven$Kind" "CarpetEleven$Kind" "stays" "(I)I") := by decide +kernel
theorem wd_546 : lw_tbl[546]? = some (Jvm.Cond.selects "CarpetEleven$Brother" ({ cls := "CarpetEleven$Kind", name := "stays", desc := "(I)I" } : Jvm.MethodName) ({ cls := "CarpetEleven$Halver", name := "stays", desc := "(I)I" } : Jvm.MethodName)) := by decide +kernel
theorem wd_547 : lw_tbl[547]? = some (Jvm.Cond.instanceMethod ({ cls := "CarpetEleven$Halver", name := "stays", desc := "(I)I" } : Jvm.MethodName)) := by decide +kernel
theorem wd_548 : lw_tbl[548]? = some (Jvm.Cond.code ({ cls := "CarpetEleven$Halver", name := "stays", desc := "(I)I" } : Jvm.MethodName) prog_4_method_3_code (2 : Nat) (Option.some Jvm.ClassFile.FieldType.int)) := by decide +kernel
theorem wd_549 : lw_tbl[549]? = some (Jvm.Cond.methodLink "CarpetEleven$Halver" (11 : Nat) ({ cls := "CarpetEleven$Kind", name := "stays", desc := "(I)I" } : Jvm.MethodName)) := by decide +kernel
theorem wd_550 : lw_tbl[550]? = some (Jvm.Cond.selects "CarpetEleven$Eager" ({ cls := "CarpetEleven$Kind", name := "stays", desc := "(I)I" } : Jvm.MethodName) ({ cls := "CarpetEleven$Eager", name := "stays", desc := "(I)I" } : Jvm.MethodName)) := by decide +kernel
theorem wd_551 : lw_tbl[551]? = some (Jvm.Cond.instanceMethod ({ cls := "CarpetEleven$Eager", name := "stays", desc := "(I)I" } : Jvm.MethodName)) := by decide +kernel
theorem wd_552 : lw_tbl[552]? = some (Jvm.Cond.code ({ cls := "CarpetEleven$Eager", name := "stays", desc := "(I)I" } : Jvm.MethodName) prog_3_method_4_code (2 : Nat) (Option.some Jvm.ClassFile.FieldType.int)) := by decide +kernel
theorem wd_553 : lw_tbl[553]? = some (Jvm.Cond.methodLink "CarpetEleven$Eager" (11 : Nat) ({ cls := "CarpetEleven$Halver", name := "stays", desc := "(I)I" } : Jvm.MethodName)) := by decide +kernel
theorem wd_554 : lw_tbl[554]? = some (Jvm.Cond.selects "CarpetEleven$Halver" ({ cls := "CarpetEleven$Kind", name := "stays", desc := "(I)I" } : Jvm.MethodName) ({ cls := "CarpetEleven$Halver", name := "stays", desc := "(I)I" } : Jvm.MethodName)) := by decide +kernel
theorem wd_555 : lw_tbl[555]? = some (Jvm.Cond.selects "CarpetEleven$Slip" ({ cls := "CarpetEleven$Kind", name := "stays", desc := "(I)I" } : Jvm.MethodName) ({ cls := "CarpetEleven$Slip", name := "stays", desc := "(I)I" } : Jvm.MethodName)) := by decide +kernel
theorem wd_556 : lw_tbl[556]? = some (Jvm.Cond.instanceMethod ({ cls := "CarpetEleven$Slip", name := "stays", desc := "(I)I" } : Jvm.MethodName)) := by decide +kernel
theorem wd_557 : lw_tbl[557]? = some (Jvm.Cond.code ({ cls := "CarpetEleven$Slip", name := "stays", desc := "(I)I" } : Jvm.MethodName) prog_9_method_4_code (2 : Nat) (Option.some Jvm.ClassFile.FieldType.int)) := by decide +kernel
theorem wd_558 : lw_tbl[558]? = some (Jvm.Cond.methodLink "CarpetEleven$Slip" (7 : Nat) ({ cls := "CarpetEleven$Stiff", name := "stays", desc := "(I)I" } : Jvm.MethodName)) := by decide +kernel
theorem wd_559 : lw_tbl[559]? = some (Jvm.Cond.instanceMethod ({ cls := "CarpetEleven$Stiff", name := "stays", desc := "(I)I" } : Jvm.MethodName)) := by decide +kernel
theorem wd_560 : lw_tbl[560]? = some (Jvm.Cond.code ({ cls := "CarpetEleven$Stiff", name := "stays", desc := "(I)I" } : Jvm.MethodName) prog_10_method_3_code (2 : Nat) (Option.some Jvm.ClassFile.FieldType.int)) := by decide +kernel
theorem wd_561 : lw_tbl[561]? = some (Jvm.Cond.methodLink "CarpetEleven$Stiff" (17 : Nat) ({ cls := "CarpetEleven$Kind", name := "stays", desc := "(I)I" } : Jvm.MethodName)) := by decide +kernel
theorem wd_562 : lw_tbl[562]? = some (Jvm.Cond.selects "CarpetEleven$Stiff" ({ cls := "CarpetEleven$Kind", name := "stays", desc := "(I)I" } : Jvm.MethodName) ({ cls := "CarpetEleven$Stiff", name := "stays", desc := "(I)I" } : Jvm.MethodName)) := by decide +kernel
theorem wd_563 : lw_tbl[563]? = some (Jvm.Cond.code ({ cls := "CarpetEleven$Kind", name := "stays", desc := "(I)I" } : Jvm.MethodName) prog_5_method_4_code (2 : Nat) (Option.some Jvm.ClassFile.FieldType.int)) := by decide +kernel
theorem wd_564 : lw_tbl[564]? = some (Jvm.Cond.methodLink "CarpetElevenLaw" (32 : Nat) ({ cls := "CarpetEleven", name := "feed", desc := "(I)I" } : Jvm.MethodName)) := by decide +kernel
theorem wd_565 : lw_tbl[565]? = some (Jvm.Cond.instanceMethod ({ cls := "CarpetEleven", name := "feed", desc := "(I)I" } : Jvm.MethodName)) := by decide +kernel
theorem wd_566 : lw_tbl[566]? = some (Jvm.Cond.selects "CarpetEleven" ({ cls := "CarpetEleven", name := "feed", desc := "(I)I" } : Jvm.MethodName) ({ cls := "CarpetEleven", name := "feed", desc := "(I)I" } : Jvm.MethodName)) := by decide +kernel
theorem wd_567 : lw_tbl[567]? = some (Jvm.Cond.code ({ cls := "CarpetEleven", name := "feed", desc := "(I)I" } : Jvm.MethodName) prog_1_method_6_code (2 : Nat) (Option.some Jvm.ClassFile.FieldType.int)) := by decide +kernel
theorem wd_568 : lw_tbl[568]? = some (Jvm.Cond.methodLink "CarpetElevenLaw" (36 : Nat) ({ cls := "CarpetEleven", name := "text", desc := "()I" } : Jvm.MethodName)) := by decide +kernel
theorem wd_569 : lw_tbl[569]? = some (Jvm.Cond.instanceMethod ({ cls := "CarpetEleven", name := "text", desc := "()I" } : Jvm.MethodName)) := by decide +kernel
theorem wd_570 : lw_tbl[570]? = some (Jvm.Cond.selects "CarpetEleven" ({ cls := "CarpetEleven", name := "text", desc := "()I" } : Jvm.MethodName) ({ cls := "CarpetEleven", name := "text", desc := "()I" } : Jvm.MethodName)) := by decide +kernel
theorem wd_571 : lw_tbl[571]? = some (Jvm.Cond.code ({ cls := "CarpetEleven", name := "text", desc := "()I" } : Jvm.MethodName) prog_1_method_7_code (2 : Nat) (Option.some Jvm.ClassFile.FieldType.int)) := by decide +kernel
theorem wd_572 : lw_tbl[572]? = some (Jvm.Cond.methodLink "CarpetElevenLaw" (41 : Nat) ({ cls := "CarpetEleven", name := "force", desc := "(I)I" } : Jvm.MethodName)) := by decide +kernel
theorem wd_573 : lw_tbl[573]? = some (Jvm.Cond.instanceMethod ({ cls := "CarpetEleven", name := "force", desc := "(I)I" } : Jvm.MethodName)) := by decide +kernel
theorem wd_574 : lw_tbl[574]? = some (Jvm.Cond.selects "CarpetEleven" ({ cls := "CarpetEleven", name := "force", desc := "(I)I" } : Jvm.MethodName) ({ cls := "CarpetEleven", name := "force", desc := "(I)I" } : Jvm.MethodName)) := by decide +kernel
theorem wd_575 : lw_tbl[575]? = some (Jvm.Cond.code ({ cls := "CarpetEleven", name := "force", desc := "(I)I" } : Jvm.MethodName) prog_1_method_8_code (3 : Nat) (Option.some Jvm.ClassFile.FieldType.int)) := by decide +kernel
theorem wd_576 : lw_tbl[576]? = some (Jvm.Cond.methodLink "CarpetElevenLaw" (45 : Nat) ({ cls := "CarpetEleven", name := "word", desc := "(II)I" } : Jvm.MethodName)) := by decide +kernel
theorem wd_577 : lw_tbl[577]? = some (Jvm.Cond.instanceMethod ({ cls := "CarpetEleven", name := "word", desc := "(II)I" } : Jvm.MethodName)) := by decide +kernel
theorem wd_578 : lw_tbl[578]? = some (Jvm.Cond.selects "CarpetEleven" ({ cls := "CarpetEleven", name := "word", desc := "(II)I" } : Jvm.MethodName) ({ cls := "CarpetEleven", name := "word", desc := "(II)I" } : Jvm.MethodName)) := by decide +kernel
theorem wd_579 : lw_tbl[579]? = some (Jvm.Cond.code ({ cls := "CarpetEleven", name := "word", desc := "(II)I" } : Jvm.MethodName) prog_1_method_9_code (3 : Nat) (Option.some Jvm.ClassFile.FieldType.int)) := by decide +kernel
theorem wd_580 : lw_tbl[580]? = some (Jvm.Cond.methodLink "CarpetEleven" (188 : Nat) ({ cls := "CarpetEleven", name := "isBid", desc := "(I)Z" } : Jvm.MethodName)) := by decide +kernel
theorem wd_581 : lw_tbl[581]? = some (Jvm.Cond.static ({ cls := "CarpetEleven", name := "isBid", desc := "(I)Z" } : Jvm.MethodName)) := by decide +kernel
theorem wd_582 : lw_tbl[582]? = some (Jvm.Cond.code ({ cls := "CarpetEleven", name := "isBid", desc := "(I)Z" } : Jvm.MethodName) prog_1_method_32_code (1 : Nat) (Option.some Jvm.ClassFile.FieldType.boolean)) := by decide +kernel
theorem wd_583 : lw_tbl[583]? = some (Jvm.Cond.methodLink "CarpetEleven" (191 : Nat) ({ cls := "CarpetEleven$Seller", name := "hear", desc := "(ILCarpetEleven$Scene;)V" } : Jvm.MethodName)) := by decide +kernel
theorem wd_584 : lw_tbl[584]? = some (Jvm.Cond.instanceMethod ({ cls := "CarpetEleven$Seller", name := "hear", desc := "(ILCarpetEleven$Scene;)V" } : Jvm.MethodName)) := by decide +kernel
theorem wd_585 : lw_tbl[585]? = some (Jvm.Cond.selects "CarpetEleven$Seller" ({ cls := "CarpetEleven$Seller", name := "hear", desc := "(ILCarpetEleven$Scene;)V" } : Jvm.MethodName) ({ cls := "CarpetEleven$Seller", name := "hear", desc := "(ILCarpetEleven$Scene;)V" } : Jvm.MethodName)) := by decide +kernel
theorem wd_586 : lw_tbl[586]? = some (Jvm.Cond.code ({ cls := "CarpetEleven$Seller", name := "hear", desc := "(ILCarpetEleven$Scene;)V" } : Jvm.MethodName) prog_7_method_6_code (5 : Nat) (Option.none : Option Jvm.ClassFile.FieldType)) := by decide +kernel
theorem wd_587 : lw_tbl[587]? = some (Jvm.Cond.methodLink "CarpetEleven$Seller" (47 : Nat) ({ cls := "CarpetEleven$Scene", name := "least", desc := "(LCarpetEleven$Seller;I)I" } : Jvm.MethodName)) := by decide +kernel
theorem wd_588 : lw_tbl[588]? = some (Jvm.Cond.methodLink "CarpetEleven$Seller" (54 : Nat) ({ cls := "CarpetEleven$Kind", name := "steps", desc := "(IIIII)I" } : Jvm.MethodName)) := by decide +kernel
theorem wd_589 : lw_tbl[589]? = some (Jvm.Cond.instanceMethod ({ cls := "CarpetEleven$Kind", name := "steps", desc := "(IIIII)I" } : Jvm.MethodName)) := by decide +kernel
theorem wd_590 : lw_tbl[590]? = some (Jvm.Cond.selects "CarpetEleven$Kind" ({ cls := "CarpetEleven$Kind", name := "steps", desc := "(IIIII)I" } : Jvm.MethodName) ({ cls := "CarpetEleven$Kind", name := "steps", desc := "(IIIII)I" } : Jvm.MethodName)) := by decide +kernel
theorem wd_591 : lw_tbl[591]? = some (Jvm.Cond.sameMethod "CarpetEleven$Kind" "CarpetEleven$Kind" "steps" "(IIIII)I") := by decide +kernel
theorem wd_592 : lw_tbl[592]? = some (Jvm.Cond.selects "CarpetEleven$Brother" ({ cls := "CarpetEleven$Kind", name := "steps", desc := "(IIIII)I" } : Jvm.MethodName) ({ cls := "CarpetEleven$Brother", name := "steps", desc := "(IIIII)I" } : Jvm.MethodName)) := by decide +kernel
theorem wd_593 : lw_tbl[593]? = some (Jvm.Cond.instanceMethod ({ cls := "CarpetEleven$Brother", name := "steps", desc := "(IIIII)I" } : Jvm.MethodName)) := by decide +kernel
theorem wd_594 : lw_tbl[594]? = some (Jvm.Cond.code ({ cls := "CarpetEleven$Brother", name := "steps", desc := "(IIIII)I" } : Jvm.MethodName) prog_2_method_2_code (6 : Nat) (Option.some Jvm.ClassFile.FieldType.int)) := by decide +kernel
theorem wd_595 : lw_tbl[595]? = some (Jvm.Cond.methodLink "CarpetEleven$Brother" (7 : Nat) ({ cls := "CarpetEleven$Halver", name := "steps", desc := "(IIIII)I" } : Jvm.MethodName)) := by decide +kernel
theorem wd_596 : lw_tbl[596]? = some (Jvm.Cond.instanceMethod ({ cls := "CarpetEleven$Halver", name := "steps", desc := "(IIIII)I" } : Jvm.MethodName)) := by decide +kernel
theorem wd_597 : lw_tbl[597]? = some (Jvm.Cond.code ({ cls := "CarpetEleven$Halver", name := "steps", desc := "(IIIII)I" } : Jvm.MethodName) prog_4_method_2_code (6 : Nat) (Option.some Jvm.ClassFile.FieldType.int)) := by decide +kernel
theorem wd_598 : lw_tbl[598]? = some (Jvm.Cond.methodLink "CarpetEleven$Halver" (7 : Nat) ({ cls := "CarpetEleven$Kind", name := "steps", desc := "(IIIII)I" } : Jvm.MethodName)) := by decide +kernel
theorem wd_599 : lw_tbl[599]? = some (Jvm.Cond.selects "CarpetEleven$Eager" ({ cls := "CarpetEleven$Kind", name := "steps", desc := "(IIIII)I" } : Jvm.MethodName) ({ cls := "CarpetEleven$Eager", name := "steps", desc := "(IIIII)I" } : Jvm.MethodName)) := by decide +kernel
theorem wd_600 : lw_tbl[600]? = some (Jvm.Cond.instanceMethod ({ cls := "CarpetEleven$Eager", name := "steps", desc := "(IIIII)I" } : Jvm.MethodName)) := by decide +kernel
theorem wd_601 : lw_tbl[601]? = some (Jvm.Cond.code ({ cls := "CarpetEleven$Eager", name := "steps", desc := "(IIIII)I" } : Jvm.MethodName) prog_3_method_2_code (6 : Nat) (Option.some Jvm.ClassFile.FieldType.int)) := by decide +kernel
theorem wd_602 : lw_tbl[602]? = some (Jvm.Cond.methodLink "CarpetEleven$Eager" (7 : Nat) ({ cls := "CarpetEleven$Halver", name := "steps", desc := "(IIIII)I" } : Jvm.MethodName)) := by decide +kernel
theorem wd_603 : lw_tbl[603]? = some (Jvm.Cond.selects "CarpetEleven$Halver" ({ cls := "CarpetEleven$Kind", name := "steps", desc := "(IIIII)I" } : Jvm.MethodName) ({ cls := "CarpetEleven$Halver", name := "steps", desc := "(IIIII)I" } : Jvm.MethodName)) := by decide +kernel
theorem wd_604 : lw_tbl[604]? = some (Jvm.Cond.selects "CarpetEleven$Slip" ({ cls := "CarpetEleven$Kind", name := "steps", desc := "(IIIII)I" } : Jvm.MethodName) ({ cls := "CarpetEleven$Slip", name := "steps", desc := "(IIIII)I" } : Jvm.MethodName)) := by decide +kernel
theorem wd_605 : lw_tbl[605]? = some (Jvm.Cond.instanceMethod ({ cls := "CarpetEleven$Slip", name := "steps", desc := "(IIIII)I" } : Jvm.MethodName)) := by decide +kernel
theorem wd_606 : lw_tbl[606]? = some (Jvm.Cond.code ({ cls := "CarpetEleven$Slip", name := "steps", desc := "(IIIII)I" } : Jvm.MethodName) prog_9_method_2_code (6 : Nat) (Option.some Jvm.ClassFile.FieldType.int)) := by decide +kernel
theorem wd_607 : lw_tbl[607]? = some (Jvm.Cond.selects "CarpetEleven$Stiff" ({ cls := "CarpetEleven$Kind", name := "steps", desc := "(IIIII)I" } : Jvm.MethodName) ({ cls := "CarpetEleven$Stiff", name := "steps", desc := "(IIIII)I" } : Jvm.MethodName)) := by decide +kernel
theorem wd_608 : lw_tbl[608]? = some (Jvm.Cond.instanceMethod ({ cls := "CarpetEleven$Stiff", name := "steps", desc := "(IIIII)I" } : Jvm.MethodName)) := by decide +kernel
theorem wd_609 : lw_tbl[609]? = some (Jvm.Cond.code ({ cls := "CarpetEleven$Stiff", name := "steps", desc := "(IIIII)I" } : Jvm.MethodName) prog_10_method_2_code (6 : Nat) (Option.some Jvm.ClassFile.FieldType.int)) := by decide +kernel
theorem wd_610 : lw_tbl[610]? = some (Jvm.Cond.methodLink "CarpetEleven$Stiff" (7 : Nat) ({ cls := "CarpetEleven$Kind", name := "steps", desc := "(IIIII)I" } : Jvm.MethodName)) := by decide +kernel
theorem wd_611 : lw_tbl[611]? = some (Jvm.Cond.methodLink "CarpetEleven$Stiff" (11 : Nat) ({ cls := "java/lang/Math", name := "min", desc := "(II)I" } : Jvm.MethodName)) := by decide +kernel
theorem wd_612 : lw_tbl[612]? = some (Jvm.Cond.code ({ cls := "CarpetEleven$Kind", name := "steps", desc := "(IIIII)I" } : Jvm.MethodName) prog_5_method_2_code (6 : Nat) (Option.some Jvm.ClassFile.FieldType.int)) := by decide +kernel
theorem wd_613 : lw_tbl[613]? = some (Jvm.Cond.methodLink "CarpetEleven$Seller" (60 : Nat) ({ cls := "CarpetEleven$Scene", name := "pull", desc := "(LCarpetEleven$Seller;I)I" } : Jvm.MethodName)) := by decide +kernel
theorem wd_614 : lw_tbl[614]? = some (Jvm.Cond.instanceMethod ({ cls := "CarpetEleven$Scene", name := "pull", desc := "(LCarpetEleven$Seller;I)I" } : Jvm.MethodName)) := by decide +kernel
theorem wd_615 : lw_tbl[615]? = some (Jvm.Cond.selects "CarpetEleven$Scene" ({ cls := "CarpetEleven$Scene", name := "pull", desc := "(LCarpetEleven$Seller;I)I" } : Jvm.MethodName) ({ cls := "CarpetEleven$Scene", name := "pull", desc := "(LCarpetEleven$Seller;I)I" } : Jvm.MethodName)) := by decide +kernel
theorem wd_616 : lw_tbl[616]? = some (Jvm.Cond.code ({ cls := "CarpetEleven$Scene", name := "pull", desc := "(LCarpetEleven$Seller;I)I" } : Jvm.MethodName) prog_6_method_5_code (4 : Nat) (Option.some Jvm.ClassFile.FieldType.int)) := by decide +kernel
theorem wd_617 : lw_tbl[617]? = some (Jvm.Cond.methodLink "CarpetEleven$Seller" (63 : Nat) ({ cls := "java/lang/Math", name := "max", desc := "(II)I" } : Jvm.MethodName)) := by decide +kernel
theorem wd_618 : lw_tbl[618]? = some (Jvm.Cond.methodLink "CarpetEleven$Seller" (69 : Nat) ({ cls := "java/lang/Math", name := "min", desc := "(II)I" } : Jvm.MethodName)) := by decide +kernel
theorem wd_619 : lw_tbl[619]? = some (Jvm.Cond.methodLink "CarpetEleven$Seller" (72 : Nat) ({ cls := "CarpetEleven$Kind", name := "takes", desc := "(IIIII)Z" } : Jvm.MethodName)) := by decide +kernel
theorem wd_620 : lw_tbl[620]? = some (Jvm.Cond.instanceMethod ({ cls := "CarpetEleven$Kind", name := "takes", desc := "(IIIII)Z" } : Jvm.MethodName)) := by decide +kernel
theorem wd_621 : lw_tbl[621]? = some (Jvm.Cond.selects "CarpetEleven$Kind" ({ cls := "CarpetEleven$Kind", name := "takes", desc := "(IIIII)Z" } : Jvm.MethodName) ({ cls := "CarpetEleven$Kind", name := "takes", desc := "(IIIII)Z" } : Jvm.MethodName)) := by decide +kernel
theorem wd_622 : lw_tbl[622]? = some (Jvm.Cond.sameMethod "CarpetEleven$Kind" "CarpetEleven$Kind" "takes" "(IIIII)Z") := by decide +kernel
theorem wd_623 : lw_tbl[623]? = some (Jvm.Cond.selects "CarpetEleven$Brother" ({ cls := "CarpetEleven$Kind", name := "takes", desc := "(IIIII)Z" } : Jvm.MethodName) ({ cls := "CarpetEleven$Brother", name := "takes", desc := "(IIIII)Z" } : Jvm.MethodName)) := by decide +kernel
theorem wd_624 : lw_tbl[624]? = some (Jvm.Cond.instanceMethod ({ cls := "CarpetEleven$Brother", name := "takes", desc := "(IIIII)Z" } : Jvm.MethodName)) := by decide +kernel
theorem wd_625 : lw_tbl[625]? = some (Jvm.Cond.code ({ cls := "CarpetEleven$Brother", name := "takes", desc := "(IIIII)Z" } : Jvm.MethodName) prog_2_method_3_code (6 : Nat) (Option.some Jvm.ClassFile.FieldType.boolean)) := by decide +kernel
theorem wd_626 : lw_tbl[626]? = some (Jvm.Cond.methodLink "CarpetEleven$Brother" (11 : Nat) ({ cls := "CarpetEleven$Halver", name := "takes", desc := "(IIIII)Z" } : Jvm.MethodName)) := by decide +kernel
theorem wd_627 : lw_tbl[627]? = some (Jvm.Cond.sameMethod "CarpetEleven$Halver" "CarpetEleven$Kind" "takes" "(IIIII)Z") := by decide +kernel
theorem wd_628 : lw_tbl[628]? = some (Jvm.Cond.declares ({ cls := "CarpetEleven$Kind", name := "takes", desc := "(IIIII)Z" } : Jvm.MethodName)) := by decide +kernel
theorem wd_629 : lw_tbl[629]? = some (Jvm.Cond.selects "CarpetEleven$Eager" ({ cls := "CarpetEleven$Kind", name := "takes", desc := "(IIIII)Z" } : Jvm.MethodName) ({ cls := "CarpetEleven$Eager", name := "takes", desc := "(IIIII)Z" } : Jvm.MethodName)) := by decide +kernel
theorem wd_630 : lw_tbl[630]? = some (Jvm.Cond.instanceMethod ({ cls := "CarpetEleven$Eager", name := "takes", desc := "(IIIII)Z" } : Jvm.MethodName)) := by decide +kernel
theorem wd_631 : lw_tbl[631]? = some (Jvm.Cond.code ({ cls := "CarpetEleven$Eager", name := "takes", desc := "(IIIII)Z" } : Jvm.MethodName) prog_3_method_3_code (6 : Nat) (Option.some Jvm.ClassFile.FieldType.boolean)) := by decide +kernel
theorem wd_632 : lw_tbl[632]? = some (Jvm.Cond.selects "CarpetEleven$Halver" ({ cls := "CarpetEleven$Kind", name := "takes", desc := "(IIIII)Z" } : Jvm.MethodName) ({ cls := "CarpetEleven$Kind", name := "takes", desc := "(IIIII)Z" } : Jvm.MethodName)) := by decide +kernel
theorem wd_633 : lw_tbl[633]? = some (Jvm.Cond.selects "CarpetEleven$Slip" ({ cls := "CarpetEleven$Kind", name := "takes", desc := "(IIIII)Z" } : Jvm.MethodName) ({ cls := "CarpetEleven$Slip", name := "takes", desc := "(IIIII)Z" } : Jvm.MethodName)) := by decide +kernel
theorem wd_634 : lw_tbl[634]? = some (Jvm.Cond.instanceMethod ({ cls := "CarpetEleven$Slip", name := "takes", desc := "(IIIII)Z" } : Jvm.MethodName)) := by decide +kernel
theorem wd_635 : lw_tbl[635]? = some (Jvm.Cond.code ({ cls := "CarpetEleven$Slip", name := "takes", desc := "(IIIII)Z" } : Jvm.MethodName) prog_9_method_3_code (6 : Nat) (Option.some Jvm.ClassFile.FieldType.boolean)) := by decide +kernel
theorem wd_636 : lw_tbl[636]? = some (Jvm.Cond.selects "CarpetEleven$Stiff" ({ cls := "CarpetEleven$Kind", name := "takes", desc := "(IIIII)Z" } : Jvm.MethodName) ({ cls := "CarpetEleven$Kind", name := "takes", desc := "(IIIII)Z" } : Jvm.MethodName)) := by decide +kernel
theorem wd_637 : lw_tbl[637]? = some (Jvm.Cond.code ({ cls := "CarpetEleven$Kind", name := "takes", desc := "(IIIII)Z" } : Jvm.MethodName) prog_5_method_3_code (6 : Nat) (Option.some Jvm.ClassFile.FieldType.boolean)) := by decide +kernel
theorem wd_638 : lw_tbl[638]? = some (Jvm.Cond.methodLink "CarpetEleven$Seller" (76 : Nat) ({ cls := "CarpetEleven$Seller", name := "sellAt", desc := "(I)V" } : Jvm.MethodName)) := by decide +kernel
theorem wd_639 : lw_tbl[639]? = some (Jvm.Cond.instanceMethod ({ cls := "CarpetEleven$Seller", name := "sellAt", desc := "(I)V" } : Jvm.MethodName)) := by decide +kernel
theorem wd_640 : lw_tbl[640]? = some (Jvm.Cond.selects "CarpetEleven$Seller" ({ cls := "CarpetEleven$Seller", name := "sellAt", desc := "(I)V" } : Jvm.MethodName) ({ cls := "CarpetEleven$Seller", name := "sellAt", desc := "(I)V" } : Jvm.MethodName)) := by decide +kernel
theorem wd_641 : lw_tbl[641]? = some (Jvm.Cond.code ({ cls := "CarpetEleven$Seller", name := "sellAt", desc := "(I)V" } : Jvm.MethodName) prog_7_method_5_code (2 : Nat) (Option.none : Option Jvm.ClassFile.FieldType)) := by decide +kernel
theorem wd_642 : lw_tbl[642]? = some (Jvm.Cond.methodLink "CarpetEleven$Seller" (80 : Nat) ({ cls := "CarpetEleven$Kind", name := "stays", desc := "(I)I" } : Jvm.MethodName)) := by decide +kernel
theorem wd_643 : lw_tbl[643]? = some (Jvm.Cond.methodLink "CarpetElevenLaw" (49 : Nat) ({ cls := "CarpetEleven", name := "agree", desc := "(I)I" } : Jvm.MethodName)) := by decide +kernel
theorem wd_644 : lw_tbl[644]? = some (Jvm.Cond.instanceMethod ({ cls := "CarpetEleven", name := "agree", desc := "(I)I" } : Jvm.MethodName)) := by decide +kernel
theorem wd_645 : lw_tbl[645]? = some (Jvm.Cond.selects "CarpetEleven" ({ cls := "CarpetEleven", name := "agree", desc := "(I)I" } : Jvm.MethodName) ({ cls := "CarpetEleven", name := "agree", desc := "(I)I" } : Jvm.MethodName)) := by decide +kernel
theorem wd_646 : lw_tbl[646]? = some (Jvm.Cond.code ({ cls := "CarpetEleven", name := "agree", desc := "(I)I" } : Jvm.MethodName) prog_1_method_10_code (2 : Nat) (Option.some Jvm.ClassFile.FieldType.int)) := by decide +kernel
theorem wd_647 : lw_tbl[647]? = some (Jvm.Cond.methodLink "CarpetEleven" (195 : Nat) ({ cls := "CarpetEleven$Seller", name := "sellAt", desc := "(I)V" } : Jvm.MethodName)) := by decide +kernel
theorem wd_648 : lw_tbl[648]? = some (Jvm.Cond.methodLink "CarpetElevenLaw" (53 : Nat) ({ cls := "CarpetEleven", name := "rule", desc := "(IIII)I" } : Jvm.MethodName)) := by decide +kernel
theorem wd_649 : lw_tbl[649]? = some (Jvm.Cond.instanceMethod ({ cls := "CarpetEleven", name := "rule", desc := "(IIII)I" } : Jvm.MethodName)) := by decide +kernel
theorem wd_650 : lw_tbl[650]? = some (Jvm.Cond.selects "CarpetEleven" ({ cls := "CarpetEleven", name := "rule", desc := "(IIII)I" } : Jvm.MethodName) ({ cls := "CarpetEleven", name := "rule", desc := "(IIII)I" } : Jvm.MethodName)) := by decide +kernel
theorem wd_651 : lw_tbl[651]? = some (Jvm.Cond.code ({ cls := "CarpetEleven", name := "rule", desc := "(IIII)I" } : Jvm.MethodName) prog_1_method_11_code (6 : Nat) (Option.some Jvm.ClassFile.FieldType.int)) := by decide +kernel
theorem wd_652 : lw_tbl[652]? = some (Jvm.Cond.methodLink "CarpetEleven" (198 : Nat) ({ cls := "CarpetEleven", name := "isRule", desc := "(II)Z" } : Jvm.MethodName)) := by decide +kernel
theorem wd_653 : lw_tbl[653]? = some (Jvm.Cond.static ({ cls := "CarpetEleven", name := "isRule", desc := "(II)Z" } : Jvm.MethodName)) := by decide +kernel
theorem wd_654 : lw_tbl[654]? = some (Jvm.Cond.code ({ cls := "CarpetEleven", name := "isRule", desc := "(II)Z" } : Jvm.MethodName) prog_1_method_33_code (2 : Nat) (Option.some Jvm.ClassFile.FieldType.boolean)) := by decide +kernel
theorem wd_655 : lw_tbl[655]? = some (Jvm.Cond.methodLink "CarpetEleven" (202 : Nat) ({ cls := "CarpetEleven", name := "endByRule", desc := "(III)LCarpetEleven$Seller;" } : Jvm.MethodName)) := by decide +kernel
theorem wd_656 : lw_tbl[656]? = some (Jvm.Cond.privateMethod ({ cls := "CarpetEleven", name := "endByRule", desc := "(III)LCarpetEleven$Seller;" } : Jvm.MethodName)) := by decide +kernel
theorem wd_657 : lw_tbl[657]? = some (Jvm.Cond.instanceMethod ({ cls := "CarpetEleven", name := "endByRule", desc := "(III)LCarpetEleven$Seller;" } : Jvm.MethodName)) := by decide +kernel
theorem wd_658 : lw_tbl[658]? = some (Jvm.Cond.code ({ cls := "CarpetEleven", name := "endByRule", desc := "(III)LCarpetEleven$Seller;" } : Jvm.MethodName) prog_1_method_41_code (4 : Nat) (Option.some (Jvm.ClassFile.FieldType.object "CarpetEleven$Seller"))) := by decide +kernel
theorem wd_659 : lw_tbl[659]? = some (Jvm.Cond.methodLink "CarpetEleven" (209 : Nat) ({ cls := "CarpetEleven$Seller", name := "take", desc := "(LCarpetEleven$Seller;)V" } : Jvm.MethodName)) := by decide +kernel
theorem wd_660 : lw_tbl[660]? = some (Jvm.Cond.instanceMethod ({ cls := "CarpetEleven$Seller", name := "take", desc := "(LCarpetEleven$Seller;)V" } : Jvm.MethodName)) := by decide +kernel
theorem wd_661 : lw_tbl[661]? = some (Jvm.Cond.selects "CarpetEleven$Seller" ({ cls := "CarpetEleven$Seller", name := "take", desc := "(LCarpetEleven$Seller;)V" } : Jvm.MethodName) ({ cls := "CarpetEleven$Seller", name := "take", desc := "(LCarpetEleven$Seller;)V" } : Jvm.MethodName)) := by decide +kernel
theorem wd_662 : lw_tbl[662]? = some (Jvm.Cond.code ({ cls := "CarpetEleven$Seller", name := "take", desc := "(LCarpetEleven$Seller;)V" } : Jvm.MethodName) prog_7_method_2_code (2 : Nat) (Option.none : Option Jvm.ClassFile.FieldType)) := by decide +kernel
theorem wd_663 : lw_tbl[663]? = some (Jvm.Cond.methodLink "CarpetEleven$Seller" (37 : Nat) ({ cls := "CarpetEleven$Seller", name := "takeTalk", desc := "(LCarpetEleven$Seller;)V" } : Jvm.MethodName)) := by decide +kernel
theorem wd_664 : lw_tbl[664]? = some (Jvm.Cond.instanceMethod ({ cls := "CarpetEleven$Seller", name := "takeTalk", desc := "(LCarpetEleven$Seller;)V" } : Jvm.MethodName)) := by decide +kernel
theorem wd_665 : lw_tbl[665]? = some (Jvm.Cond.selects "CarpetEleven$Seller" ({ cls := "CarpetEleven$Seller", name := "takeTalk", desc := "(LCarpetEleven$Seller;)V" } : Jvm.MethodName) ({ cls := "CarpetEleven$Seller", name := "takeTalk", desc := "(LCarpetEleven$Seller;)V" } : Jvm.MethodName)) := by decide +kernel
theorem wd_666 : lw_tbl[666]? = some (Jvm.Cond.code ({ cls := "CarpetEleven$Seller", name := "takeTalk", desc := "(LCarpetEleven$Seller;)V" } : Jvm.MethodName) prog_7_method_3_code (2 : Nat) (Option.none : Option Jvm.ClassFile.FieldType)) := by decide +kernel
theorem wd_667 : lw_tbl[667]? = some (Jvm.Cond.methodLink "CarpetEleven" (212 : Nat) ({ cls := "CarpetEleven$Seller", name := "goByRule", desc := "(IILCarpetEleven$Scene;)V" } : Jvm.MethodName)) := by decide +kernel
theorem wd_668 : lw_tbl[668]? = some (Jvm.Cond.instanceMethod ({ cls := "CarpetEleven$Seller", name := "goByRule", desc := "(IILCarpetEleven$Scene;)V" } : Jvm.MethodName)) := by decide +kernel
theorem wd_669 : lw_tbl[669]? = some (Jvm.Cond.selects "CarpetEleven$Seller" ({ cls := "CarpetEleven$Seller", name := "goByRule", desc := "(IILCarpetEleven$Scene;)V" } : Jvm.MethodName) ({ cls := "CarpetEleven$Seller", name := "goByRule", desc := "(IILCarpetEleven$Scene;)V" } : Jvm.MethodName)) := by decide +kernel
theorem wd_670 : lw_tbl[670]? = some (Jvm.Cond.code ({ cls := "CarpetEleven$Seller", name := "goByRule", desc := "(IILCarpetEleven$Scene;)V" } : Jvm.MethodName) prog_7_method_7_code (6 : Nat) (Option.none : Option Jvm.ClassFile.FieldType)) := by decide +kernel
theorem wd_671 : lw_tbl[671]? = some (Jvm.Cond.methodLink "CarpetEleven$Seller" (87 : Nat) ({ cls := "CarpetEleven$Seller", name := "hear", desc := "(ILCarpetEleven$Scene;)V" } : Jvm.MethodName)) := by decide +kernel
theorem wd_672 : lw_tbl[672]? = some (Jvm.Cond.methodLink "CarpetElevenLaw" (58 : Nat) ({ cls := "CarpetEleven", name := "bestRule", desc := "(II)I" } : Jvm.MethodName)) := by decide +kernel
theorem wd_673 : lw_tbl[673]? = some (Jvm.Cond.instanceMethod ({ cls := "CarpetEleven", name := "bestRule", desc := "(II)I" } : Jvm.MethodName)) := by decide +kernel
theorem wd_674 : lw_tbl[674]? = some (Jvm.Cond.selects "CarpetEleven" ({ cls := "CarpetEleven", name := "bestRule", desc := "(II)I" } : Jvm.MethodName) ({ cls := "CarpetEleven", name := "bestRule", desc := "(II)I" } : Jvm.MethodName)) := by decide +kernel
theorem wd_675 : lw_tbl[675]? = some (Jvm.Cond.code ({ cls := "CarpetEleven", name := "bestRule", desc := "(II)I" } : Jvm.MethodName) prog_1_method_12_code (9 : Nat) (Option.some Jvm.ClassFile.FieldType.int)) := by decide +kernel
theorem wd_676 : lw_tbl[676]? = some (Jvm.Cond.methodLink "CarpetElevenLaw" (62 : Nat) ({ cls := "CarpetEleven", name := "bestAt", desc := "(IIII)I" } : Jvm.MethodName)) := by decide +kernel
theorem wd_677 : lw_tbl[677]? = some (Jvm.Cond.instanceMethod ({ cls := "CarpetEleven", name := "bestAt", desc := "(IIII)I" } : Jvm.MethodName)) := by decide +kernel
theorem wd_678 : lw_tbl[678]? = some (Jvm.Cond.selects "CarpetEleven" ({ cls := "CarpetEleven", name := "bestAt", desc := "(IIII)I" } : Jvm.MethodName) ({ cls := "CarpetEleven", name := "bestAt", desc := "(IIII)I" } : Jvm.MethodName)) := by decide +kernel
theorem wd_679 : lw_tbl[679]? = some (Jvm.Cond.code ({ cls := "CarpetEleven", name := "bestAt", desc := "(IIII)I" } : Jvm.MethodName) prog_1_method_13_code (8 : Nat) (Option.some Jvm.ClassFile.FieldType.int)) := by decide +kernel
theorem wd_680 : lw_tbl[680]? = some (Jvm.Cond.methodLink "CarpetEleven" (206 : Nat) ({ cls := "CarpetEleven$Scene", name := "take", desc := "(LCarpetEleven$Scene;)V" } : Jvm.MethodName)) := by decide +kernel
theorem wd_681 : lw_tbl[681]? = some (Jvm.Cond.instanceMethod ({ cls := "CarpetEleven$Scene", name := "take", desc := "(LCarpetEleven$Scene;)V" } : Jvm.MethodName)) := by decide +kernel
theorem wd_682 : lw_tbl[682]? = some (Jvm.Cond.selects "CarpetEleven$Scene" ({ cls := "CarpetEleven$Scene", name := "take", desc := "(LCarpetEleven$Scene;)V" } : Jvm.MethodName) ({ cls := "CarpetEleven$Scene", name := "take", desc := "(LCarpetEleven$Scene;)V" } : Jvm.MethodName)) := by decide +kernel
theorem wd_683 : lw_tbl[683]? = some (Jvm.Cond.code ({ cls := "CarpetEleven$Scene", name := "take", desc := "(LCarpetEleven$Scene;)V" } : Jvm.MethodName) prog_6_method_2_code (2 : Nat) (Option.none : Option Jvm.ClassFile.FieldType)) := by decide +kernel
theorem wd_684 : lw_tbl[684]? = some (Jvm.Cond.methodLink "CarpetElevenLaw" (66 : Nat) ({ cls := "CarpetEleven", name := "whom", desc := "(II)I" } : Jvm.MethodName)) := by decide +kernel
theorem wd_685 : lw_tbl[685]? = some (Jvm.Cond.instanceMethod ({ cls := "CarpetEleven", name := "whom", desc := "(II)I" } : Jvm.MethodName)) := by decide +kernel
theorem wd_686 : lw_tbl[686]? = some (Jvm.Cond.selects "CarpetEleven" ({ cls := "CarpetEleven", name := "whom", desc := "(II)I" } : Jvm.MethodName) ({ cls := "CarpetEleven", name := "whom", desc := "(II)I" } : Jvm.MethodName)) := by decide +kernel
theorem wd_687 : lw_tbl[687]? = some (Jvm.Cond.code ({ cls := "CarpetEleven", name := "whom", desc := "(II)I" } : Jvm.MethodName) prog_1_method_14_code (7 : Nat) (Option.some Jvm.ClassFile.FieldType.int)) := by decide +kernel
theorem wd_688 : lw_tbl[688]? = some (Jvm.Cond.methodLink "CarpetElevenLaw" (70 : Nat) ({ cls := "CarpetEleven", name := "allInTurn", desc := "(III)I" } : Jvm.MethodName)) := by decide +kernel
theorem wd_689 : lw_tbl[689]? = some (Jvm.Cond.instanceMethod ({ cls := "CarpetEleven", name := "allInTurn", desc := "(III)I" } : Jvm.MethodName)) := by decide +kernel
theorem wd_690 : lw_tbl[690]? = some (Jvm.Cond.selects "CarpetEleven" ({ cls := "CarpetEleven", name := "allInTurn", desc := "(III)I" } : Jvm.MethodName) ({ cls := "CarpetEleven", name := "allInTurn", desc := "(III)I" } : Jvm.MethodName)) := by decide +kernel
theorem wd_691 : lw_tbl[691]? = some (Jvm.Cond.code ({ cls := "CarpetEleven", name := "allInTurn", desc := "(III)I" } : Jvm.MethodName) prog_1_method_15_code (8 : Nat) (Option.some Jvm.ClassFile.FieldType.int)) := by decide +kernel
theorem wd_692 : lw_tbl[692]? = some (Jvm.Cond.methodLink "CarpetElevenLaw" (74 : Nat) ({ cls := "CarpetEleven", name := "hisCost", desc := "(III)I" } : Jvm.MethodName)) := by decide +kernel
theorem wd_693 : lw_tbl[693]? = some (Jvm.Cond.instanceMethod ({ cls := "CarpetEleven", name := "hisCost", desc := "(III)I" } : Jvm.MethodName)) := by decide +kernel
theorem wd_694 : lw_tbl[694]? = some (Jvm.Cond.selects "CarpetEleven" ({ cls := "CarpetEleven", name := "hisCost", desc := "(III)I" } : Jvm.MethodName) ({ cls := "CarpetEleven", name := "hisCost", desc := "(III)I" } : Jvm.MethodName)) := by decide +kernel
theorem wd_695 : lw_tbl[695]? = some (Jvm.Cond.code ({ cls := "CarpetEleven", name := "hisCost", desc := "(III)I" } : Jvm.MethodName) prog_1_method_16_code (8 : Nat) (Option.some Jvm.ClassFile.FieldType.int)) := by decide +kernel
theorem wd_696 : lw_tbl[696]? = some (Jvm.Cond.methodLink "CarpetEleven" (216 : Nat) ({ cls := "CarpetEleven", name := "isSheet", desc := "(I)Z" } : Jvm.MethodName)) := by decide +kernel
theorem wd_697 : lw_tbl[697]? = some (Jvm.Cond.static ({ cls := "CarpetEleven", name := "isSheet", desc := "(I)Z" } : Jvm.MethodName)) := by decide +kernel
theorem wd_698 : lw_tbl[698]? = some (Jvm.Cond.code ({ cls := "CarpetEleven", name := "isSheet", desc := "(I)Z" } : Jvm.MethodName) prog_1_method_31_code (1 : Nat) (Option.some Jvm.ClassFile.FieldType.boolean)) := by decide +kernel
theorem wd_699 : lw_tbl[699]? = some (Jvm.Cond.methodLink "CarpetEleven" (219 : Nat) ({ cls := "CarpetEleven$Sheet", name := "isMissing", desc := "()Z" } : Jvm.MethodName)) := by decide +kernel
theorem wd_700 : lw_tbl[700]? = some (Jvm.Cond.instanceMethod ({ cls := "CarpetEleven$Sheet", name := "isMissing", desc := "()Z" } : Jvm.MethodName)) := by decide +kernel
theorem wd_701 : lw_tbl[701]? = some (Jvm.Cond.selects "CarpetEleven$Sheet" ({ cls := "CarpetEleven$Sheet", name := "isMissing", desc := "()Z" } : Jvm.MethodName) ({ cls := "CarpetEleven$Sheet", name := "isMissing", desc := "()Z" } : Jvm.MethodName)) := by decide +kernel
theorem wd_702 : lw_tbl[702]? = some (Jvm.Cond.code ({ cls := "CarpetEleven$Sheet", name := "isMissing", desc := "()Z" } : Jvm.MethodName) prog_8_method_2_code (1 : Nat) (Option.some Jvm.ClassFile.FieldType.boolean)) := by decide +kernel
theorem wd_703 : lw_tbl[703]? = some (Jvm.Cond.methodLink "CarpetEleven" (224 : Nat) ({ cls := "CarpetEleven", name := "saysSo", desc := "(IILCarpetEleven$Sheet;)Z" } : Jvm.MethodName)) := by decide +kernel
theorem wd_704 : lw_tbl[704]? = some (Jvm.Cond.privateMethod ({ cls := "CarpetEleven", name := "saysSo", desc := "(IILCarpetEleven$Sheet;)Z" } : Jvm.MethodName)) := by decide +kernel
theorem wd_705 : lw_tbl[705]? = some (Jvm.Cond.instanceMethod ({ cls := "CarpetEleven", name := "saysSo", desc := "(IILCarpetEleven$Sheet;)Z" } : Jvm.MethodName)) := by decide +kernel
theorem wd_706 : lw_tbl[706]? = some (Jvm.Cond.code ({ cls := "CarpetEleven", name := "saysSo", desc := "(IILCarpetEleven$Sheet;)Z" } : Jvm.MethodName) prog_1_method_42_code (5 : Nat) (Option.some Jvm.ClassFile.FieldType.boolean)) := by decide +kernel
theorem wd_707 : lw_tbl[707]? = some (Jvm.Cond.methodLink "CarpetEleven" (228 : Nat) ({ cls := "CarpetEleven$Sheet", name := "at", desc := "(I)I" } : Jvm.MethodName)) := by decide +kernel
theorem wd_708 : lw_tbl[708]? = some (Jvm.Cond.instanceMethod ({ cls := "CarpetEleven$Sheet", name := "at", desc := "(I)I" } : Jvm.MethodName)) := by decide +kernel
theorem wd_709 : lw_tbl[709]? = some (Jvm.Cond.selects "CarpetEleven$Sheet" ({ cls := "CarpetEleven$Sheet", name := "at", desc := "(I)I" } : Jvm.MethodName) ({ cls := "CarpetEleven$Sheet", name := "at", desc := "(I)I" } : Jvm.MethodName)) := by decide +kernel
theorem wd_710 : lw_tbl[710]? = some (Jvm.Cond.code ({ cls := "CarpetEleven$Sheet", name := "at", desc := "(I)I" } : Jvm.MethodName) prog_8_method_6_code (2 : Nat) (Option.some Jvm.ClassFile.FieldType.int)) := by decide +kernel
theorem wd_711 : lw_tbl[711]? = some (Jvm.Cond.methodLink "CarpetEleven$Sheet" (26 : Nat) ({ cls := "CarpetEleven$Sheet", name := "has", desc := "(I)Z" } : Jvm.MethodName)) := by decide +kernel
theorem wd_712 : lw_tbl[712]? = some (Jvm.Cond.instanceMethod ({ cls := "CarpetEleven$Sheet", name := "has", desc := "(I)Z" } : Jvm.MethodName)) := by decide +kernel
theorem wd_713 : lw_tbl[713]? = some (Jvm.Cond.selects "CarpetEleven$Sheet" ({ cls := "CarpetEleven$Sheet", name := "has", desc := "(I)Z" } : Jvm.MethodName) ({ cls := "CarpetEleven$Sheet", name := "has", desc := "(I)Z" } : Jvm.MethodName)) := by decide +kernel
theorem wd_714 : lw_tbl[714]? = some (Jvm.Cond.code ({ cls := "CarpetEleven$Sheet", name := "has", desc := "(I)Z" } : Jvm.MethodName) prog_8_method_4_code (2 : Nat) (Option.some Jvm.ClassFile.FieldType.boolean)) := by decide +kernel
theorem wd_715 : lw_tbl[715]? = some (Jvm.Cond.methodLink "CarpetElevenLaw" (78 : Nat) ({ cls := "CarpetEleven", name := "slipped", desc := "(III)I" } : Jvm.MethodName)) := by decide +kernel
theorem wd_716 : lw_tbl[716]? = some (Jvm.Cond.instanceMethod ({ cls := "CarpetEleven", name := "slipped", desc := "(III)I" } : Jvm.MethodName)) := by decide +kernel
theorem wd_717 : lw_tbl[717]? = some (Jvm.Cond.selects "CarpetEleven" ({ cls := "CarpetEleven", name := "slipped", desc := "(III)I" } : Jvm.MethodName) ({ cls := "CarpetEleven", name := "slipped", desc := "(III)I" } : Jvm.MethodName)) := by decide +kernel
theorem wd_718 : lw_tbl[718]? = some (Jvm.Cond.code ({ cls := "CarpetEleven", name := "slipped", desc := "(III)I" } : Jvm.MethodName) prog_1_method_17_code (4 : Nat) (Option.some Jvm.ClassFile.FieldType.int)) := by decide +kernel
theorem wd_719 : lw_tbl[719]? = some (Jvm.Cond.methodLink "CarpetElevenLaw" (82 : Nat) ({ cls := "CarpetEleven", name := "market", desc := "(IIII)I" } : Jvm.MethodName)) := by decide +kernel
theorem wd_720 : lw_tbl[720]? = some (Jvm.Cond.instanceMethod ({ cls := "CarpetEleven", name := "market", desc := "(IIII)I" } : Jvm.MethodName)) := by decide +kernel
theorem wd_721 : lw_tbl[721]? = some (Jvm.Cond.selects "CarpetEleven" ({ cls := "CarpetEleven", name := "market", desc := "(IIII)I" } : Jvm.MethodName) ({ cls := "CarpetEleven", name := "market", desc := "(IIII)I" } : Jvm.MethodName)) := by decide +kernel
theorem wd_722 : lw_tbl[722]? = some (Jvm.Cond.code ({ cls := "CarpetEleven", name := "market", desc := "(IIII)I" } : Jvm.MethodName) prog_1_method_18_code (12 : Nat) (Option.some Jvm.ClassFile.FieldType.int)) := by decide +kernel
theorem wd_723 : lw_tbl[723]? = some (Jvm.Cond.methodLink "CarpetEleven" (231 : Nat) ({ cls := "CarpetEleven", name := "within", desc := "(III)I" } : Jvm.MethodName)) := by decide +kernel
theorem wd_724 : lw_tbl[724]? = some (Jvm.Cond.methodLink "CarpetEleven" (235 : Nat) ({ cls := "CarpetEleven", name := "crowdHasHope", desc := "()Z" } : Jvm.MethodName)) := by decide +kernel
theorem wd_725 : lw_tbl[725]? = some (Jvm.Cond.privateMethod ({ cls := "CarpetEleven", name := "crowdHasHope", desc := "()Z" } : Jvm.MethodName)) := by decide +kernel
theorem wd_726 : lw_tbl[726]? = some (Jvm.Cond.instanceMethod ({ cls := "CarpetEleven", name := "crowdHasHope", desc := "()Z" } : Jvm.MethodName)) := by decide +kernel
theorem wd_727 : lw_tbl[727]? = some (Jvm.Cond.code ({ cls := "CarpetEleven", name := "crowdHasHope", desc := "()Z" } : Jvm.MethodName) prog_1_method_43_code (2 : Nat) (Option.some Jvm.ClassFile.FieldType.boolean)) := by decide +kernel
theorem wd_728 : lw_tbl[728]? = some (Jvm.Cond.methodLink "CarpetEleven" (238 : Nat) ({ cls := "CarpetEleven", name := "crowdSells", desc := "(II)I" } : Jvm.MethodName)) := by decide +kernel
theorem wd_729 : lw_tbl[729]? = some (Jvm.Cond.privateMethod ({ cls := "CarpetEleven", name := "crowdSells", desc := "(II)I" } : Jvm.MethodName)) := by decide +kernel
theorem wd_730 : lw_tbl[730]? = some (Jvm.Cond.instanceMethod ({ cls := "CarpetEleven", name := "crowdSells", desc := "(II)I" } : Jvm.MethodName)) := by decide +kernel
theorem wd_731 : lw_tbl[731]? = some (Jvm.Cond.code ({ cls := "CarpetEleven", name := "crowdSells", desc := "(II)I" } : Jvm.MethodName) prog_1_method_44_code (4 : Nat) (Option.some Jvm.ClassFile.FieldType.int)) := by decide +kernel
theorem wd_732 : lw_tbl[732]? = some (Jvm.Cond.methodLink "CarpetElevenLaw" (86 : Nat) ({ cls := "CarpetEleven", name := "judge", desc := "(II)I" } : Jvm.MethodName)) := by decide +kernel
theorem wd_733 : lw_tbl[733]? = some (Jvm.Cond.instanceMethod ({ cls := "CarpetEleven", name := "judge", desc := "(II)I" } : Jvm.MethodName)) := by decide +kernel
theorem wd_734 : lw_tbl[734]? = some (Jvm.Cond.selects "CarpetEleven" ({ cls := "CarpetEleven", name := "judge", desc := "(II)I" } : Jvm.MethodName) ({ cls := "CarpetEleven", name := "judge", desc := "(II)I" } : Jvm.MethodName)) := by decide +kernel
theorem wd_735 : lw_tbl[735]? = some (Jvm.Cond.code ({ cls := "CarpetEleven", name := "judge", desc := "(II)I" } : Jvm.MethodName) prog_1_method_19_code (5 : Nat) (Option.some Jvm.ClassFile.FieldType.int)) := by decide +kernel
theorem wd_736 : lw_tbl[736]? = some (Jvm.Cond.methodLink "CarpetElevenLaw" (90 : Nat) ({ cls := "CarpetEleven", name := "drawn", desc := "(II)I" } : Jvm.MethodName)) := by decide +kernel
theorem wd_737 : lw_tbl[737]? = some (Jvm.Cond.instanceMethod ({ cls := "CarpetEleven", name := "drawn", desc := "(II)I" } : Jvm.MethodName)) := by decide +kernel
theorem wd_738 : lw_tbl[738]? = some (Jvm.Cond.selects "CarpetEleven" ({ cls := "CarpetEleven", name := "drawn", desc := "(II)I" } : Jvm.MethodName) ({ cls := "CarpetEleven", name := "drawn", desc := "(II)I" } : Jvm.MethodName)) := by decide +kernel
theorem wd_739 : lw_tbl[739]? = some (Jvm.Cond.code ({ cls := "CarpetEleven", name := "drawn", desc := "(II)I" } : Jvm.MethodName) prog_1_method_20_code (3 : Nat) (Option.some Jvm.ClassFile.FieldType.int)) := by decide +kernel
theorem wd_740 : lw_tbl[740]? = some (Jvm.Cond.methodLink "CarpetEleven" (241 : Nat) ({ cls := "CarpetEleven", name := "standsBySeed", desc := "(II)I" } : Jvm.MethodName)) := by decide +kernel
theorem wd_741 : lw_tbl[741]? = some (Jvm.Cond.privateMethod ({ cls := "CarpetEleven", name := "standsBySeed", desc := "(II)I" } : Jvm.MethodName)) := by decide +kernel
theorem wd_742 : lw_tbl[742]? = some (Jvm.Cond.instanceMethod ({ cls := "CarpetEleven", name := "standsBySeed", desc := "(II)I" } : Jvm.MethodName)) := by decide +kernel
theorem wd_743 : lw_tbl[743]? = some (Jvm.Cond.code ({ cls := "CarpetEleven", name := "standsBySeed", desc := "(II)I" } : Jvm.MethodName) prog_1_method_45_code (5 : Nat) (Option.some Jvm.ClassFile.FieldType.int)) := by decide +kernel
theorem wd_744 : lw_tbl[744]? = some (Jvm.Cond.constant "CarpetEleven" (293 : Nat) (1103515245 : Int32)) := by decide +kernel
theorem wd_745 : lw_tbl[745]? = some (Jvm.Cond.methodLink "CarpetElevenLaw" (94 : Nat) ({ cls := "CarpetEleven", name := "odds", desc := "(IIII)J" } : Jvm.MethodName)) := by decide +kernel
theorem wd_746 : lw_tbl[746]? = some (Jvm.Cond.instanceMethod ({ cls := "CarpetEleven", name := "odds", desc := "(IIII)J" } : Jvm.MethodName)) := by decide +kernel
theorem wd_747 : lw_tbl[747]? = some (Jvm.Cond.selects "CarpetEleven" ({ cls := "CarpetEleven", name := "odds", desc := "(IIII)J" } : Jvm.MethodName) ({ cls := "CarpetEleven", name := "odds", desc := "(IIII)J" } : Jvm.MethodName)) := by decide +kernel
theorem wd_748 : lw_tbl[748]? = some (Jvm.Cond.code ({ cls := "CarpetEleven", name := "odds", desc := "(IIII)J" } : Jvm.MethodName) prog_1_method_21_code (7 : Nat) (Option.some Jvm.ClassFile.FieldType.long)) := by decide +kernel
theorem wd_749 : lw_tbl[749]? = some (Jvm.Cond.constantLong "CarpetEleven" (244 : Nat) (-4611686018427387904 : Int64)) := by decide +kernel
theorem wd_750 : lw_tbl[750]? = some (Jvm.Cond.methodLink "CarpetEleven" (246 : Nat) ({ cls := "CarpetEleven", name := "commonDivisor", desc := "(II)I" } : Jvm.MethodName)) := by decide +kernel
theorem wd_751 : lw_tbl[751]? = some (Jvm.Cond.static ({ cls := "CarpetEleven", name := "commonDivisor", desc := "(II)I" } : Jvm.MethodName)) := by decide +kernel
theorem wd_752 : lw_tbl[752]? = some (Jvm.Cond.code ({ cls := "CarpetEleven", name := "commonDivisor", desc := "(II)I" } : Jvm.MethodName) prog_1_method_36_code (6 : Nat) (Option.some Jvm.ClassFile.FieldType.int)) := by decide +kernel
theorem wd_753 : lw_tbl[753]? = some (Jvm.Cond.methodLink "CarpetElevenLaw" (99 : Nat) ({ cls := "CarpetEleven", name := "image", desc := "()I" } : Jvm.MethodName)) := by decide +kernel
theorem wd_754 : lw_tbl[754]? = some (Jvm.Cond.instanceMethod ({ cls := "CarpetEleven", name := "image", desc := "()I" } : Jvm.MethodName)) := by decide +kernel
theorem wd_755 : lw_tbl[755]? = some (Jvm.Cond.selects "CarpetEleven" ({ cls := "CarpetEleven", name := "image", desc := "()I" } : Jvm.MethodName) ({ cls := "CarpetEleven", name := "image", desc := "()I" } : Jvm.MethodName)) := by decide +kernel
theorem wd_756 : lw_tbl[756]? = some (Jvm.Cond.code ({ cls := "CarpetEleven", name := "image", desc := "()I" } : Jvm.MethodName) prog_1_method_22_code (2 : Nat) (Option.some Jvm.ClassFile.FieldType.int)) := by decide +kernel
theorem wd_757 : lw_tbl[757]? = some (Jvm.Cond.methodLink "CarpetEleven" (249 : Nat) ({ cls := "CarpetEleven", name := "howMany", desc := "(I)I" } : Jvm.MethodName)) := by decide +kernel
theorem wd_758 : lw_tbl[758]? = some (Jvm.Cond.privateMethod ({ cls := "CarpetEleven", name := "howMany", desc := "(I)I" } : Jvm.MethodName)) := by decide +kernel
theorem wd_759 : lw_tbl[759]? = some (Jvm.Cond.instanceMethod ({ cls := "CarpetEleven", name := "howMany", desc := "(I)I" } : Jvm.MethodName)) := by decide +kernel
theorem wd_760 : lw_tbl[760]? = some (Jvm.Cond.code ({ cls := "CarpetEleven", name := "howMany", desc := "(I)I" } : Jvm.MethodName) prog_1_method_40_code (4 : Nat) (Option.some Jvm.ClassFile.FieldType.int)) := by decide +kernel
theorem wd_761 : lw_tbl[761]? = some (Jvm.Cond.methodLink "CarpetElevenLaw" (103 : Nat) ({ cls := "CarpetEleven", name := "back", desc := "()I" } : Jvm.MethodName)) := by decide +kernel
theorem wd_762 : lw_tbl[762]? = some (Jvm.Cond.instanceMethod ({ cls := "CarpetEleven", name := "back", desc := "()I" } : Jvm.MethodName)) := by decide +kernel
theorem wd_763 : lw_tbl[763]? = some (Jvm.Cond.selects "CarpetEleven" ({ cls := "CarpetEleven", name := "back", desc := "()I" } : Jvm.MethodName) ({ cls := "CarpetEleven", name := "back", desc := "()I" } : Jvm.MethodName)) := by decide +kernel
theorem wd_764 : lw_tbl[764]? = some (Jvm.Cond.code ({ cls := "CarpetEleven", name := "back", desc := "()I" } : Jvm.MethodName) prog_1_method_23_code (2 : Nat) (Option.some Jvm.ClassFile.FieldType.int)) := by decide +kernel
theorem wd_765 : lw_tbl[765]? = some (Jvm.Cond.methodLink "CarpetEleven" (252 : Nat) ({ cls := "CarpetEleven$Seller", name := "takeTalk", desc := "(LCarpetEleven$Seller;)V" } : Jvm.MethodName)) := by decide +kernel
theorem wd_766 : lw_tbl[766]? = some (Jvm.Cond.methodLink "CarpetElevenLaw" (107 : Nat) ({ cls := "CarpetEleven", name := "count", desc := "(I)I" } : Jvm.MethodName)) := by decide +kernel
theorem wd_767 : lw_tbl[767]? = some (Jvm.Cond.instanceMethod ({ cls := "CarpetEleven", name := "count", desc := "(I)I" } : Jvm.MethodName)) := by decide +kernel
theorem wd_768 : lw_tbl[768]? = some (Jvm.Cond.selects "CarpetEleven" ({ cls := "CarpetEleven", name := "count", desc := "(I)I" } : Jvm.MethodName) ({ cls := "CarpetEleven", name := "count", desc := "(I)I" } : Jvm.MethodName)) := by decide +kernel
theorem wd_769 : lw_tbl[769]? = some (Jvm.Cond.code ({ cls := "CarpetEleven", name := "count", desc := "(I)I" } : Jvm.MethodName) prog_1_method_24_code (2 : Nat) (Option.some Jvm.ClassFile.FieldType.int)) := by decide +kernel
theorem wd_770 : lw_tbl[770]? = some (Jvm.Cond.methodLink "CarpetElevenLaw" (111 : Nat) ({ cls := "CarpetEleven", name := "sheet", desc := "(III)I" } : Jvm.MethodName)) := by decide +kernel
theorem wd_771 : lw_tbl[771]? = some (Jvm.Cond.instanceMethod ({ cls := "CarpetEleven", name := "sheet", desc := "(III)I" } : Jvm.MethodName)) := by decide +kernel
theorem wd_772 : lw_tbl[772]? = some (Jvm.Cond.selects "CarpetEleven" ({ cls := "CarpetEleven", name := "sheet", desc := "(III)I" } : Jvm.MethodName) ({ cls := "CarpetEleven", name := "sheet", desc := "(III)I" } : Jvm.MethodName)) := by decide +kernel
theorem wd_773 : lw_tbl[773]? = some (Jvm.Cond.code ({ cls := "CarpetEleven", name := "sheet", desc := "(III)I" } : Jvm.MethodName) prog_1_method_25_code (4 : Nat) (Option.some Jvm.ClassFile.FieldType.int)) := by decide +kernel
theorem wd_774 : lw_tbl[774]? = some (Jvm.Cond.methodLink "CarpetEleven" (255 : Nat) ({ cls := "CarpetEleven$Sheet", name := "become", desc := "(II)V" } : Jvm.MethodName)) := by decide +kernel
theorem wd_775 : lw_tbl[775]? = some (Jvm.Cond.instanceMethod ({ cls := "CarpetEleven$Sheet", name := "become", desc := "(II)V" } : Jvm.MethodName)) := by decide +kernel
theorem wd_776 : lw_tbl[776]? = some (Jvm.Cond.selects "CarpetEleven$Sheet" ({ cls := "CarpetEleven$Sheet", name := "become", desc := "(II)V" } : Jvm.MethodName) ({ cls := "CarpetEleven$Sheet", name := "become", desc := "(II)V" } : Jvm.MethodName)) := by decide +kernel
theorem wd_777 : lw_tbl[777]? = some (Jvm.Cond.code ({ cls := "CarpetEleven$Sheet", name := "become", desc := "(II)V" } : Jvm.MethodName) prog_8_method_3_code (4 : Nat) (Option.none : Option Jvm.ClassFile.FieldType)) := by decide +kernel
theorem wd_778 : lw_tbl[778]? = some (Jvm.Cond.methodLinkNest "CarpetEleven$Sheet" (22 : Nat) ({ cls := "CarpetEleven", name := "within", desc := "(III)I" } : Jvm.MethodName) "CarpetEleven") := by decide +kernel
theorem wd_779 : lw_tbl[779]? = some (Jvm.Cond.methodLink "CarpetElevenLaw" (115 : Nat) ({ cls := "CarpetEleven", name := "cell", desc := "(III)I" } : Jvm.MethodName)) := by decide +kernel
theorem wd_780 : lw_tbl[780]? = some (Jvm.Cond.instanceMethod ({ cls := "CarpetEleven", name := "cell", desc := "(III)I" } : Jvm.MethodName)) := by decide +kernel
theorem wd_781 : lw_tbl[781]? = some (Jvm.Cond.selects "CarpetEleven" ({ cls := "CarpetEleven", name := "cell", desc := "(III)I" } : Jvm.MethodName) ({ cls := "CarpetEleven", name := "cell", desc := "(III)I" } : Jvm.MethodName)) := by decide +kernel
theorem wd_782 : lw_tbl[782]? = some (Jvm.Cond.code ({ cls := "CarpetEleven", name := "cell", desc := "(III)I" } : Jvm.MethodName) prog_1_method_26_code (4 : Nat) (Option.some Jvm.ClassFile.FieldType.int)) := by decide +kernel
theorem wd_783 : lw_tbl[783]? = some (Jvm.Cond.methodLink "CarpetEleven" (259 : Nat) ({ cls := "CarpetEleven$Sheet", name := "has", desc := "(I)Z" } : Jvm.MethodName)) := by decide +kernel
theorem wd_784 : lw_tbl[784]? = some (Jvm.Cond.methodLink "CarpetEleven" (262 : Nat) ({ cls := "CarpetEleven$Sheet", name := "put", desc := "(II)V" } : Jvm.MethodName)) := by decide +kernel
theorem wd_785 : lw_tbl[785]? = some (Jvm.Cond.instanceMethod ({ cls := "CarpetEleven$Sheet", name := "put", desc := "(II)V" } : Jvm.MethodName)) := by decide +kernel
theorem wd_786 : lw_tbl[786]? = some (Jvm.Cond.selects "CarpetEleven$Sheet" ({ cls := "CarpetEleven$Sheet", name := "put", desc := "(II)V" } : Jvm.MethodName) ({ cls := "CarpetEleven$Sheet", name := "put", desc := "(II)V" } : Jvm.MethodName)) := by decide +kernel
theorem wd_787 : lw_tbl[787]? = some (Jvm.Cond.code ({ cls := "CarpetEleven$Sheet", name := "put", desc := "(II)V" } : Jvm.MethodName) prog_8_method_7_code (3 : Nat) (Option.none : Option Jvm.ClassFile.FieldType)) := by decide +kernel
theorem wd_788 : lw_tbl[788]? = some (Jvm.Cond.methodLink "CarpetElevenLaw" (119 : Nat) ({ cls := "CarpetEleven", name := "copy", desc := "(IIIII)I" } : Jvm.MethodName)) := by decide +kernel
theorem wd_789 : lw_tbl[789]? = some (Jvm.Cond.instanceMethod ({ cls := "CarpetEleven", name := "copy", desc := "(IIIII)I" } : Jvm.MethodName)) := by decide +kernel
theorem wd_790 : lw_tbl[790]? = some (Jvm.Cond.selects "CarpetEleven" ({ cls := "CarpetEleven", name := "copy", desc := "(IIIII)I" } : Jvm.MethodName) ({ cls := "CarpetEleven", name := "copy", desc := "(IIIII)I" } : Jvm.MethodName)) := by decide +kernel
theorem wd_791 : lw_tbl[791]? = some (Jvm.Cond.code ({ cls := "CarpetEleven", name := "copy", desc := "(IIIII)I" } : Jvm.MethodName) prog_1_method_27_code (8 : Nat) (Option.some Jvm.ClassFile.FieldType.int)) := by decide +kernel
theorem wd_792 : lw_tbl[792]? = some (Jvm.Cond.methodLink "CarpetEleven" (268 : Nat) ({ cls := "CarpetEleven$Sheet", name := "hasRun", desc := "(II)Z" } : Jvm.MethodName)) := by decide +kernel
theorem wd_793 : lw_tbl[793]? = some (Jvm.Cond.instanceMethod ({ cls := "CarpetEleven$Sheet", name := "hasRun", desc := "(II)Z" } : Jvm.MethodName)) := by decide +kernel
theorem wd_794 : lw_tbl[794]? = some (Jvm.Cond.selects "CarpetEleven$Sheet" ({ cls := "CarpetEleven$Sheet", name := "hasRun", desc := "(II)Z" } : Jvm.MethodName) ({ cls := "CarpetEleven$Sheet", name := "hasRun", desc := "(II)Z" } : Jvm.MethodName)) := by decide +kernel
theorem wd_795 : lw_tbl[795]? = some (Jvm.Cond.code ({ cls := "CarpetEleven$Sheet", name := "hasRun", desc := "(II)Z" } : Jvm.MethodName) prog_8_method_5_code (3 : Nat) (Option.some Jvm.ClassFile.FieldType.boolean)) := by decide +kernel
theorem wd_796 : lw_tbl[796]? = some (Jvm.Cond.methodLink "CarpetEleven" (275 : Nat) ({ cls := "java/lang/System", name := "arraycopy", desc := "(Ljava/lang/Object;ILjava/lang/Object;II)V" } : Jvm.MethodName)) := by decide +kernel
theorem wd_797 : lw_tbl[797]? = some (Jvm.Cond.methodLink "CarpetElevenLaw" (124 : Nat) ({ cls := "CarpetEleven", name := "sellers", desc := "(IIII)I" } : Jvm.MethodName)) := by decide +kernel
theorem wd_798 : lw_tbl[798]? = some (Jvm.Cond.instanceMethod ({ cls := "CarpetEleven", name := "sellers", desc := "(IIII)I" } : Jvm.MethodName)) := by decide +kernel
theorem wd_799 : lw_tbl[799]? = some (Jvm.Cond.selects "CarpetEleven" ({ cls := "CarpetEleven", name := "sellers", desc := "(IIII)I" } : Jvm.MethodName) ({ cls := "CarpetEleven", name := "sellers", desc := "(IIII)I" } : Jvm.MethodName)) := by decide +kernel
theorem wd_800 : lw_tbl[800]? = some (Jvm.Cond.code ({ cls := "CarpetEleven", name := "sellers", desc := "(IIII)I" } : Jvm.MethodName) prog_1_method_28_code (9 : Nat) (Option.some Jvm.ClassFile.FieldType.int)) := by decide +kernel
theorem wd_801 : lw_tbl[801]? = some (Jvm.Cond.methodLink "CarpetElevenLaw" (128 : Nat) ({ cls := "CarpetEleven", name := "taken", desc := "(II)I" } : Jvm.MethodName)) := by decide +kernel
theorem wd_802 : lw_tbl[802]? = some (Jvm.Cond.instanceMethod ({ cls := "CarpetEleven", name := "taken", desc := "(II)I" } : Jvm.MethodName)) := by decide +kernel
theorem wd_803 : lw_tbl[803]? = some (Jvm.Cond.selects "CarpetEleven" ({ cls := "CarpetEleven", name := "taken", desc := "(II)I" } : Jvm.MethodName) ({ cls := "CarpetEleven", name := "taken", desc := "(II)I" } : Jvm.MethodName)) := by decide +kernel
theorem wd_804 : lw_tbl[804]? = some (Jvm.Cond.code ({ cls := "CarpetEleven", name := "taken", desc := "(II)I" } : Jvm.MethodName) prog_1_method_29_code (3 : Nat) (Option.some Jvm.ClassFile.FieldType.int)) := by decide +kernel
theorem wd_805 : lw_tbl[805]? = some (Jvm.Cond.methodLink "CarpetEleven" (281 : Nat) ({ cls := "CarpetEleven", name := "isUnder", desc := "(LCarpetEleven$Kind;I)Z" } : Jvm.MethodName)) := by decide +kernel
theorem wd_806 : lw_tbl[806]? = some (Jvm.Cond.static ({ cls := "CarpetEleven", name := "isUnder", desc := "(LCarpetEleven$Kind;I)Z" } : Jvm.MethodName)) := by decide +kernel
theorem wd_807 : lw_tbl[807]? = some (Jvm.Cond.code ({ cls := "CarpetEleven", name := "isUnder", desc := "(LCarpetEleven$Kind;I)Z" } : Jvm.MethodName) prog_1_method_37_code (2 : Nat) (Option.some Jvm.ClassFile.FieldType.boolean)) := by decide +kernel
theorem wd_808 : lw_tbl[808]? = some (Jvm.Cond.classLink "CarpetElevenLaw" (10 : Nat) "CarpetElevenModel") := by decide +kernel
theorem wd_809 : lw_tbl[809]? = some (Jvm.Cond.instantiable "CarpetElevenModel" (45 : Nat)) := by decide +kernel
theorem wd_810 : lw_tbl[810]? = some (Jvm.Cond.methodLink "CarpetElevenLaw" (12 : Nat) ({ cls := "CarpetElevenModel", name := "<init>", desc := "()V" } : Jvm.MethodName)) := by decide +kernel
theorem wd_811 : lw_tbl[811]? = some (Jvm.Cond.instanceMethod ({ cls := "CarpetElevenModel", name := "<init>", desc := "()V" } : Jvm.MethodName)) := by decide +kernel
theorem wd_812 : lw_tbl[812]? = some (Jvm.Cond.code ({ cls := "CarpetElevenModel", name := "<init>", desc := "()V" } : Jvm.MethodName) prog_14_method_1_code (2 : Nat) (Option.none : Option Jvm.ClassFile.FieldType)) := by decide +kernel
theorem wd_813 : lw_tbl[813]? = some (Jvm.Cond.methodLink "CarpetElevenModel" (1 : Nat) ({ cls := "java/lang/Object", name := "<init>", desc := "()V" } : Jvm.MethodName)) := by decide +kernel
theorem wd_814 : lw_tbl[814]? = some (Jvm.Cond.classLink "CarpetElevenModel" (41 : Nat) "[I") := by decide +kernel
theorem wd_815 : lw_tbl[815]? = some (Jvm.Cond.arrayOver (Jvm.ClassFile.FieldType.array Jvm.ClassFile.FieldType.int)) := by decide +kernel
theorem wd_816 : lw_tbl[816]? = some (Jvm.Cond.methodLink "CarpetElevenModel" (79 : Nat) ({ cls := "CarpetElevenModel", name := "firstRule", desc := "()V" } : Jvm.MethodName)) := by decide +kernel
theorem wd_817 : lw_tbl[817]? = some (Jvm.Cond.privateMethod ({ cls := "CarpetElevenModel", name := "firstRule", desc := "()V" } : Jvm.MethodName)) := by decide +kernel
theorem wd_818 : lw_tbl[818]? = some (Jvm.Cond.instanceMethod ({ cls := "CarpetElevenModel", name := "firstRule", desc := "()V" } : Jvm.MethodName)) := by decide +kernel
theorem wd_819 : lw_tbl[819]? = some (Jvm.Cond.code ({ cls := "CarpetElevenModel", name := "firstRule", desc := "()V" } : Jvm.MethodName) prog_14_method_5_code (1 : Nat) (Option.none : Option Jvm.ClassFile.FieldType)) := by decide +kernel
theorem wd_820 : lw_tbl[820]? = some (Jvm.Cond.methodLink "CarpetElevenModel" (88 : Nat) ({ cls := "CarpetElevenModel", name := "writes", desc := "(I)V" } : Jvm.MethodName)) := by decide +kernel
theorem wd_821 : lw_tbl[821]? = some (Jvm.Cond.privateMethod ({ cls := "CarpetElevenModel", name := "writes", desc := "(I)V" } : Jvm.MethodName)) := by decide +kernel
theorem wd_822 : lw_tbl[822]? = some (Jvm.Cond.instanceMethod ({ cls := "CarpetElevenModel", name := "writes", desc := "(I)V" } : Jvm.MethodName)) := by decide +kernel
theorem wd_823 : lw_tbl[823]? = some (Jvm.Cond.code ({ cls := "CarpetElevenModel", name := "writes", desc := "(I)V" } : Jvm.MethodName) prog_14_method_4_code (2 : Nat) (Option.none : Option Jvm.ClassFile.FieldType)) := by decide +kernel
theorem wd_824 : lw_tbl[824]? = some (Jvm.Cond.fieldLink "CarpetElevenModel" (7 : Nat) "CarpetElevenModel" "kind" "[I") := by decide +kernel
theorem wd_825 : lw_tbl[825]? = some (Jvm.Cond.fieldLink "CarpetElevenModel" (13 : Nat) "CarpetElevenModel" "cost" "[I") := by decide +kernel
theorem wd_826 : lw_tbl[826]? = some (Jvm.Cond.fieldLink "CarpetElevenModel" (16 : Nat) "CarpetElevenModel" "number" "[I") := by decide +kernel
theorem wd_827 : lw_tbl[827]? = some (Jvm.Cond.fieldLink "CarpetElevenModel" (19 : Nat) "CarpetElevenModel" "said" "[I") := by decide +kernel
theorem wd_828 : lw_tbl[828]? = some (Jvm.Cond.fieldLink "CarpetElevenModel" (22 : Nat) "CarpetElevenModel" "cups" "[I") := by decide +kernel
theorem wd_829 : lw_tbl[829]? = some (Jvm.Cond.fieldLink "CarpetElevenModel" (25 : Nat) "CarpetElevenModel" "stands" "[I") := by decide +kernel
theorem wd_830 : lw_tbl[830]? = some (Jvm.Cond.fieldLink "CarpetElevenModel" (28 : Nat) "CarpetElevenModel" "price" "[I") := by decide +kernel
theorem wd_831 : lw_tbl[831]? = some (Jvm.Cond.fieldLink "CarpetElevenModel" (82 : Nat) "CarpetElevenModel" "sellers" "I") := by decide +kernel
theorem wd_832 : lw_tbl[832]? = some (Jvm.Cond.fieldLink "CarpetElevenModel" (31 : Nat) "CarpetElevenModel" "shoes" "I") := by decide +kernel
theorem wd_833 : lw_tbl[833]? = some (Jvm.Cond.fieldLink "CarpetElevenModel" (35 : Nat) "CarpetElevenModel" "hour" "I") := by decide +kernel
theorem wd_834 : lw_tbl[834]? = some (Jvm.Cond.fieldLink "CarpetElevenModel" (38 : Nat) "CarpetElevenModel" "limit" "I") := by decide +kernel
theorem wd_835 : lw_tbl[835]? = some (Jvm.Cond.fieldLink "CarpetElevenModel" (165 : Nat) "CarpetElevenModel" "theRule" "I") := by decide +kernel
theorem wd_836 : lw_tbl[836]? = some (Jvm.Cond.fieldLink "CarpetElevenModel" (42 : Nat) "CarpetElevenModel" "words" "[[I") := by decide +kernel
theorem wd_837 : lw_tbl[837]? = some (Jvm.Cond.fieldLink "CarpetElevenModel" (46 : Nat) "CarpetElevenModel" "tape" "[I") := by decide +kernel
theorem wd_838 : lw_tbl[838]? = some (Jvm.Cond.fieldLink "CarpetElevenModel" (49 : Nat) "CarpetElevenModel" "codes" "[I") := by decide +kernel
theorem wd_839 : lw_tbl[839]? = some (Jvm.Cond.fieldLink "CarpetElevenModel" (52 : Nat) "CarpetElevenModel" "codeLong" "[I") := by decide +kernel
theorem wd_840 : lw_tbl[840]? = some (Jvm.Cond.fieldLink "CarpetElevenModel" (55 : Nat) "CarpetElevenModel" "held" "[I") := by decide +kernel
theorem wd_841 : lw_tbl[841]? = some (Jvm.Cond.fieldLink "CarpetElevenModel" (58 : Nat) "CarpetElevenModel" "stack" "[I") := by decide +kernel
theorem wd_842 : lw_tbl[842]? = some (Jvm.Cond.fieldLink "CarpetElevenModel" (96 : Nat) "CarpetElevenModel" "taped" "I") := by decide +kernel
theorem wd_843 : lw_tbl[843]? = some (Jvm.Cond.fieldLink "CarpetElevenModel" (61 : Nat) "CarpetElevenModel" "texts" "I") := by decide +kernel
theorem wd_844 : lw_tbl[844]? = some (Jvm.Cond.fieldLink "CarpetElevenModel" (99 : Nat) "CarpetElevenModel" "next" "I") := by decide +kernel
theorem wd_845 : lw_tbl[845]? = some (Jvm.Cond.fieldLink "CarpetElevenModel" (109 : Nat) "CarpetElevenModel" "token" "I") := by decide +kernel
theorem wd_846 : lw_tbl[846]? = some (Jvm.Cond.fieldLink "CarpetElevenModel" (102 : Nat) "CarpetElevenModel" "tokenAt" "I") := by decide +kernel
theorem wd_847 : lw_tbl[847]? = some (Jvm.Cond.fieldLink "CarpetElevenModel" (112 : Nat) "CarpetElevenModel" "value" "I") := by decide +kernel
theorem wd_848 : lw_tbl[848]? = some (Jvm.Cond.fieldLink "CarpetElevenModel" (126 : Nat) "CarpetElevenModel" "open" "I") := by decide +kernel
theorem wd_849 : lw_tbl[849]? = some (Jvm.Cond.fieldLink "CarpetElevenModel" (123 : Nat) "CarpetElevenModel" "heldMany" "I") := by decide +kernel
theorem wd_850 : lw_tbl[850]? = some (Jvm.Cond.fieldLink "CarpetElevenModel" (85 : Nat) "CarpetElevenModel" "row" "I") := by decide +kernel
theorem wd_851 : lw_tbl[851]? = some (Jvm.Cond.fieldLink "CarpetElevenModel" (64 : Nat) "CarpetElevenModel" "kept" "[I") := by decide +kernel
theorem wd_852 : lw_tbl[852]? = some (Jvm.Cond.fieldLink "CarpetElevenModel" (224 : Nat) "CarpetElevenModel" "keptMany" "I") := by decide +kernel
theorem wd_853 : lw_tbl[853]? = some (Jvm.Cond.fieldLink "CarpetElevenModel" (227 : Nat) "CarpetElevenModel" "keptShoes" "I") := by decide +kernel
theorem wd_854 : lw_tbl[854]? = some (Jvm.Cond.fieldLink "CarpetElevenModel" (230 : Nat) "CarpetElevenModel" "keptHour" "I") := by decide +kernel
theorem wd_855 : lw_tbl[855]? = some (Jvm.Cond.fieldLink "CarpetElevenModel" (233 : Nat) "CarpetElevenModel" "keptLimit" "I") := by decide +kernel
theorem wd_856 : lw_tbl[856]? = some (Jvm.Cond.fieldLink "CarpetElevenModel" (236 : Nat) "CarpetElevenModel" "keptRule" "I") := by decide +kernel
theorem wd_857 : lw_tbl[857]? = some (Jvm.Cond.fieldLink "CarpetElevenModel" (217 : Nat) "CarpetElevenModel" "hasImage" "Z") := by decide +kernel
theorem wd_858 : lw_tbl[858]? = some (Jvm.Cond.fieldLink "CarpetElevenModel" (246 : Nat) "CarpetElevenModel" "spoken" "I") := by decide +kernel
theorem wd_859 : lw_tbl[859]? = some (Jvm.Cond.fieldLink "CarpetElevenModel" (253 : Nat) "CarpetElevenModel" "thoughtStands" "I") := by decide +kernel
theorem wd_860 : lw_tbl[860]? = some (Jvm.Cond.fieldLink "CarpetElevenModel" (256 : Nat) "CarpetElevenModel" "thoughtPrice" "I") := by decide +kernel
theorem wd_861 : lw_tbl[861]? = some (Jvm.Cond.fieldLink "CarpetElevenModel" (259 : Nat) "CarpetElevenModel" "thoughtCups" "I") := by decide +kernel
theorem wd_862 : lw_tbl[862]? = some (Jvm.Cond.fieldLink "CarpetElevenModel" (275 : Nat) "CarpetElevenModel" "soldMany" "I") := by decide +kernel
theorem wd_863 : lw_tbl[863]? = some (Jvm.Cond.fieldLink "CarpetElevenModel" (278 : Nat) "CarpetElevenModel" "soldSum" "I") := by decide +kernel
theorem wd_864 : lw_tbl[864]? = some (Jvm.Cond.fieldLink "CarpetElevenModel" (281 : Nat) "CarpetElevenModel" "missed" "I") := by decide +kernel
theorem wd_865 : lw_tbl[865]? = some (Jvm.Cond.fieldLink "CarpetElevenModel" (67 : Nat) "CarpetElevenModel" "sort" "[I") := by decide +kernel
theorem wd_866 : lw_tbl[866]? = some (Jvm.Cond.fieldLink "CarpetElevenModel" (70 : Nat) "CarpetElevenModel" "size" "[I") := by decide +kernel
theorem wd_867 : lw_tbl[867]? = some (Jvm.Cond.fieldLink "CarpetElevenModel" (73 : Nat) "CarpetElevenModel" "cells" "[I") := by decide +kernel
theorem wd_868 : lw_tbl[868]? = some (Jvm.Cond.fieldLink "CarpetElevenModel" (76 : Nat) "CarpetElevenModel" "moved" "[I") := by decide +kernel
theorem wd_869 : lw_tbl[869]? = some (Jvm.Cond.laysFinal "CarpetElevenModel" "CarpetElevenModel" "kind" "[I") := by decide +kernel
theorem wd_870 : lw_tbl[870]? = some (Jvm.Cond.soleField "CarpetElevenModel" "kind") := by decide +kernel
theorem wd_871 : lw_tbl[871]? = some (Jvm.Cond.laysFinal "CarpetElevenModel" "CarpetElevenModel" "cost" "[I") := by decide +kernel
theorem wd_872 : lw_tbl[872]? = some (Jvm.Cond.soleField "CarpetElevenModel" "cost") := by decide +kernel
theorem wd_873 : lw_tbl[873]? = some (Jvm.Cond.laysFinal "CarpetElevenModel" "CarpetElevenModel" "number" "[I") := by decide +kernel
theorem wd_874 : lw_tbl[874]? = some (Jvm.Cond.soleField "CarpetElevenModel" "number") := by decide +kernel
theorem wd_875 : lw_tbl[875]? = some (Jvm.Cond.laysFinal "CarpetElevenModel" "CarpetElevenModel" "said" "[I") := by decide +kernel
theorem wd_876 : lw_tbl[876]? = some (Jvm.Cond.soleField "CarpetElevenModel" "said") := by decide +kernel
theorem wd_877 : lw_tbl[877]? = some (Jvm.Cond.laysFinal "CarpetElevenModel" "CarpetElevenModel" "cups" "[I") := by decide +kernel
theorem wd_878 : lw_tbl[878]? = some (Jvm.Cond.soleField "CarpetElevenModel" "cups") := by decide +kernel
theorem wd_879 : lw_tbl[879]? = some (Jvm.Cond.laysFinal "CarpetElevenModel" "CarpetElevenModel" "stands" "[I") := by decide +kernel
theorem wd_880 : lw_tbl[880]? = some (Jvm.Cond.soleField "CarpetElevenModel" "stands") := by decide +kernel
theorem wd_881 : lw_tbl[881]? = some (Jvm.Cond.laysFinal "CarpetElevenModel" "CarpetElevenModel" "price" "[I") := by decide +kernel
theorem wd_882 : lw_tbl[882]? = some (Jvm.Cond.soleField "CarpetElevenModel" "price") := by decide +kernel
theorem wd_883 : lw_tbl[883]? = some (Jvm.Cond.lays "CarpetElevenModel" "CarpetElevenModel" "sellers" "I") := by decide +kernel
theorem wd_884 : lw_tbl[884]? = some (Jvm.Cond.soleField "CarpetElevenModel" "sellers") := by decide +kernel
theorem wd_885 : lw_tbl[885]? = some (Jvm.Cond.lays "CarpetElevenModel" "CarpetElevenModel" "shoes" "I") := by decide +kernel
theorem wd_886 : lw_tbl[886]? = some (Jvm.Cond.soleField "CarpetElevenModel" "shoes") := by decide +kernel
theorem wd_887 : lw_tbl[887]? = some (Jvm.Cond.lays "CarpetElevenModel" "CarpetElevenModel" "hour" "I") := by decide +kernel
theorem wd_888 : lw_tbl[888]? = some (Jvm.Cond.soleField "CarpetElevenModel" "hour") := by decide +kernel
theorem wd_889 : lw_tbl[889]? = some (Jvm.Cond.lays "CarpetElevenModel" "CarpetElevenModel" "limit" "I") := by decide +kernel
theorem wd_890 : lw_tbl[890]? = some (Jvm.Cond.soleField "CarpetElevenModel" "limit") := by decide +kernel
theorem wd_891 : lw_tbl[891]? = some (Jvm.Cond.lays "CarpetElevenModel" "CarpetElevenModel" "theRule" "I") := by decide +kernel
theorem wd_892 : lw_tbl[892]? = some (Jvm.Cond.soleField "CarpetElevenModel" "theRule") := by decide +kernel
theorem wd_893 : lw_tbl[893]? = some (Jvm.Cond.laysFinal "CarpetElevenModel" "CarpetElevenModel" "words" "[[I") := by decide +kernel
theorem wd_894 : lw_tbl[894]? = some (Jvm.Cond.soleField "CarpetElevenModel" "words") := by decide +kernel
theorem wd_895 : lw_tbl[895]? = some (Jvm.Cond.laysFinal "CarpetElevenModel" "CarpetElevenModel" "tape" "[I") := by decide +kernel
theorem wd_896 : lw_tbl[896]? = some (Jvm.Cond.soleField "CarpetElevenModel" "tape") := by decide +kernel
theorem wd_897 : lw_tbl[897]? = some (Jvm.Cond.laysFinal "CarpetElevenModel" "CarpetElevenModel" "codes" "[I") := by decide +kernel
theorem wd_898 : lw_tbl[898]? = some (Jvm.Cond.soleField "CarpetElevenModel" "codes") := by decide +kernel
theorem wd_899 : lw_tbl[899]? = some (Jvm.Cond.laysFinal "CarpetElevenModel" "CarpetElevenModel" "codeLong" "[I") := by decide +kernel
theorem wd_900 : lw_tbl[900]? = some (Jvm.Cond.soleField "CarpetElevenModel" "codeLong") := by decide +kernel
theorem wd_901 : lw_tbl[901]? = some (Jvm.Cond.laysFinal "CarpetElevenModel" "CarpetElevenModel" "held" "[I") := by decide +kernel
theorem wd_902 : lw_tbl[902]? = some (Jvm.Cond.soleField "CarpetElevenModel" "held") := by decide +kernel
theorem wd_903 : lw_tbl[903]? = some (Jvm.Cond.laysFinal "CarpetElevenModel" "CarpetElevenModel" "stack" "[I") := by decide +kernel
theorem wd_904 : lw_tbl[904]? = some (Jvm.Cond.soleField "CarpetElevenModel" "stack") := by decide +kernel
theorem wd_905 : lw_tbl[905]? = some (Jvm.Cond.lays "CarpetElevenModel" "CarpetElevenModel" "taped" "I") := by decide +kernel
theorem wd_906 : lw_tbl[906]? = some (Jvm.Cond.soleField "CarpetElevenModel" "taped") := by decide +kernel
theorem wd_907 : lw_tbl[907]? = some (Jvm.Cond.lays "CarpetElevenModel" "CarpetElevenModel" "texts" "I") := by decide +kernel
theorem wd_908 : lw_tbl[908]? = some (Jvm.Cond.soleField "CarpetElevenModel" "texts") := by decide +kernel
theorem wd_909 : lw_tbl[909]? = some (Jvm.Cond.lays "CarpetElevenModel" "CarpetElevenModel" "next" "I") := by decide +kernel
theorem wd_910 : lw_tbl[910]? = some (Jvm.Cond.soleField "CarpetElevenModel" "next") := by decide +kernel
theorem wd_911 : lw_tbl[911]? = some (Jvm.Cond.lays "CarpetElevenModel" "CarpetElevenModel" "token" "I") := by decide +kernel
theorem wd_912 : lw_tbl[912]? = some (Jvm.Cond.soleField "CarpetElevenModel" "token") := by decide +kernel
theorem wd_913 : lw_tbl[913]? = some (Jvm.Cond.lays "CarpetElevenModel" "CarpetElevenModel" "tokenAt" "I") := by decide +kernel
theorem wd_914 : lw_tbl[914]? = some (Jvm.Cond.soleField "CarpetElevenModel" "tokenAt") := by decide +kernel
theorem wd_915 : lw_tbl[915]? = some (Jvm.Cond.lays "CarpetElevenModel" "CarpetElevenModel" "value" "I") := by decide +kernel
theorem wd_916 : lw_tbl[916]? = some (Jvm.Cond.soleField "CarpetElevenModel" "value") := by decide +kernel
theorem wd_917 : lw_tbl[917]? = some (Jvm.Cond.lays "CarpetElevenModel" "CarpetElevenModel" "open" "I") := by decide +kernel
theorem wd_918 : lw_tbl[918]? = some (Jvm.Cond.soleField "CarpetElevenModel" "open") := by decide +kernel
theorem wd_919 : lw_tbl[919]? = some (Jvm.Cond.lays "CarpetElevenModel" "CarpetElevenModel" "heldMany" "I") := by decide +kernel
theorem wd_920 : lw_tbl[920]? = some (Jvm.Cond.soleField "CarpetElevenModel" "heldMany") := by decide +kernel
theorem wd_921 : lw_tbl[921]? = some (Jvm.Cond.lays "CarpetElevenModel" "CarpetElevenModel" "row" "I") := by decide +kernel
theorem wd_922 : lw_tbl[922]? = some (Jvm.Cond.soleField "CarpetElevenModel" "row") := by decide +kernel
theorem wd_923 : lw_tbl[923]? = some (Jvm.Cond.laysFinal "CarpetElevenModel" "CarpetElevenModel" "kept" "[I") := by decide +kernel
theorem wd_924 : lw_tbl[924]? = some (Jvm.Cond.soleField "CarpetElevenModel" "kept") := by decide +kernel
theorem wd_925 : lw_tbl[925]? = some (Jvm.Cond.lays "CarpetElevenModel" "CarpetElevenModel" "keptMany" "I") := by decide +kernel
theorem wd_926 : lw_tbl[926]? = some (Jvm.Cond.soleField "CarpetElevenModel" "keptMany") := by decide +kernel
theorem wd_927 : lw_tbl[927]? = some (Jvm.Cond.lays "CarpetElevenModel" "CarpetElevenModel" "keptShoes" "I") := by decide +kernel
theorem wd_928 : lw_tbl[928]? = some (Jvm.Cond.soleField "CarpetElevenModel" "keptShoes") := by decide +kernel
theorem wd_929 : lw_tbl[929]? = some (Jvm.Cond.lays "CarpetElevenModel" "CarpetElevenModel" "keptHour" "I") := by decide +kernel
theorem wd_930 : lw_tbl[930]? = some (Jvm.Cond.soleField "CarpetElevenModel" "keptHour") := by decide +kernel
theorem wd_931 : lw_tbl[931]? = some (Jvm.Cond.lays "CarpetElevenModel" "CarpetElevenModel" "keptLimit" "I") := by decide +kernel
theorem wd_932 : lw_tbl[932]? = some (Jvm.Cond.soleField "CarpetElevenModel" "keptLimit") := by decide +kernel
theorem wd_933 : lw_tbl[933]? = some (Jvm.Cond.lays "CarpetElevenModel" "CarpetElevenModel" "keptRule" "I") := by decide +kernel
theorem wd_934 : lw_tbl[934]? = some (Jvm.Cond.soleField "CarpetElevenModel" "keptRule") := by decide +kernel
theorem wd_935 : lw_tbl[935]? = some (Jvm.Cond.lays "CarpetElevenModel" "CarpetElevenModel" "hasImage" "Z") := by decide +kernel
theorem wd_936 : lw_tbl[936]? = some (Jvm.Cond.soleField "CarpetElevenModel" "hasImage") := by decide +kernel
theorem wd_937 : lw_tbl[937]? = some (Jvm.Cond.lays "CarpetElevenModel" "CarpetElevenModel" "spoken" "I") := by decide +kernel
theorem wd_938 : lw_tbl[938]? = some (Jvm.Cond.soleField "CarpetElevenModel" "spoken") := by decide +kernel
theorem wd_939 : lw_tbl[939]? = some (Jvm.Cond.lays "CarpetElevenModel" "CarpetElevenModel" "thoughtStands" "I") := by decide +kernel
theorem wd_940 : lw_tbl[940]? = some (Jvm.Cond.soleField "CarpetElevenModel" "thoughtStands") := by decide +kernel
theorem wd_941 : lw_tbl[941]? = some (Jvm.Cond.lays "CarpetElevenModel" "CarpetElevenModel" "thoughtPrice" "I") := by decide +kernel
theorem wd_942 : lw_tbl[942]? = some (Jvm.Cond.soleField "CarpetElevenModel" "thoughtPrice") := by decide +kernel
theorem wd_943 : lw_tbl[943]? = some (Jvm.Cond.lays "CarpetElevenModel" "CarpetElevenModel" "thoughtCups" "I") := by decide +kernel
theorem wd_944 : lw_tbl[944]? = some (Jvm.Cond.soleField "CarpetElevenModel" "thoughtCups") := by decide +kernel
theorem wd_945 : lw_tbl[945]? = some (Jvm.Cond.lays "CarpetElevenModel" "CarpetElevenModel" "soldMany" "I") := by decide +kernel
theorem wd_946 : lw_tbl[946]? = some (Jvm.Cond.soleField "CarpetElevenModel" "soldMany") := by decide +kernel
theorem wd_947 : lw_tbl[947]? = some (Jvm.Cond.lays "CarpetElevenModel" "CarpetElevenModel" "soldSum" "I") := by decide +kernel
theorem wd_948 : lw_tbl[948]? = some (Jvm.Cond.soleField "CarpetElevenModel" "soldSum") := by decide +kernel
theorem wd_949 : lw_tbl[949]? = some (Jvm.Cond.lays "CarpetElevenModel" "CarpetElevenModel" "missed" "I") := by decide +kernel
theorem wd_950 : lw_tbl[950]? = some (Jvm.Cond.soleField "CarpetElevenModel" "missed") := by decide +kernel
theorem wd_951 : lw_tbl[951]? = some (Jvm.Cond.laysFinal "CarpetElevenModel" "CarpetElevenModel" "sort" "[I") := by decide +kernel
theorem wd_952 : lw_tbl[952]? = some (Jvm.Cond.soleField "CarpetElevenModel" "sort") := by decide +kernel
theorem wd_953 : lw_tbl[953]? = some (Jvm.Cond.laysFinal "CarpetElevenModel" "CarpetElevenModel" "size" "[I") := by decide +kernel
theorem wd_954 : lw_tbl[954]? = some (Jvm.Cond.soleField "CarpetElevenModel" "size") := by decide +kernel
theorem wd_955 : lw_tbl[955]? = some (Jvm.Cond.laysFinal "CarpetElevenModel" "CarpetElevenModel" "cells" "[I") := by decide +kernel
theorem wd_956 : lw_tbl[956]? = some (Jvm.Cond.soleField "CarpetElevenModel" "cells") := by decide +kernel
theorem wd_957 : lw_tbl[957]? = some (Jvm.Cond.laysFinal "CarpetElevenModel" "CarpetElevenModel" "moved" "[I") := by decide +kernel
theorem wd_958 : lw_tbl[958]? = some (Jvm.Cond.soleField "CarpetElevenModel" "moved") := by decide +kernel
theorem wd_959 : lw_tbl[959]? = some (Jvm.Cond.superclass "CarpetElevenModel" "java/lang/Object") := by decide +kernel
theorem wd_960 : lw_tbl[960]? = some (Jvm.Cond.methodLink "CarpetElevenLaw" (35 : Nat) ({ cls := "CarpetElevenModel", name := "feed", desc := "(I)I" } : Jvm.MethodName)) := by decide +kernel
theorem wd_961 : lw_tbl[961]? = some (Jvm.Cond.instanceMethod ({ cls := "CarpetElevenModel", name := "feed", desc := "(I)I" } : Jvm.MethodName)) := by decide +kernel
theorem wd_962 : lw_tbl[962]? = some (Jvm.Cond.selects "CarpetElevenModel" ({ cls := "CarpetElevenModel", name := "feed", desc := "(I)I" } : Jvm.MethodName) ({ cls := "CarpetElevenModel", name := "feed", desc := "(I)I" } : Jvm.MethodName)) := by decide +kernel
theorem wd_963 : lw_tbl[963]? = some (Jvm.Cond.code ({ cls := "CarpetElevenModel", name := "feed", desc := "(I)I" } : Jvm.MethodName) prog_14_method_6_code (2 : Nat) (Option.some Jvm.ClassFile.FieldType.int)) := by decide +kernel
theorem wd_964 : lw_tbl[964]? = some (Jvm.Cond.methodLink "CarpetElevenModel" (92 : Nat) ({ cls := "CarpetElevenModel", name := "isIn", desc := "(III)Z" } : Jvm.MethodName)) := by decide +kernel
theorem wd_965 : lw_tbl[965]? = some (Jvm.Cond.static ({ cls := "CarpetElevenModel", name := "isIn", desc := "(III)Z" } : Jvm.MethodName)) := by decide +kernel
theorem wd_966 : lw_tbl[966]? = some (Jvm.Cond.code ({ cls := "CarpetElevenModel", name := "isIn", desc := "(III)Z" } : Jvm.MethodName) prog_14_method_2_code (3 : Nat) (Option.some Jvm.ClassFile.FieldType.boolean)) := by decide +kernel
theorem wd_967 : lw_tbl[967]? = some (Jvm.Cond.methodLink "CarpetElevenLaw" (40 : Nat) ({ cls := "CarpetElevenModel", name := "text", desc := "()I" } : Jvm.MethodName)) := by decide +kernel
theorem wd_968 : lw_tbl[968]? = some (Jvm.Cond.instanceMethod ({ cls := "CarpetElevenModel", name := "text", desc := "()I" } : Jvm.MethodName)) := by decide +kernel
theorem wd_969 : lw_tbl[969]? = some (Jvm.Cond.selects "CarpetElevenModel" ({ cls := "CarpetElevenModel", name := "text", desc := "()I" } : Jvm.MethodName) ({ cls := "CarpetElevenModel", name := "text", desc := "()I" } : Jvm.MethodName)) := by decide +kernel
theorem wd_970 : lw_tbl[970]? = some (Jvm.Cond.code ({ cls := "CarpetElevenModel", name := "text", desc := "()I" } : Jvm.MethodName) prog_14_method_21_code (3 : Nat) (Option.some Jvm.ClassFile.FieldType.int)) := by decide +kernel
theorem wd_971 : lw_tbl[971]? = some (Jvm.Cond.methodLink "CarpetElevenModel" (159 : Nat) ({ cls := "CarpetElevenModel", name := "reads", desc := "()V" } : Jvm.MethodName)) := by decide +kernel
theorem wd_972 : lw_tbl[972]? = some (Jvm.Cond.privateMethod ({ cls := "CarpetElevenModel", name := "reads", desc := "()V" } : Jvm.MethodName)) := by decide +kernel
theorem wd_973 : lw_tbl[973]? = some (Jvm.Cond.instanceMethod ({ cls := "CarpetElevenModel", name := "reads", desc := "()V" } : Jvm.MethodName)) := by decide +kernel
theorem wd_974 : lw_tbl[974]? = some (Jvm.Cond.code ({ cls := "CarpetElevenModel", name := "reads", desc := "()V" } : Jvm.MethodName) prog_14_method_10_code (2 : Nat) (Option.none : Option Jvm.ClassFile.FieldType)) := by decide +kernel
theorem wd_975 : lw_tbl[975]? = some (Jvm.Cond.methodLink "CarpetElevenModel" (105 : Nat) ({ cls := "CarpetElevenModel", name := "isAt", desc := "(II)Z" } : Jvm.MethodName)) := by decide +kernel
theorem wd_976 : lw_tbl[976]? = some (Jvm.Cond.privateMethod ({ cls := "CarpetElevenModel", name := "isAt", desc := "(II)Z" } : Jvm.MethodName)) := by decide +kernel
theorem wd_977 : lw_tbl[977]? = some (Jvm.Cond.instanceMethod ({ cls := "CarpetElevenModel", name := "isAt", desc := "(II)Z" } : Jvm.MethodName)) := by decide +kernel
theorem wd_978 : lw_tbl[978]? = some (Jvm.Cond.code ({ cls := "CarpetElevenModel", name := "isAt", desc := "(II)Z" } : Jvm.MethodName) prog_14_method_7_code (3 : Nat) (Option.some Jvm.ClassFile.FieldType.boolean)) := by decide +kernel
theorem wd_979 : lw_tbl[979]? = some (Jvm.Cond.methodLink "CarpetElevenModel" (115 : Nat) ({ cls := "CarpetElevenModel", name := "isWord", desc := "([I)Z" } : Jvm.MethodName)) := by decide +kernel
theorem wd_980 : lw_tbl[980]? = some (Jvm.Cond.privateMethod ({ cls := "CarpetElevenModel", name := "isWord", desc := "([I)Z" } : Jvm.MethodName)) := by decide +kernel
theorem wd_981 : lw_tbl[981]? = some (Jvm.Cond.instanceMethod ({ cls := "CarpetElevenModel", name := "isWord", desc := "([I)Z" } : Jvm.MethodName)) := by decide +kernel
theorem wd_982 : lw_tbl[982]? = some (Jvm.Cond.code ({ cls := "CarpetElevenModel", name := "isWord", desc := "([I)Z" } : Jvm.MethodName) prog_14_method_9_code (3 : Nat) (Option.some Jvm.ClassFile.FieldType.boolean)) := by decide +kernel
theorem wd_983 : lw_tbl[983]? = some (Jvm.Cond.methodLink "CarpetElevenModel" (119 : Nat) ({ cls := "CarpetElevenModel", name := "isSign", desc := "(I)Z" } : Jvm.MethodName)) := by decide +kernel
theorem wd_984 : lw_tbl[984]? = some (Jvm.Cond.static ({ cls := "CarpetElevenModel", name := "isSign", desc := "(I)Z" } : Jvm.MethodName)) := by decide +kernel
theorem wd_985 : lw_tbl[985]? = some (Jvm.Cond.code ({ cls := "CarpetElevenModel", name := "isSign", desc := "(I)Z" } : Jvm.MethodName) prog_14_method_8_code (1 : Nat) (Option.some Jvm.ClassFile.FieldType.boolean)) := by decide +kernel
theorem wd_986 : lw_tbl[986]? = some (Jvm.Cond.methodLink "CarpetElevenModel" (162 : Nat) ({ cls := "CarpetElevenModel", name := "readsRow", desc := "()Z" } : Jvm.MethodName)) := by decide +kernel
theorem wd_987 : lw_tbl[987]? = some (Jvm.Cond.privateMethod ({ cls := "CarpetElevenModel", name := "readsRow", desc := "()Z" } : Jvm.MethodName)) := by decide +kernel
theorem wd_988 : lw_tbl[988]? = some (Jvm.Cond.instanceMethod ({ cls := "CarpetElevenModel", name := "readsRow", desc := "()Z" } : Jvm.MethodName)) := by decide +kernel
theorem wd_989 : lw_tbl[989]? = some (Jvm.Cond.code ({ cls := "CarpetElevenModel", name := "readsRow", desc := "()Z" } : Jvm.MethodName) prog_14_method_20_code (4 : Nat) (Option.some Jvm.ClassFile.FieldType.boolean)) := by decide +kernel
theorem wd_990 : lw_tbl[990]? = some (Jvm.Cond.methodLink "CarpetElevenModel" (153 : Nat) ({ cls := "CarpetElevenModel", name := "ahead", desc := "()I" } : Jvm.MethodName)) := by decide +kernel
theorem wd_991 : lw_tbl[991]? = some (Jvm.Cond.privateMethod ({ cls := "CarpetElevenModel", name := "ahead", desc := "()I" } : Jvm.MethodName)) := by decide +kernel
theorem wd_992 : lw_tbl[992]? = some (Jvm.Cond.instanceMethod ({ cls := "CarpetElevenModel", name := "ahead", desc := "()I" } : Jvm.MethodName)) := by decide +kernel
theorem wd_993 : lw_tbl[993]? = some (Jvm.Cond.code ({ cls := "CarpetElevenModel", name := "ahead", desc := "()I" } : Jvm.MethodName) prog_14_method_17_code (2 : Nat) (Option.some Jvm.ClassFile.FieldType.int)) := by decide +kernel
theorem wd_994 : lw_tbl[994]? = some (Jvm.Cond.methodLink "CarpetElevenModel" (140 : Nat) ({ cls := "CarpetElevenModel", name := "mayNot", desc := "()Z" } : Jvm.MethodName)) := by decide +kernel
theorem wd_995 : lw_tbl[995]? = some (Jvm.Cond.privateMethod ({ cls := "CarpetElevenModel", name := "mayNot", desc := "()Z" } : Jvm.MethodName)) := by decide +kernel
theorem wd_996 : lw_tbl[996]? = some (Jvm.Cond.instanceMethod ({ cls := "CarpetElevenModel", name := "mayNot", desc := "()Z" } : Jvm.MethodName)) := by decide +kernel
theorem wd_997 : lw_tbl[997]? = some (Jvm.Cond.code ({ cls := "CarpetElevenModel", name := "mayNot", desc := "()Z" } : Jvm.MethodName) prog_14_method_16_code (2 : Nat) (Option.some Jvm.ClassFile.FieldType.boolean)) := by decide +kernel
theorem wd_998 : lw_tbl[998]? = some (Jvm.Cond.methodLink "CarpetElevenModel" (129 : Nat) ({ cls := "CarpetElevenModel", name := "top", desc := "()I" } : Jvm.MethodName)) := by decide +kernel
theorem wd_999 : lw_tbl[999]? = some (Jvm.Cond.privateMethod ({ cls := "CarpetElevenModel", name := "top", desc := "()I" } : Jvm.MethodName)) := by decide +kernel
theorem wd_1000 : lw_tbl[1000]? = some (Jvm.Cond.instanceMethod ({ cls := "CarpetElevenModel", name := "top", desc := "()I" } : Jvm.MethodName)) := by decide +kernel
theorem wd_1001 : lw_tbl[1001]? = some (Jvm.Cond.code ({ cls := "CarpetElevenModel", name := "top", desc := "()I" } : Jvm.MethodName) prog_14_method_11_code (1 : Nat) (Option.some Jvm.ClassFile.FieldType.int)) := by decide +kernel
theorem wd_1002 : lw_tbl[1002]? = some (Jvm.Cond.methodLink "CarpetElevenModel" (144 : Nat) ({ cls := "CarpetElevenModel", name := "holds", desc := "(I)V" } : Jvm.MethodName)) := by decide +kernel
theorem wd_1003 : lw_tbl[1003]? = some (Jvm.Cond.privateMethod ({ cls := "CarpetElevenModel", name := "holds", desc := "(I)V" } : Jvm.MethodName)) := by decide +kernel
theorem wd_1004 : lw_tbl[1004]? = some (Jvm.Cond.instanceMethod ({ cls := "CarpetElevenModel", name := "holds", desc := "(I)V" } : Jvm.MethodName)) := by decide +kernel
theorem wd_1005 : lw_tbl[1005]? = some (Jvm.Cond.code ({ cls := "CarpetElevenModel", name := "holds", desc := "(I)V" } : Jvm.MethodName) prog_14_method_12_code (2 : Nat) (Option.none : Option Jvm.ClassFile.FieldType)) := by decide +kernel
theorem wd_1006 : lw_tbl[1006]? = some (Jvm.Cond.methodLink "CarpetElevenModel" (156 : Nat) ({ cls := "CarpetElevenModel", name := "behind", desc := "()I" } : Jvm.MethodName)) := by decide +kernel
theorem wd_1007 : lw_tbl[1007]? = some (Jvm.Cond.privateMethod ({ cls := "CarpetElevenModel", name := "behind", desc := "()I" } : Jvm.MethodName)) := by decide +kernel
theorem wd_1008 : lw_tbl[1008]? = some (Jvm.Cond.instanceMethod ({ cls := "CarpetElevenModel", name := "behind", desc := "()I" } : Jvm.MethodName)) := by decide +kernel
theorem wd_1009 : lw_tbl[1009]? = some (Jvm.Cond.code ({ cls := "CarpetElevenModel", name := "behind", desc := "()I" } : Jvm.MethodName) prog_14_method_19_code (2 : Nat) (Option.some Jvm.ClassFile.FieldType.int)) := by decide +kernel
theorem wd_1010 : lw_tbl[1010]? = some (Jvm.Cond.methodLink "CarpetElevenModel" (147 : Nat) ({ cls := "CarpetElevenModel", name := "letsFrom", desc := "(I)V" } : Jvm.MethodName)) := by decide +kernel
theorem wd_1011 : lw_tbl[1011]? = some (Jvm.Cond.privateMethod ({ cls := "CarpetElevenModel", name := "letsFrom", desc := "(I)V" } : Jvm.MethodName)) := by decide +kernel
theorem wd_1012 : lw_tbl[1012]? = some (Jvm.Cond.instanceMethod ({ cls := "CarpetElevenModel", name := "letsFrom", desc := "(I)V" } : Jvm.MethodName)) := by decide +kernel
theorem wd_1013 : lw_tbl[1013]? = some (Jvm.Cond.code ({ cls := "CarpetElevenModel", name := "letsFrom", desc := "(I)V" } : Jvm.MethodName) prog_14_method_14_code (2 : Nat) (Option.none : Option Jvm.ClassFile.FieldType)) := by decide +kernel
theorem wd_1014 : lw_tbl[1014]? = some (Jvm.Cond.methodLink "CarpetElevenModel" (133 : Nat) ({ cls := "CarpetElevenModel", name := "heightOf", desc := "(I)I" } : Jvm.MethodName)) := by decide +kernel
theorem wd_1015 : lw_tbl[1015]? = some (Jvm.Cond.static ({ cls := "CarpetElevenModel", name := "heightOf", desc := "(I)I" } : Jvm.MethodName)) := by decide +kernel
theorem wd_1016 : lw_tbl[1016]? = some (Jvm.Cond.code ({ cls := "CarpetElevenModel", name := "heightOf", desc := "(I)I" } : Jvm.MethodName) prog_14_method_15_code (1 : Nat) (Option.some Jvm.ClassFile.FieldType.int)) := by decide +kernel
theorem wd_1017 : lw_tbl[1017]? = some (Jvm.Cond.methodLink "CarpetElevenModel" (137 : Nat) ({ cls := "CarpetElevenModel", name := "lets", desc := "()V" } : Jvm.MethodName)) := by decide +kernel
theorem wd_1018 : lw_tbl[1018]? = some (Jvm.Cond.privateMethod ({ cls := "CarpetElevenModel", name := "lets", desc := "()V" } : Jvm.MethodName)) := by decide +kernel
theorem wd_1019 : lw_tbl[1019]? = some (Jvm.Cond.instanceMethod ({ cls := "CarpetElevenModel", name := "lets", desc := "()V" } : Jvm.MethodName)) := by decide +kernel
theorem wd_1020 : lw_tbl[1020]? = some (Jvm.Cond.code ({ cls := "CarpetElevenModel", name := "lets", desc := "()V" } : Jvm.MethodName) prog_14_method_13_code (2 : Nat) (Option.none : Option Jvm.ClassFile.FieldType)) := by decide +kernel
theorem wd_1021 : lw_tbl[1021]? = some (Jvm.Cond.methodLink "CarpetElevenModel" (150 : Nat) ({ cls := "CarpetElevenModel", name := "deedOf", desc := "(I)I" } : Jvm.MethodName)) := by decide +kernel
theorem wd_1022 : lw_tbl[1022]? = some (Jvm.Cond.static ({ cls := "CarpetElevenModel", name := "deedOf", desc := "(I)I" } : Jvm.MethodName)) := by decide +kernel
theorem wd_1023 : lw_tbl[1023]? = some (Jvm.Cond.code ({ cls := "CarpetElevenModel", name := "deedOf", desc := "(I)I" } : Jvm.MethodName) prog_14_method_18_code (1 : Nat) (Option.some Jvm.ClassFile.FieldType.int)) := by decide +kernel
theorem wd_1024 : lw_tbl[1024]? = some (Jvm.Cond.methodLink "CarpetElevenLaw" (44 : Nat) ({ cls := "CarpetElevenModel", name := "force", desc := "(I)I" } : Jvm.MethodName)) := by decide +kernel
theorem wd_1025 : lw_tbl[1025]? = some (Jvm.Cond.instanceMethod ({ cls := "CarpetElevenModel", name := "force", desc := "(I)I" } : Jvm.MethodName)) := by decide +kernel
theorem wd_1026 : lw_tbl[1026]? = some (Jvm.Cond.selects "CarpetElevenModel" ({ cls := "CarpetElevenModel", name := "force", desc := "(I)I" } : Jvm.MethodName) ({ cls := "CarpetElevenModel", name := "force", desc := "(I)I" } : Jvm.MethodName)) := by decide +kernel
theorem wd_1027 : lw_tbl[1027]? = some (Jvm.Cond.code ({ cls := "CarpetElevenModel", name := "force", desc := "(I)I" } : Jvm.MethodName) prog_14_method_22_code (3 : Nat) (Option.some Jvm.ClassFile.FieldType.int)) := by decide +kernel
theorem wd_1028 : lw_tbl[1028]? = some (Jvm.Cond.methodLink "CarpetElevenLaw" (17 : Nat) ({ cls := "CarpetElevenModel", name := "seller", desc := "(II)I" } : Jvm.MethodName)) := by decide +kernel
theorem wd_1029 : lw_tbl[1029]? = some (Jvm.Cond.instanceMethod ({ cls := "CarpetElevenModel", name := "seller", desc := "(II)I" } : Jvm.MethodName)) := by decide +kernel
theorem wd_1030 : lw_tbl[1030]? = some (Jvm.Cond.selects "CarpetElevenModel" ({ cls := "CarpetElevenModel", name := "seller", desc := "(II)I" } : Jvm.MethodName) ({ cls := "CarpetElevenModel", name := "seller", desc := "(II)I" } : Jvm.MethodName)) := by decide +kernel
theorem wd_1031 : lw_tbl[1031]? = some (Jvm.Cond.code ({ cls := "CarpetElevenModel", name := "seller", desc := "(II)I" } : Jvm.MethodName) prog_14_method_31_code (3 : Nat) (Option.some Jvm.ClassFile.FieldType.int)) := by decide +kernel
theorem wd_1032 : lw_tbl[1032]? = some (Jvm.Cond.methodLink "CarpetElevenModel" (188 : Nat) ({ cls := "CarpetElevenModel", name := "comes", desc := "(II)I" } : Jvm.MethodName)) := by decide +kernel
theorem wd_1033 : lw_tbl[1033]? = some (Jvm.Cond.privateMethod ({ cls := "CarpetElevenModel", name := "comes", desc := "(II)I" } : Jvm.MethodName)) := by decide +kernel
theorem wd_1034 : lw_tbl[1034]? = some (Jvm.Cond.instanceMethod ({ cls := "CarpetElevenModel", name := "comes", desc := "(II)I" } : Jvm.MethodName)) := by decide +kernel
theorem wd_1035 : lw_tbl[1035]? = some (Jvm.Cond.code ({ cls := "CarpetElevenModel", name := "comes", desc := "(II)I" } : Jvm.MethodName) prog_14_method_30_code (3 : Nat) (Option.some Jvm.ClassFile.FieldType.int)) := by decide +kernel
theorem wd_1036 : lw_tbl[1036]? = some (Jvm.Cond.methodLink "CarpetElevenModel" (185 : Nat) ({ cls := "CarpetElevenModel", name := "begins", desc := "(I)V" } : Jvm.MethodName)) := by decide +kernel
theorem wd_1037 : lw_tbl[1037]? = some (Jvm.Cond.privateMethod ({ cls := "CarpetElevenModel", name := "begins", desc := "(I)V" } : Jvm.MethodName)) := by decide +kernel
theorem wd_1038 : lw_tbl[1038]? = some (Jvm.Cond.instanceMethod ({ cls := "CarpetElevenModel", name := "begins", desc := "(I)V" } : Jvm.MethodName)) := by decide +kernel
theorem wd_1039 : lw_tbl[1039]? = some (Jvm.Cond.code ({ cls := "CarpetElevenModel", name := "begins", desc := "(I)V" } : Jvm.MethodName) prog_14_method_29_code (2 : Nat) (Option.none : Option Jvm.ClassFile.FieldType)) := by decide +kernel
theorem wd_1040 : lw_tbl[1040]? = some (Jvm.Cond.methodLink "CarpetElevenModel" (176 : Nat) ({ cls := "CarpetElevenModel", name := "says", desc := "(IIII)I" } : Jvm.MethodName)) := by decide +kernel
theorem wd_1041 : lw_tbl[1041]? = some (Jvm.Cond.privateMethod ({ cls := "CarpetElevenModel", name := "says", desc := "(IIII)I" } : Jvm.MethodName)) := by decide +kernel
theorem wd_1042 : lw_tbl[1042]? = some (Jvm.Cond.instanceMethod ({ cls := "CarpetElevenModel", name := "says", desc := "(IIII)I" } : Jvm.MethodName)) := by decide +kernel
theorem wd_1043 : lw_tbl[1043]? = some (Jvm.Cond.code ({ cls := "CarpetElevenModel", name := "says", desc := "(IIII)I" } : Jvm.MethodName) prog_14_method_25_code (9 : Nat) (Option.some Jvm.ClassFile.FieldType.int)) := by decide +kernel
theorem wd_1044 : lw_tbl[1044]? = some (Jvm.Cond.methodLink "CarpetElevenModel" (168 : Nat) ({ cls := "CarpetElevenModel", name := "named", desc := "(IIII)I" } : Jvm.MethodName)) := by decide +kernel
theorem wd_1045 : lw_tbl[1045]? = some (Jvm.Cond.privateMethod ({ cls := "CarpetElevenModel", name := "named", desc := "(IIII)I" } : Jvm.MethodName)) := by decide +kernel
theorem wd_1046 : lw_tbl[1046]? = some (Jvm.Cond.instanceMethod ({ cls := "CarpetElevenModel", name := "named", desc := "(IIII)I" } : Jvm.MethodName)) := by decide +kernel
theorem wd_1047 : lw_tbl[1047]? = some (Jvm.Cond.code ({ cls := "CarpetElevenModel", name := "named", desc := "(IIII)I" } : Jvm.MethodName) prog_14_method_23_code (5 : Nat) (Option.some Jvm.ClassFile.FieldType.int)) := by decide +kernel
theorem wd_1048 : lw_tbl[1048]? = some (Jvm.Cond.methodLink "CarpetElevenModel" (172 : Nat) ({ cls := "CarpetElevenModel", name := "done", desc := "(III)I" } : Jvm.MethodName)) := by decide +kernel
theorem wd_1049 : lw_tbl[1049]? = some (Jvm.Cond.static ({ cls := "CarpetElevenModel", name := "done", desc := "(III)I" } : Jvm.MethodName)) := by decide +kernel
theorem wd_1050 : lw_tbl[1050]? = some (Jvm.Cond.code ({ cls := "CarpetElevenModel", name := "done", desc := "(III)I" } : Jvm.MethodName) prog_14_method_24_code (3 : Nat) (Option.some Jvm.ClassFile.FieldType.int)) := by decide +kernel
theorem wd_1051 : lw_tbl[1051]? = some (Jvm.Cond.methodLink "CarpetElevenModel" (182 : Nat) ({ cls := "CarpetElevenModel", name := "leastOf", desc := "(III)I" } : Jvm.MethodName)) := by decide +kernel
theorem wd_1052 : lw_tbl[1052]? = some (Jvm.Cond.privateMethod ({ cls := "CarpetElevenModel", name := "leastOf", desc := "(III)I" } : Jvm.MethodName)) := by decide +kernel
theorem wd_1053 : lw_tbl[1053]? = some (Jvm.Cond.instanceMethod ({ cls := "CarpetElevenModel", name := "leastOf", desc := "(III)I" } : Jvm.MethodName)) := by decide +kernel
theorem wd_1054 : lw_tbl[1054]? = some (Jvm.Cond.code ({ cls := "CarpetElevenModel", name := "leastOf", desc := "(III)I" } : Jvm.MethodName) prog_14_method_27_code (4 : Nat) (Option.some Jvm.ClassFile.FieldType.int)) := by decide +kernel
theorem wd_1055 : lw_tbl[1055]? = some (Jvm.Cond.methodLink "CarpetElevenModel" (179 : Nat) ({ cls := "CarpetElevenModel", name := "bounded", desc := "(III)I" } : Jvm.MethodName)) := by decide +kernel
theorem wd_1056 : lw_tbl[1056]? = some (Jvm.Cond.static ({ cls := "CarpetElevenModel", name := "bounded", desc := "(III)I" } : Jvm.MethodName)) := by decide +kernel
theorem wd_1057 : lw_tbl[1057]? = some (Jvm.Cond.code ({ cls := "CarpetElevenModel", name := "bounded", desc := "(III)I" } : Jvm.MethodName) prog_14_method_26_code (3 : Nat) (Option.some Jvm.ClassFile.FieldType.int)) := by decide +kernel
theorem wd_1058 : lw_tbl[1058]? = some (Jvm.Cond.methodLink "CarpetElevenLaw" (22 : Nat) ({ cls := "CarpetElevenModel", name := "set", desc := "(III)I" } : Jvm.MethodName)) := by decide +kernel
theorem wd_1059 : lw_tbl[1059]? = some (Jvm.Cond.instanceMethod ({ cls := "CarpetElevenModel", name := "set", desc := "(III)I" } : Jvm.MethodName)) := by decide +kernel
theorem wd_1060 : lw_tbl[1060]? = some (Jvm.Cond.selects "CarpetElevenModel" ({ cls := "CarpetElevenModel", name := "set", desc := "(III)I" } : Jvm.MethodName) ({ cls := "CarpetElevenModel", name := "set", desc := "(III)I" } : Jvm.MethodName)) := by decide +kernel
theorem wd_1061 : lw_tbl[1061]? = some (Jvm.Cond.code ({ cls := "CarpetElevenModel", name := "set", desc := "(III)I" } : Jvm.MethodName) prog_14_method_32_code (6 : Nat) (Option.some Jvm.ClassFile.FieldType.int)) := by decide +kernel
theorem wd_1062 : lw_tbl[1062]? = some (Jvm.Cond.methodLink "CarpetElevenModel" (192 : Nat) ({ cls := "CarpetElevenModel", name := "isSeller", desc := "(I)Z" } : Jvm.MethodName)) := by decide +kernel
theorem wd_1063 : lw_tbl[1063]? = some (Jvm.Cond.privateMethod ({ cls := "CarpetElevenModel", name := "isSeller", desc := "(I)Z" } : Jvm.MethodName)) := by decide +kernel
theorem wd_1064 : lw_tbl[1064]? = some (Jvm.Cond.instanceMethod ({ cls := "CarpetElevenModel", name := "isSeller", desc := "(I)Z" } : Jvm.MethodName)) := by decide +kernel
theorem wd_1065 : lw_tbl[1065]? = some (Jvm.Cond.code ({ cls := "CarpetElevenModel", name := "isSeller", desc := "(I)Z" } : Jvm.MethodName) prog_14_method_3_code (2 : Nat) (Option.some Jvm.ClassFile.FieldType.boolean)) := by decide +kernel
theorem wd_1066 : lw_tbl[1066]? = some (Jvm.Cond.methodLink "CarpetElevenLaw" (27 : Nat) ({ cls := "CarpetElevenModel", name := "anew", desc := "(I)I" } : Jvm.MethodName)) := by decide +kernel
theorem wd_1067 : lw_tbl[1067]? = some (Jvm.Cond.instanceMethod ({ cls := "CarpetElevenModel", name := "anew", desc := "(I)I" } : Jvm.MethodName)) := by decide +kernel
theorem wd_1068 : lw_tbl[1068]? = some (Jvm.Cond.selects "CarpetElevenModel" ({ cls := "CarpetElevenModel", name := "anew", desc := "(I)I" } : Jvm.MethodName) ({ cls := "CarpetElevenModel", name := "anew", desc := "(I)I" } : Jvm.MethodName)) := by decide +kernel
theorem wd_1069 : lw_tbl[1069]? = some (Jvm.Cond.code ({ cls := "CarpetElevenModel", name := "anew", desc := "(I)I" } : Jvm.MethodName) prog_14_method_33_code (2 : Nat) (Option.some Jvm.ClassFile.FieldType.int)) := by decide +kernel
theorem wd_1070 : lw_tbl[1070]? = some (Jvm.Cond.methodLink "CarpetElevenLaw" (31 : Nat) ({ cls := "CarpetElevenModel", name := "told", desc := "(II)I" } : Jvm.MethodName)) := by decide +kernel
theorem wd_1071 : lw_tbl[1071]? = some (Jvm.Cond.instanceMethod ({ cls := "CarpetElevenModel", name := "told", desc := "(II)I" } : Jvm.MethodName)) := by decide +kernel
theorem wd_1072 : lw_tbl[1072]? = some (Jvm.Cond.selects "CarpetElevenModel" ({ cls := "CarpetElevenModel", name := "told", desc := "(II)I" } : Jvm.MethodName) ({ cls := "CarpetElevenModel", name := "told", desc := "(II)I" } : Jvm.MethodName)) := by decide +kernel
theorem wd_1073 : lw_tbl[1073]? = some (Jvm.Cond.code ({ cls := "CarpetElevenModel", name := "told", desc := "(II)I" } : Jvm.MethodName) prog_14_method_34_code (3 : Nat) (Option.some Jvm.ClassFile.FieldType.int)) := by decide +kernel
theorem wd_1074 : lw_tbl[1074]? = some (Jvm.Cond.methodLink "CarpetElevenModel" (195 : Nat) ({ cls := "CarpetElevenModel", name := "staysOf", desc := "(I)I" } : Jvm.MethodName)) := by decide +kernel
theorem wd_1075 : lw_tbl[1075]? = some (Jvm.Cond.privateMethod ({ cls := "CarpetElevenModel", name := "staysOf", desc := "(I)I" } : Jvm.MethodName)) := by decide +kernel
theorem wd_1076 : lw_tbl[1076]? = some (Jvm.Cond.instanceMethod ({ cls := "CarpetElevenModel", name := "staysOf", desc := "(I)I" } : Jvm.MethodName)) := by decide +kernel
theorem wd_1077 : lw_tbl[1077]? = some (Jvm.Cond.code ({ cls := "CarpetElevenModel", name := "staysOf", desc := "(I)I" } : Jvm.MethodName) prog_14_method_28_code (3 : Nat) (Option.some Jvm.ClassFile.FieldType.int)) := by decide +kernel
theorem wd_1078 : lw_tbl[1078]? = some (Jvm.Cond.methodLink "CarpetElevenLaw" (131 : Nat) ({ cls := "CarpetElevenModel", name := "taken", desc := "(II)I" } : Jvm.MethodName)) := by decide +kernel
theorem wd_1079 : lw_tbl[1079]? = some (Jvm.Cond.instanceMethod ({ cls := "CarpetElevenModel", name := "taken", desc := "(II)I" } : Jvm.MethodName)) := by decide +kernel
theorem wd_1080 : lw_tbl[1080]? = some (Jvm.Cond.selects "CarpetElevenModel" ({ cls := "CarpetElevenModel", name := "taken", desc := "(II)I" } : Jvm.MethodName) ({ cls := "CarpetElevenModel", name := "taken", desc := "(II)I" } : Jvm.MethodName)) := by decide +kernel
theorem wd_1081 : lw_tbl[1081]? = some (Jvm.Cond.code ({ cls := "CarpetElevenModel", name := "taken", desc := "(II)I" } : Jvm.MethodName) prog_14_method_36_code (3 : Nat) (Option.some Jvm.ClassFile.FieldType.int)) := by decide +kernel
theorem wd_1082 : lw_tbl[1082]? = some (Jvm.Cond.methodLink "CarpetElevenModel" (198 : Nat) ({ cls := "CarpetElevenModel", name := "isUnder", desc := "(II)Z" } : Jvm.MethodName)) := by decide +kernel
theorem wd_1083 : lw_tbl[1083]? = some (Jvm.Cond.static ({ cls := "CarpetElevenModel", name := "isUnder", desc := "(II)Z" } : Jvm.MethodName)) := by decide +kernel
theorem wd_1084 : lw_tbl[1084]? = some (Jvm.Cond.code ({ cls := "CarpetElevenModel", name := "isUnder", desc := "(II)Z" } : Jvm.MethodName) prog_14_method_35_code (2 : Nat) (Option.some Jvm.ClassFile.FieldType.boolean)) := by decide +kernel
theorem wd_1085 : lw_tbl[1085]? = some (Jvm.Cond.methodLink "CarpetElevenLaw" (48 : Nat) ({ cls := "CarpetElevenModel", name := "word", desc := "(II)I" } : Jvm.MethodName)) := by decide +kernel
theorem wd_1086 : lw_tbl[1086]? = some (Jvm.Cond.instanceMethod ({ cls := "CarpetElevenModel", name := "word", desc := "(II)I" } : Jvm.MethodName)) := by decide +kernel
theorem wd_1087 : lw_tbl[1087]? = some (Jvm.Cond.selects "CarpetElevenModel" ({ cls := "CarpetElevenModel", name := "word", desc := "(II)I" } : Jvm.MethodName) ({ cls := "CarpetElevenModel", name := "word", desc := "(II)I" } : Jvm.MethodName)) := by decide +kernel
theorem wd_1088 : lw_tbl[1088]? = some (Jvm.Cond.code ({ cls := "CarpetElevenModel", name := "word", desc := "(II)I" } : Jvm.MethodName) prog_14_method_41_code (3 : Nat) (Option.some Jvm.ClassFile.FieldType.int)) := by decide +kernel
theorem wd_1089 : lw_tbl[1089]? = some (Jvm.Cond.methodLink "CarpetElevenModel" (208 : Nat) ({ cls := "CarpetElevenModel", name := "isBid", desc := "(I)Z" } : Jvm.MethodName)) := by decide +kernel
theorem wd_1090 : lw_tbl[1090]? = some (Jvm.Cond.static ({ cls := "CarpetElevenModel", name := "isBid", desc := "(I)Z" } : Jvm.MethodName)) := by decide +kernel
theorem wd_1091 : lw_tbl[1091]? = some (Jvm.Cond.code ({ cls := "CarpetElevenModel", name := "isBid", desc := "(I)Z" } : Jvm.MethodName) prog_14_method_40_code (1 : Nat) (Option.some Jvm.ClassFile.FieldType.boolean)) := by decide +kernel
theorem wd_1092 : lw_tbl[1092]? = some (Jvm.Cond.methodLink "CarpetElevenModel" (211 : Nat) ({ cls := "CarpetElevenModel", name := "speaks", desc := "(II)I" } : Jvm.MethodName)) := by decide +kernel
theorem wd_1093 : lw_tbl[1093]? = some (Jvm.Cond.privateMethod ({ cls := "CarpetElevenModel", name := "speaks", desc := "(II)I" } : Jvm.MethodName)) := by decide +kernel
theorem wd_1094 : lw_tbl[1094]? = some (Jvm.Cond.instanceMethod ({ cls := "CarpetElevenModel", name := "speaks", desc := "(II)I" } : Jvm.MethodName)) := by decide +kernel
theorem wd_1095 : lw_tbl[1095]? = some (Jvm.Cond.code ({ cls := "CarpetElevenModel", name := "speaks", desc := "(II)I" } : Jvm.MethodName) prog_14_method_39_code (5 : Nat) (Option.some Jvm.ClassFile.FieldType.int)) := by decide +kernel
theorem wd_1096 : lw_tbl[1096]? = some (Jvm.Cond.methodLink "CarpetElevenModel" (201 : Nat) ({ cls := "CarpetElevenModel", name := "stepsOf", desc := "(II)I" } : Jvm.MethodName)) := by decide +kernel
theorem wd_1097 : lw_tbl[1097]? = some (Jvm.Cond.privateMethod ({ cls := "CarpetElevenModel", name := "stepsOf", desc := "(II)I" } : Jvm.MethodName)) := by decide +kernel
theorem wd_1098 : lw_tbl[1098]? = some (Jvm.Cond.instanceMethod ({ cls := "CarpetElevenModel", name := "stepsOf", desc := "(II)I" } : Jvm.MethodName)) := by decide +kernel
theorem wd_1099 : lw_tbl[1099]? = some (Jvm.Cond.code ({ cls := "CarpetElevenModel", name := "stepsOf", desc := "(II)I" } : Jvm.MethodName) prog_14_method_37_code (4 : Nat) (Option.some Jvm.ClassFile.FieldType.int)) := by decide +kernel
theorem wd_1100 : lw_tbl[1100]? = some (Jvm.Cond.methodLink "CarpetElevenModel" (204 : Nat) ({ cls := "CarpetElevenModel", name := "doesTake", desc := "(IIII)Z" } : Jvm.MethodName)) := by decide +kernel
theorem wd_1101 : lw_tbl[1101]? = some (Jvm.Cond.privateMethod ({ cls := "CarpetElevenModel", name := "doesTake", desc := "(IIII)Z" } : Jvm.MethodName)) := by decide +kernel
theorem wd_1102 : lw_tbl[1102]? = some (Jvm.Cond.instanceMethod ({ cls := "CarpetElevenModel", name := "doesTake", desc := "(IIII)Z" } : Jvm.MethodName)) := by decide +kernel
theorem wd_1103 : lw_tbl[1103]? = some (Jvm.Cond.code ({ cls := "CarpetElevenModel", name := "doesTake", desc := "(IIII)Z" } : Jvm.MethodName) prog_14_method_38_code (6 : Nat) (Option.some Jvm.ClassFile.FieldType.boolean)) := by decide +kernel
theorem wd_1104 : lw_tbl[1104]? = some (Jvm.Cond.methodLink "CarpetElevenLaw" (52 : Nat) ({ cls := "CarpetElevenModel", name := "agree", desc := "(I)I" } : Jvm.MethodName)) := by decide +kernel
theorem wd_1105 : lw_tbl[1105]? = some (Jvm.Cond.instanceMethod ({ cls := "CarpetElevenModel", name := "agree", desc := "(I)I" } : Jvm.MethodName)) := by decide +kernel
theorem wd_1106 : lw_tbl[1106]? = some (Jvm.Cond.selects "CarpetElevenModel" ({ cls := "CarpetElevenModel", name := "agree", desc := "(I)I" } : Jvm.MethodName) ({ cls := "CarpetElevenModel", name := "agree", desc := "(I)I" } : Jvm.MethodName)) := by decide +kernel
theorem wd_1107 : lw_tbl[1107]? = some (Jvm.Cond.code ({ cls := "CarpetElevenModel", name := "agree", desc := "(I)I" } : Jvm.MethodName) prog_14_method_43_code (2 : Nat) (Option.some Jvm.ClassFile.FieldType.int)) := by decide +kernel
theorem wd_1108 : lw_tbl[1108]? = some (Jvm.Cond.methodLink "CarpetElevenModel" (214 : Nat) ({ cls := "CarpetElevenModel", name := "agrees", desc := "(I)I" } : Jvm.MethodName)) := by decide +kernel
theorem wd_1109 : lw_tbl[1109]? = some (Jvm.Cond.privateMethod ({ cls := "CarpetElevenModel", name := "agrees", desc := "(I)I" } : Jvm.MethodName)) := by decide +kernel
theorem wd_1110 : lw_tbl[1110]? = some (Jvm.Cond.instanceMethod ({ cls := "CarpetElevenModel", name := "agrees", desc := "(I)I" } : Jvm.MethodName)) := by decide +kernel
theorem wd_1111 : lw_tbl[1111]? = some (Jvm.Cond.code ({ cls := "CarpetElevenModel", name := "agrees", desc := "(I)I" } : Jvm.MethodName) prog_14_method_42_code (2 : Nat) (Option.some Jvm.ClassFile.FieldType.int)) := by decide +kernel
theorem wd_1112 : lw_tbl[1112]? = some (Jvm.Cond.methodLink "CarpetElevenLaw" (102 : Nat) ({ cls := "CarpetElevenModel", name := "image", desc := "()I" } : Jvm.MethodName)) := by decide +kernel
theorem wd_1113 : lw_tbl[1113]? = some (Jvm.Cond.instanceMethod ({ cls := "CarpetElevenModel", name := "image", desc := "()I" } : Jvm.MethodName)) := by decide +kernel
theorem wd_1114 : lw_tbl[1114]? = some (Jvm.Cond.selects "CarpetElevenModel" ({ cls := "CarpetElevenModel", name := "image", desc := "()I" } : Jvm.MethodName) ({ cls := "CarpetElevenModel", name := "image", desc := "()I" } : Jvm.MethodName)) := by decide +kernel
theorem wd_1115 : lw_tbl[1115]? = some (Jvm.Cond.code ({ cls := "CarpetElevenModel", name := "image", desc := "()I" } : Jvm.MethodName) prog_14_method_47_code (1 : Nat) (Option.some Jvm.ClassFile.FieldType.int)) := by decide +kernel
theorem wd_1116 : lw_tbl[1116]? = some (Jvm.Cond.methodLink "CarpetElevenModel" (221 : Nat) ({ cls := "CarpetElevenModel", name := "keeps", desc := "(I)V" } : Jvm.MethodName)) := by decide +kernel
theorem wd_1117 : lw_tbl[1117]? = some (Jvm.Cond.privateMethod ({ cls := "CarpetElevenModel", name := "keeps", desc := "(I)V" } : Jvm.MethodName)) := by decide +kernel
theorem wd_1118 : lw_tbl[1118]? = some (Jvm.Cond.instanceMethod ({ cls := "CarpetElevenModel", name := "keeps", desc := "(I)V" } : Jvm.MethodName)) := by decide +kernel
theorem wd_1119 : lw_tbl[1119]? = some (Jvm.Cond.code ({ cls := "CarpetElevenModel", name := "keeps", desc := "(I)V" } : Jvm.MethodName) prog_14_method_44_code (4 : Nat) (Option.none : Option Jvm.ClassFile.FieldType)) := by decide +kernel
theorem wd_1120 : lw_tbl[1120]? = some (Jvm.Cond.methodLink "CarpetElevenModel" (239 : Nat) ({ cls := "CarpetElevenModel", name := "standing", desc := "(I)I" } : Jvm.MethodName)) := by decide +kernel
theorem wd_1121 : lw_tbl[1121]? = some (Jvm.Cond.privateMethod ({ cls := "CarpetElevenModel", name := "standing", desc := "(I)I" } : Jvm.MethodName)) := by decide +kernel
theorem wd_1122 : lw_tbl[1122]? = some (Jvm.Cond.instanceMethod ({ cls := "CarpetElevenModel", name := "standing", desc := "(I)I" } : Jvm.MethodName)) := by decide +kernel
theorem wd_1123 : lw_tbl[1123]? = some (Jvm.Cond.code ({ cls := "CarpetElevenModel", name := "standing", desc := "(I)I" } : Jvm.MethodName) prog_14_method_46_code (4 : Nat) (Option.some Jvm.ClassFile.FieldType.int)) := by decide +kernel
theorem wd_1124 : lw_tbl[1124]? = some (Jvm.Cond.methodLink "CarpetElevenLaw" (106 : Nat) ({ cls := "CarpetElevenModel", name := "back", desc := "()I" } : Jvm.MethodName)) := by decide +kernel
theorem wd_1125 : lw_tbl[1125]? = some (Jvm.Cond.instanceMethod ({ cls := "CarpetElevenModel", name := "back", desc := "()I" } : Jvm.MethodName)) := by decide +kernel
theorem wd_1126 : lw_tbl[1126]? = some (Jvm.Cond.selects "CarpetElevenModel" ({ cls := "CarpetElevenModel", name := "back", desc := "()I" } : Jvm.MethodName) ({ cls := "CarpetElevenModel", name := "back", desc := "()I" } : Jvm.MethodName)) := by decide +kernel
theorem wd_1127 : lw_tbl[1127]? = some (Jvm.Cond.code ({ cls := "CarpetElevenModel", name := "back", desc := "()I" } : Jvm.MethodName) prog_14_method_48_code (1 : Nat) (Option.some Jvm.ClassFile.FieldType.int)) := by decide +kernel
theorem wd_1128 : lw_tbl[1128]? = some (Jvm.Cond.methodLink "CarpetElevenModel" (242 : Nat) ({ cls := "CarpetElevenModel", name := "putsBack", desc := "(II)V" } : Jvm.MethodName)) := by decide +kernel
theorem wd_1129 : lw_tbl[1129]? = some (Jvm.Cond.privateMethod ({ cls := "CarpetElevenModel", name := "putsBack", desc := "(II)V" } : Jvm.MethodName)) := by decide +kernel
theorem wd_1130 : lw_tbl[1130]? = some (Jvm.Cond.instanceMethod ({ cls := "CarpetElevenModel", name := "putsBack", desc := "(II)V" } : Jvm.MethodName)) := by decide +kernel
theorem wd_1131 : lw_tbl[1131]? = some (Jvm.Cond.code ({ cls := "CarpetElevenModel", name := "putsBack", desc := "(II)V" } : Jvm.MethodName) prog_14_method_45_code (5 : Nat) (Option.none : Option Jvm.ClassFile.FieldType)) := by decide +kernel
theorem wd_1132 : lw_tbl[1132]? = some (Jvm.Cond.methodLink "CarpetElevenLaw" (57 : Nat) ({ cls := "CarpetElevenModel", name := "rule", desc := "(IIII)I" } : Jvm.MethodName)) := by decide +kernel
theorem wd_1133 : lw_tbl[1133]? = some (Jvm.Cond.instanceMethod ({ cls := "CarpetElevenModel", name := "rule", desc := "(IIII)I" } : Jvm.MethodName)) := by decide +kernel
theorem wd_1134 : lw_tbl[1134]? = some (Jvm.Cond.selects "CarpetElevenModel" ({ cls := "CarpetElevenModel", name := "rule", desc := "(IIII)I" } : Jvm.MethodName) ({ cls := "CarpetElevenModel", name := "rule", desc := "(IIII)I" } : Jvm.MethodName)) := by decide +kernel
theorem wd_1135 : lw_tbl[1135]? = some (Jvm.Cond.code ({ cls := "CarpetElevenModel", name := "rule", desc := "(IIII)I" } : Jvm.MethodName) prog_14_method_52_code (5 : Nat) (Option.some Jvm.ClassFile.FieldType.int)) := by decide +kernel
theorem wd_1136 : lw_tbl[1136]? = some (Jvm.Cond.methodLink "CarpetElevenModel" (262 : Nat) ({ cls := "CarpetElevenModel", name := "isRule", desc := "(II)Z" } : Jvm.MethodName)) := by decide +kernel
theorem wd_1137 : lw_tbl[1137]? = some (Jvm.Cond.static ({ cls := "CarpetElevenModel", name := "isRule", desc := "(II)Z" } : Jvm.MethodName)) := by decide +kernel
theorem wd_1138 : lw_tbl[1138]? = some (Jvm.Cond.code ({ cls := "CarpetElevenModel", name := "isRule", desc := "(II)Z" } : Jvm.MethodName) prog_14_method_50_code (2 : Nat) (Option.some Jvm.ClassFile.FieldType.boolean)) := by decide +kernel
theorem wd_1139 : lw_tbl[1139]? = some (Jvm.Cond.methodLink "CarpetElevenModel" (265 : Nat) ({ cls := "CarpetElevenModel", name := "thinks", desc := "(IIIZ)I" } : Jvm.MethodName)) := by decide +kernel
theorem wd_1140 : lw_tbl[1140]? = some (Jvm.Cond.privateMethod ({ cls := "CarpetElevenModel", name := "thinks", desc := "(IIIZ)I" } : Jvm.MethodName)) := by decide +kernel
theorem wd_1141 : lw_tbl[1141]? = some (Jvm.Cond.instanceMethod ({ cls := "CarpetElevenModel", name := "thinks", desc := "(IIIZ)I" } : Jvm.MethodName)) := by decide +kernel
theorem wd_1142 : lw_tbl[1142]? = some (Jvm.Cond.code ({ cls := "CarpetElevenModel", name := "thinks", desc := "(IIIZ)I" } : Jvm.MethodName) prog_14_method_51_code (5 : Nat) (Option.some Jvm.ClassFile.FieldType.int)) := by decide +kernel
theorem wd_1143 : lw_tbl[1143]? = some (Jvm.Cond.methodLink "CarpetElevenModel" (249 : Nat) ({ cls := "CarpetElevenModel", name := "bids", desc := "(IIII)V" } : Jvm.MethodName)) := by decide +kernel
theorem wd_1144 : lw_tbl[1144]? = some (Jvm.Cond.privateMethod ({ cls := "CarpetElevenModel", name := "bids", desc := "(IIII)V" } : Jvm.MethodName)) := by decide +kernel
theorem wd_1145 : lw_tbl[1145]? = some (Jvm.Cond.instanceMethod ({ cls := "CarpetElevenModel", name := "bids", desc := "(IIII)V" } : Jvm.MethodName)) := by decide +kernel
theorem wd_1146 : lw_tbl[1146]? = some (Jvm.Cond.code ({ cls := "CarpetElevenModel", name := "bids", desc := "(IIII)V" } : Jvm.MethodName) prog_14_method_49_code (6 : Nat) (Option.none : Option Jvm.ClassFile.FieldType)) := by decide +kernel
theorem wd_1147 : lw_tbl[1147]? = some (Jvm.Cond.methodLink "CarpetElevenLaw" (61 : Nat) ({ cls := "CarpetElevenModel", name := "bestRule", desc := "(II)I" } : Jvm.MethodName)) := by decide +kernel
theorem wd_1148 : lw_tbl[1148]? = some (Jvm.Cond.instanceMethod ({ cls := "CarpetElevenModel", name := "bestRule", desc := "(II)I" } : Jvm.MethodName)) := by decide +kernel
theorem wd_1149 : lw_tbl[1149]? = some (Jvm.Cond.selects "CarpetElevenModel" ({ cls := "CarpetElevenModel", name := "bestRule", desc := "(II)I" } : Jvm.MethodName) ({ cls := "CarpetElevenModel", name := "bestRule", desc := "(II)I" } : Jvm.MethodName)) := by decide +kernel
theorem wd_1150 : lw_tbl[1150]? = some (Jvm.Cond.code ({ cls := "CarpetElevenModel", name := "bestRule", desc := "(II)I" } : Jvm.MethodName) prog_14_method_53_code (9 : Nat) (Option.some Jvm.ClassFile.FieldType.int)) := by decide +kernel
theorem wd_1151 : lw_tbl[1151]? = some (Jvm.Cond.methodLink "CarpetElevenLaw" (65 : Nat) ({ cls := "CarpetElevenModel", name := "bestAt", desc := "(IIII)I" } : Jvm.MethodName)) := by decide +kernel
theorem wd_1152 : lw_tbl[1152]? = some (Jvm.Cond.instanceMethod ({ cls := "CarpetElevenModel", name := "bestAt", desc := "(IIII)I" } : Jvm.MethodName)) := by decide +kernel
theorem wd_1153 : lw_tbl[1153]? = some (Jvm.Cond.selects "CarpetElevenModel" ({ cls := "CarpetElevenModel", name := "bestAt", desc := "(IIII)I" } : Jvm.MethodName) ({ cls := "CarpetElevenModel", name := "bestAt", desc := "(IIII)I" } : Jvm.MethodName)) := by decide +kernel
theorem wd_1154 : lw_tbl[1154]? = some (Jvm.Cond.code ({ cls := "CarpetElevenModel", name := "bestAt", desc := "(IIII)I" } : Jvm.MethodName) prog_14_method_54_code (10 : Nat) (Option.some Jvm.ClassFile.FieldType.int)) := by decide +kernel
theorem wd_1155 : lw_tbl[1155]? = some (Jvm.Cond.methodLink "CarpetElevenLaw" (69 : Nat) ({ cls := "CarpetElevenModel", name := "whom", desc := "(II)I" } : Jvm.MethodName)) := by decide +kernel
theorem wd_1156 : lw_tbl[1156]? = some (Jvm.Cond.instanceMethod ({ cls := "CarpetElevenModel", name := "whom", desc := "(II)I" } : Jvm.MethodName)) := by decide +kernel
theorem wd_1157 : lw_tbl[1157]? = some (Jvm.Cond.selects "CarpetElevenModel" ({ cls := "CarpetElevenModel", name := "whom", desc := "(II)I" } : Jvm.MethodName) ({ cls := "CarpetElevenModel", name := "whom", desc := "(II)I" } : Jvm.MethodName)) := by decide +kernel
theorem wd_1158 : lw_tbl[1158]? = some (Jvm.Cond.code ({ cls := "CarpetElevenModel", name := "whom", desc := "(II)I" } : Jvm.MethodName) prog_14_method_55_code (7 : Nat) (Option.some Jvm.ClassFile.FieldType.int)) := by decide +kernel
theorem wd_1159 : lw_tbl[1159]? = some (Jvm.Cond.methodLink "CarpetElevenLaw" (73 : Nat) ({ cls := "CarpetElevenModel", name := "allInTurn", desc := "(III)I" } : Jvm.MethodName)) := by decide +kernel
theorem wd_1160 : lw_tbl[1160]? = some (Jvm.Cond.instanceMethod ({ cls := "CarpetElevenModel", name := "allInTurn", desc := "(III)I" } : Jvm.MethodName)) := by decide +kernel
theorem wd_1161 : lw_tbl[1161]? = some (Jvm.Cond.selects "CarpetElevenModel" ({ cls := "CarpetElevenModel", name := "allInTurn", desc := "(III)I" } : Jvm.MethodName) ({ cls := "CarpetElevenModel", name := "allInTurn", desc := "(III)I" } : Jvm.MethodName)) := by decide +kernel
theorem wd_1162 : lw_tbl[1162]? = some (Jvm.Cond.code ({ cls := "CarpetElevenModel", name := "allInTurn", desc := "(III)I" } : Jvm.MethodName) prog_14_method_56_code (7 : Nat) (Option.some Jvm.ClassFile.FieldType.int)) := by decide +kernel
theorem wd_1163 : lw_tbl[1163]? = some (Jvm.Cond.methodLink "CarpetElevenLaw" (77 : Nat) ({ cls := "CarpetElevenModel", name := "hisCost", desc := "(III)I" } : Jvm.MethodName)) := by decide +kernel
theorem wd_1164 : lw_tbl[1164]? = some (Jvm.Cond.instanceMethod ({ cls := "CarpetElevenModel", name := "hisCost", desc := "(III)I" } : Jvm.MethodName)) := by decide +kernel
theorem wd_1165 : lw_tbl[1165]? = some (Jvm.Cond.selects "CarpetElevenModel" ({ cls := "CarpetElevenModel", name := "hisCost", desc := "(III)I" } : Jvm.MethodName) ({ cls := "CarpetElevenModel", name := "hisCost", desc := "(III)I" } : Jvm.MethodName)) := by decide +kernel
theorem wd_1166 : lw_tbl[1166]? = some (Jvm.Cond.code ({ cls := "CarpetElevenModel", name := "hisCost", desc := "(III)I" } : Jvm.MethodName) prog_14_method_58_code (9 : Nat) (Option.some Jvm.ClassFile.FieldType.int)) := by decide +kernel
theorem wd_1167 : lw_tbl[1167]? = some (Jvm.Cond.methodLink "CarpetElevenModel" (269 : Nat) ({ cls := "CarpetElevenModel", name := "isSheet", desc := "(I)Z" } : Jvm.MethodName)) := by decide +kernel
theorem wd_1168 : lw_tbl[1168]? = some (Jvm.Cond.static ({ cls := "CarpetElevenModel", name := "isSheet", desc := "(I)Z" } : Jvm.MethodName)) := by decide +kernel
theorem wd_1169 : lw_tbl[1169]? = some (Jvm.Cond.code ({ cls := "CarpetElevenModel", name := "isSheet", desc := "(I)Z" } : Jvm.MethodName) prog_14_method_68_code (1 : Nat) (Option.some Jvm.ClassFile.FieldType.boolean)) := by decide +kernel
theorem wd_1170 : lw_tbl[1170]? = some (Jvm.Cond.methodLink "CarpetElevenModel" (272 : Nat) ({ cls := "CarpetElevenModel", name := "isJustSo", desc := "(II)Z" } : Jvm.MethodName)) := by decide +kernel
theorem wd_1171 : lw_tbl[1171]? = some (Jvm.Cond.privateMethod ({ cls := "CarpetElevenModel", name := "isJustSo", desc := "(II)Z" } : Jvm.MethodName)) := by decide +kernel
theorem wd_1172 : lw_tbl[1172]? = some (Jvm.Cond.instanceMethod ({ cls := "CarpetElevenModel", name := "isJustSo", desc := "(II)Z" } : Jvm.MethodName)) := by decide +kernel
theorem wd_1173 : lw_tbl[1173]? = some (Jvm.Cond.code ({ cls := "CarpetElevenModel", name := "isJustSo", desc := "(II)Z" } : Jvm.MethodName) prog_14_method_57_code (5 : Nat) (Option.some Jvm.ClassFile.FieldType.boolean)) := by decide +kernel
theorem wd_1174 : lw_tbl[1174]? = some (Jvm.Cond.methodLink "CarpetElevenLaw" (81 : Nat) ({ cls := "CarpetElevenModel", name := "slipped", desc := "(III)I" } : Jvm.MethodName)) := by decide +kernel
theorem wd_1175 : lw_tbl[1175]? = some (Jvm.Cond.instanceMethod ({ cls := "CarpetElevenModel", name := "slipped", desc := "(III)I" } : Jvm.MethodName)) := by decide +kernel
theorem wd_1176 : lw_tbl[1176]? = some (Jvm.Cond.selects "CarpetElevenModel" ({ cls := "CarpetElevenModel", name := "slipped", desc := "(III)I" } : Jvm.MethodName) ({ cls := "CarpetElevenModel", name := "slipped", desc := "(III)I" } : Jvm.MethodName)) := by decide +kernel
theorem wd_1177 : lw_tbl[1177]? = some (Jvm.Cond.code ({ cls := "CarpetElevenModel", name := "slipped", desc := "(III)I" } : Jvm.MethodName) prog_14_method_59_code (6 : Nat) (Option.some Jvm.ClassFile.FieldType.int)) := by decide +kernel
theorem wd_1178 : lw_tbl[1178]? = some (Jvm.Cond.methodLink "CarpetElevenLaw" (85 : Nat) ({ cls := "CarpetElevenModel", name := "market", desc := "(IIII)I" } : Jvm.MethodName)) := by decide +kernel
theorem wd_1179 : lw_tbl[1179]? = some (Jvm.Cond.instanceMethod ({ cls := "CarpetElevenModel", name := "market", desc := "(IIII)I" } : Jvm.MethodName)) := by decide +kernel
theorem wd_1180 : lw_tbl[1180]? = some (Jvm.Cond.selects "CarpetElevenModel" ({ cls := "CarpetElevenModel", name := "market", desc := "(IIII)I" } : Jvm.MethodName) ({ cls := "CarpetElevenModel", name := "market", desc := "(IIII)I" } : Jvm.MethodName)) := by decide +kernel
theorem wd_1181 : lw_tbl[1181]? = some (Jvm.Cond.code ({ cls := "CarpetElevenModel", name := "market", desc := "(IIII)I" } : Jvm.MethodName) prog_14_method_61_code (6 : Nat) (Option.some Jvm.ClassFile.FieldType.int)) := by decide +kernel
theorem wd_1182 : lw_tbl[1182]? = some (Jvm.Cond.methodLink "CarpetElevenModel" (284 : Nat) ({ cls := "CarpetElevenModel", name := "goesBuyer", desc := "(III)V" } : Jvm.MethodName)) := by decide +kernel
theorem wd_1183 : lw_tbl[1183]? = some (Jvm.Cond.privateMethod ({ cls := "CarpetElevenModel", name := "goesBuyer", desc := "(III)V" } : Jvm.MethodName)) := by decide +kernel
theorem wd_1184 : lw_tbl[1184]? = some (Jvm.Cond.instanceMethod ({ cls := "CarpetElevenModel", name := "goesBuyer", desc := "(III)V" } : Jvm.MethodName)) := by decide +kernel
theorem wd_1185 : lw_tbl[1185]? = some (Jvm.Cond.code ({ cls := "CarpetElevenModel", name := "goesBuyer", desc := "(III)V" } : Jvm.MethodName) prog_14_method_60_code (6 : Nat) (Option.none : Option Jvm.ClassFile.FieldType)) := by decide +kernel
theorem wd_1186 : lw_tbl[1186]? = some (Jvm.Cond.methodLink "CarpetElevenLaw" (89 : Nat) ({ cls := "CarpetElevenModel", name := "judge", desc := "(II)I" } : Jvm.MethodName)) := by decide +kernel
theorem wd_1187 : lw_tbl[1187]? = some (Jvm.Cond.instanceMethod ({ cls := "CarpetElevenModel", name := "judge", desc := "(II)I" } : Jvm.MethodName)) := by decide +kernel
theorem wd_1188 : lw_tbl[1188]? = some (Jvm.Cond.selects "CarpetElevenModel" ({ cls := "CarpetElevenModel", name := "judge", desc := "(II)I" } : Jvm.MethodName) ({ cls := "CarpetElevenModel", name := "judge", desc := "(II)I" } : Jvm.MethodName)) := by decide +kernel
theorem wd_1189 : lw_tbl[1189]? = some (Jvm.Cond.code ({ cls := "CarpetElevenModel", name := "judge", desc := "(II)I" } : Jvm.MethodName) prog_14_method_62_code (6 : Nat) (Option.some Jvm.ClassFile.FieldType.int)) := by decide +kernel
theorem wd_1190 : lw_tbl[1190]? = some (Jvm.Cond.methodLink "CarpetElevenLaw" (93 : Nat) ({ cls := "CarpetElevenModel", name := "drawn", desc := "(II)I" } : Jvm.MethodName)) := by decide +kernel
theorem wd_1191 : lw_tbl[1191]? = some (Jvm.Cond.instanceMethod ({ cls := "CarpetElevenModel", name := "drawn", desc := "(II)I" } : Jvm.MethodName)) := by decide +kernel
theorem wd_1192 : lw_tbl[1192]? = some (Jvm.Cond.selects "CarpetElevenModel" ({ cls := "CarpetElevenModel", name := "drawn", desc := "(II)I" } : Jvm.MethodName) ({ cls := "CarpetElevenModel", name := "drawn", desc := "(II)I" } : Jvm.MethodName)) := by decide +kernel
theorem wd_1193 : lw_tbl[1193]? = some (Jvm.Cond.code ({ cls := "CarpetElevenModel", name := "drawn", desc := "(II)I" } : Jvm.MethodName) prog_14_method_64_code (3 : Nat) (Option.some Jvm.ClassFile.FieldType.int)) := by decide +kernel
theorem wd_1194 : lw_tbl[1194]? = some (Jvm.Cond.methodLink "CarpetElevenModel" (289 : Nat) ({ cls := "CarpetElevenModel", name := "drawnBy", desc := "(II)I" } : Jvm.MethodName)) := by decide +kernel
theorem wd_1195 : lw_tbl[1195]? = some (Jvm.Cond.privateMethod ({ cls := "CarpetElevenModel", name := "drawnBy", desc := "(II)I" } : Jvm.MethodName)) := by decide +kernel
theorem wd_1196 : lw_tbl[1196]? = some (Jvm.Cond.instanceMethod ({ cls := "CarpetElevenModel", name := "drawnBy", desc := "(II)I" } : Jvm.MethodName)) := by decide +kernel
theorem wd_1197 : lw_tbl[1197]? = some (Jvm.Cond.code ({ cls := "CarpetElevenModel", name := "drawnBy", desc := "(II)I" } : Jvm.MethodName) prog_14_method_63_code (5 : Nat) (Option.some Jvm.ClassFile.FieldType.int)) := by decide +kernel
theorem wd_1198 : lw_tbl[1198]? = some (Jvm.Cond.constant "CarpetElevenModel" (288 : Nat) (1103515245 : Int32)) := by decide +kernel
theorem wd_1199 : lw_tbl[1199]? = some (Jvm.Cond.methodLink "CarpetElevenLaw" (98 : Nat) ({ cls := "CarpetElevenModel", name := "odds", desc := "(IIII)J" } : Jvm.MethodName)) := by decide +kernel
theorem wd_1200 : lw_tbl[1200]? = some (Jvm.Cond.instanceMethod ({ cls := "CarpetElevenModel", name := "odds", desc := "(IIII)J" } : Jvm.MethodName)) := by decide +kernel
theorem wd_1201 : lw_tbl[1201]? = some (Jvm.Cond.selects "CarpetElevenModel" ({ cls := "CarpetElevenModel", name := "odds", desc := "(IIII)J" } : Jvm.MethodName) ({ cls := "CarpetElevenModel", name := "odds", desc := "(IIII)J" } : Jvm.MethodName)) := by decide +kernel
theorem wd_1202 : lw_tbl[1202]? = some (Jvm.Cond.code ({ cls := "CarpetElevenModel", name := "odds", desc := "(IIII)J" } : Jvm.MethodName) prog_14_method_66_code (7 : Nat) (Option.some Jvm.ClassFile.FieldType.long)) := by decide +kernel
theorem wd_1203 : lw_tbl[1203]? = some (Jvm.Cond.constantLong "CarpetElevenModel" (292 : Nat) (-4611686018427387904 : Int64)) := by decide +kernel
theorem wd_1204 : lw_tbl[1204]? = some (Jvm.Cond.methodLink "CarpetElevenModel" (294 : Nat) ({ cls := "CarpetElevenModel", name := "divisor", desc := "(II)I" } : Jvm.MethodName)) := by decide +kernel
theorem wd_1205 : lw_tbl[1205]? = some (Jvm.Cond.static ({ cls := "CarpetElevenModel", name := "divisor", desc := "(II)I" } : Jvm.MethodName)) := by decide +kernel
theorem wd_1206 : lw_tbl[1206]? = some (Jvm.Cond.code ({ cls := "CarpetElevenModel", name := "divisor", desc := "(II)I" } : Jvm.MethodName) prog_14_method_65_code (5 : Nat) (Option.some Jvm.ClassFile.FieldType.int)) := by decide +kernel
theorem wd_1207 : lw_tbl[1207]? = some (Jvm.Cond.methodLink "CarpetElevenLaw" (110 : Nat) ({ cls := "CarpetElevenModel", name := "count", desc := "(I)I" } : Jvm.MethodName)) := by decide +kernel
theorem wd_1208 : lw_tbl[1208]? = some (Jvm.Cond.instanceMethod ({ cls := "CarpetElevenModel", name := "count", desc := "(I)I" } : Jvm.MethodName)) := by decide +kernel
theorem wd_1209 : lw_tbl[1209]? = some (Jvm.Cond.selects "CarpetElevenModel" ({ cls := "CarpetElevenModel", name := "count", desc := "(I)I" } : Jvm.MethodName) ({ cls := "CarpetElevenModel", name := "count", desc := "(I)I" } : Jvm.MethodName)) := by decide +kernel
theorem wd_1210 : lw_tbl[1210]? = some (Jvm.Cond.code ({ cls := "CarpetElevenModel", name := "count", desc := "(I)I" } : Jvm.MethodName) prog_14_method_67_code (2 : Nat) (Option.some Jvm.ClassFile.FieldType.int)) := by decide +kernel
theorem wd_1211 : lw_tbl[1211]? = some (Jvm.Cond.methodLink "CarpetElevenLaw" (114 : Nat) ({ cls := "CarpetElevenModel", name := "sheet", desc := "(III)I" } : Jvm.MethodName)) := by decide +kernel
theorem wd_1212 : lw_tbl[1212]? = some (Jvm.Cond.instanceMethod ({ cls := "CarpetElevenModel", name := "sheet", desc := "(III)I" } : Jvm.MethodName)) := by decide +kernel
theorem wd_1213 : lw_tbl[1213]? = some (Jvm.Cond.selects "CarpetElevenModel" ({ cls := "CarpetElevenModel", name := "sheet", desc := "(III)I" } : Jvm.MethodName) ({ cls := "CarpetElevenModel", name := "sheet", desc := "(III)I" } : Jvm.MethodName)) := by decide +kernel
theorem wd_1214 : lw_tbl[1214]? = some (Jvm.Cond.code ({ cls := "CarpetElevenModel", name := "sheet", desc := "(III)I" } : Jvm.MethodName) prog_14_method_69_code (5 : Nat) (Option.some Jvm.ClassFile.FieldType.int)) := by decide +kernel
theorem wd_1215 : lw_tbl[1215]? = some (Jvm.Cond.methodLink "CarpetElevenLaw" (118 : Nat) ({ cls := "CarpetElevenModel", name := "cell", desc := "(III)I" } : Jvm.MethodName)) := by decide +kernel
theorem wd_1216 : lw_tbl[1216]? = some (Jvm.Cond.instanceMethod ({ cls := "CarpetElevenModel", name := "cell", desc := "(III)I" } : Jvm.MethodName)) := by decide +kernel
theorem wd_1217 : lw_tbl[1217]? = some (Jvm.Cond.selects "CarpetElevenModel" ({ cls := "CarpetElevenModel", name := "cell", desc := "(III)I" } : Jvm.MethodName) ({ cls := "CarpetElevenModel", name := "cell", desc := "(III)I" } : Jvm.MethodName)) := by decide +kernel
theorem wd_1218 : lw_tbl[1218]? = some (Jvm.Cond.code ({ cls := "CarpetElevenModel", name := "cell", desc := "(III)I" } : Jvm.MethodName) prog_14_method_70_code (4 : Nat) (Option.some Jvm.ClassFile.FieldType.int)) := by decide +kernel
theorem wd_1219 : lw_tbl[1219]? = some (Jvm.Cond.methodLink "CarpetElevenLaw" (123 : Nat) ({ cls := "CarpetElevenModel", name := "copy", desc := "(IIIII)I" } : Jvm.MethodName)) := by decide +kernel
theorem wd_1220 : lw_tbl[1220]? = some (Jvm.Cond.instanceMethod ({ cls := "CarpetElevenModel", name := "copy", desc := "(IIIII)I" } : Jvm.MethodName)) := by decide +kernel
theorem wd_1221 : lw_tbl[1221]? = some (Jvm.Cond.selects "CarpetElevenModel" ({ cls := "CarpetElevenModel", name := "copy", desc := "(IIIII)I" } : Jvm.MethodName) ({ cls := "CarpetElevenModel", name := "copy", desc := "(IIIII)I" } : Jvm.MethodName)) := by decide +kernel
theorem wd_1222 : lw_tbl[1222]? = some (Jvm.Cond.code ({ cls := "CarpetElevenModel", name := "copy", desc := "(IIIII)I" } : Jvm.MethodName) prog_14_method_72_code (7 : Nat) (Option.some Jvm.ClassFile.FieldType.int)) := by decide +kernel
theorem wd_1223 : lw_tbl[1223]? = some (Jvm.Cond.methodLink "CarpetElevenModel" (297 : Nat) ({ cls := "CarpetElevenModel", name := "hasCells", desc := "(III)Z" } : Jvm.MethodName)) := by decide +kernel
theorem wd_1224 : lw_tbl[1224]? = some (Jvm.Cond.privateMethod ({ cls := "CarpetElevenModel", name := "hasCells", desc := "(III)Z" } : Jvm.MethodName)) := by decide +kernel
theorem wd_1225 : lw_tbl[1225]? = some (Jvm.Cond.instanceMethod ({ cls := "CarpetElevenModel", name := "hasCells", desc := "(III)Z" } : Jvm.MethodName)) := by decide +kernel
theorem wd_1226 : lw_tbl[1226]? = some (Jvm.Cond.code ({ cls := "CarpetElevenModel", name := "hasCells", desc := "(III)Z" } : Jvm.MethodName) prog_14_method_71_code (4 : Nat) (Option.some Jvm.ClassFile.FieldType.boolean)) := by decide +kernel
theorem wd_1227 : lw_tbl[1227]? = some (Jvm.Cond.methodLink "CarpetElevenLaw" (127 : Nat) ({ cls := "CarpetElevenModel", name := "sellers", desc := "(IIII)I" } : Jvm.MethodName)) := by decide +kernel
theorem wd_1228 : lw_tbl[1228]? = some (Jvm.Cond.instanceMethod ({ cls := "CarpetElevenModel", name := "sellers", desc := "(IIII)I" } : Jvm.MethodName)) := by decide +kernel
theorem wd_1229 : lw_tbl[1229]? = some (Jvm.Cond.selects "CarpetElevenModel" ({ cls := "CarpetElevenModel", name := "sellers", desc := "(IIII)I" } : Jvm.MethodName) ({ cls := "CarpetElevenModel", name := "sellers", desc := "(IIII)I" } : Jvm.MethodName)) := by decide +kernel
theorem wd_1230 : lw_tbl[1230]? = some (Jvm.Cond.code ({ cls := "CarpetElevenModel", name := "sellers", desc := "(IIII)I" } : Jvm.MethodName) prog_14_method_73_code (8 : Nat) (Option.some Jvm.ClassFile.FieldType.int)) := by decide +kernel
theorem wd_1231 : lw_tbl[1231]? = some (Jvm.Cond.sameMethod "CarpetEleven$Halver" "CarpetEleven$Halver" "stays" "(I)I") := by decide +kernel
theorem wd_1232 : lw_tbl[1232]? = some (Jvm.Cond.sameMethod "CarpetEleven$Stiff" "CarpetEleven$Stiff" "stays" "(I)I") := by decide +kernel
theorem wd_1233 : lw_tbl[1233]? = some (Jvm.Cond.sameMethod "CarpetEleven$Halver" "CarpetEleven$Halver" "steps" "(IIIII)I") := by decide +kernel
theorem wd_1234 : lw_tbl[1234]? = some (Jvm.Cond.castable "CarpetEleven$Brother" "CarpetEleven$Halver") := by decide +kernel
theorem wd_1235 : lw_tbl[1235]? = some (Jvm.Cond.castable "CarpetEleven$Eager" "CarpetEleven$Halver") := by decide +kernel
theorem wd_1236 : lw_tbl[1236]? = some (Jvm.Cond.castable "CarpetEleven$Slip" "CarpetEleven$Stiff") := by decide +kernel
theorem wd_1237 : lw_tbl[1237]? = some (Jvm.Cond.castable "CarpetEleven$Halver" "CarpetEleven$Kind") := by decide +kernel
theorem wd_1238 : lw_tbl[1238]? = some (Jvm.Cond.castable "CarpetEleven$Stiff" "CarpetEleven$Kind") := by decide +kernel
theorem wd_1239 : lw_tbl[1239]? = some (Jvm.Cond.castable "CarpetEleven$Slip" "CarpetEleven$Kind") := by decide +kernel
theorem wd_1240 : lw_tbl[1240]? = some (Jvm.Cond.castable "CarpetEleven$Brother" "CarpetEleven$Kind") := by decide +kernel
theorem wd_1241 : lw_tbl[1241]? = some (Jvm.Cond.castable "CarpetEleven$Eager" "CarpetEleven$Kind") := by decide +kernel
theorem wd_1242 : lw_tbl[1242]? = some (Jvm.Cond.fieldLink "java/lang/String" (9 : Nat) "java/lang/String" "value" "[B") := by decide +kernel
theorem wd_1243 : lw_tbl[1243]? = some (Jvm.Cond.fieldLink "java/lang/String" (15 : Nat) "java/lang/String" "coder" "B") := by decide +kernel
end
section
/-! arithmetic that is left alone till it is wanted -/
theorem q_ex2 (f : Int32 → Int32 → Int32) : ∃ g : Int32 → Int32 → Int32, g = f := ⟨f, rfl⟩
theorem q_ex1 (f : Int32 → Int32) : ∃ g : Int32 → Int32, g = f := ⟨f, rfl⟩
noncomputable def q_add : Int32 → Int32 → Int32 := Classical.choose (q_ex2 (fun x y => x + y))
theorem q_add_eq (x y : Int32) : q_add x y = x + y := congrFun (congrFun (Classical.choose_spec (q_ex2 (fun x y => x + y))) x) y
noncomputable def q_sub : Int32 → Int32 → Int32 := Classical.choose (q_ex2 (fun x y => x - y))
theorem q_sub_eq (x y : Int32) : q_sub x y = x - y := congrFun (congrFun (Classical.choose_spec (q_ex2 (fun x y => x - y))) x) y
noncomputable def q_mul : Int32 → Int32 → Int32 := Classical.choose (q_ex2 (fun x y => x * y))
theorem q_mul_eq (x y : Int32) : q_mul x y = x * y := congrFun (congrFun (Classical.choose_spec (q_ex2 (fun x y => x * y))) x) y
noncomputable def q_and : Int32 → Int32 → Int32 := Classical.choose (q_ex2 (fun x y => x &&& y))
theorem q_and_eq (x y : Int32) : q_and x y = x &&& y := congrFun (congrFun (Classical.choose_spec (q_ex2 (fun x y => x &&& y))) x) y
noncomputable def q_div : Int32 → Int32 → Int32 := Classical.choose (q_ex2 (fun x y => x / y))
theorem q_div_eq (x y : Int32) : q_div x y = x / y := congrFun (congrFun (Classical.choose_spec (q_ex2 (fun x y => x / y))) x) y
noncomputable def q_rem : Int32 → Int32 → Int32 := Classical.choose (q_ex2 (fun x y => x - x / y * y))
theorem q_rem_eq (x y : Int32) : q_rem x y = x - x / y * y := congrFun (congrFun (Classical.choose_spec (q_ex2 (fun x y => x - x / y * y))) x) y
noncomputable def q_ushr : Int32 → Int32 → Int32 := Classical.choose (q_ex2 (fun x y => (x.toUInt32 >>> (y.toUInt32 &&& Int32.toUInt32 31)).toInt32))
theorem q_ushr_eq (x y : Int32) : q_ushr x y = (x.toUInt32 >>> (y.toUInt32 &&& Int32.toUInt32 31)).toInt32 := congrFun (congrFun (Classical.choose_spec (q_ex2 (fun x y => (x.toUInt32 >>> (y.toUInt32 &&& Int32.toUInt32 31)).toInt32))) x) y
noncomputable def q_neg : Int32 → Int32 := Classical.choose (q_ex1 (fun x => -x))
theorem q_neg_eq (x : Int32) : q_neg x = -x := congrFun (Classical.choose_spec (q_ex1 (fun x => -x))) x
noncomputable def q_i2b : Int32 → Int32 := Classical.choose (q_ex1 (fun x => x.toInt8.toInt32))
theorem q_i2b_eq (x : Int32) : q_i2b x = x.toInt8.toInt32 := congrFun (Classical.choose_spec (q_ex1 (fun x => x.toInt8.toInt32))) x
noncomputable def q_i2s : Int32 → Int32 := Classical.choose (q_ex1 (fun x => x.toInt16.toInt32))
theorem q_i2s_eq (x : Int32) : q_i2s x = x.toInt16.toInt32 := congrFun (Classical.choose_spec (q_ex1 (fun x => x.toInt16.toInt32))) x
/-! values and states of the plain machine: ints, references by kind and place, longs -/
abbrev ce_V : Type := Int32 ⊕ (Nat × Nat) ⊕ Int64
abbrev ce_S : Type := (Nat → Nat → Nat → Int32) × (Nat → Nat → Nat → Nat) × (Nat → Nat → Nat → Int32) × (Nat → Nat → Nat) × (Nat → Nat) × (Nat → Option Nat)
def ce_I (S : ce_S) : Nat → Nat → Nat → Int32 := S.1
def ce_R (S : ce_S) : Nat → Nat → Nat → Nat := S.2.1
def ce_A (S : ce_S) : Nat → Nat → Nat → Int32 := S.2.2.1
def ce_L (S : ce_S) : Nat → Nat → Nat := S.2.2.2.1
def ce_C (S : ce_S) : Nat → Nat := S.2.2.2.2.1
def ce_Q (S : ce_S) : Nat → Option Nat := S.2.2.2.2.2
def ce_u {α : Type} (f : Nat → Nat → Nat → α) (t k i : Nat) (v : α) : Nat → Nat → Nat → α := fun t' k' i' => if t' = t then (if k' = k then (if i' = i then v else f t' k' i') else f t' k' i') else f t' k' i'
def ce_sI (S : ce_S) (t k i : Nat) (v : Int32) : ce_S := (ce_u S.1 t k i v, S.2)
def ce_sR (S : ce_S) (t k i v : Nat) : ce_S := (S.1, ce_u S.2.1 t k i v, S.2.2)
def ce_sA (S : ce_S) (t i e : Nat) (v : Int32) : ce_S := (S.1, S.2.1, ce_u S.2.2.1 t i e v, S.2.2.2)
def ce_sF (S : ce_S) (t i : Nat) (f : Nat → Int32) : ce_S := (S.1, S.2.1, (fun t' i' => if t' = t then (if i' = i then f else S.2.2.1 t' i') else S.2.2.1 t' i'), S.2.2.2)
def ce_sQ (S : ce_S) (e v : Nat) : ce_S := (S.1, S.2.1, S.2.2.1, S.2.2.2.1, S.2.2.2.2.1, fun e' => if e' = e then some v else S.2.2.2.2.2 e')
def ce_val (ad : Nat → Nat → Nat) (v : ce_V) : Value := match v with
  | .inl x => .int x
  | .inr (.inl q) => .ref (ad q.1 q.2)
  | .inr (.inr x) => .long x
/-! the kinds of cells. Component: 0 the object, 1 kinds, 2 folk, 3 crowd, 4 keptFolk, 5 texts, 6 sheets (arrays), 7 tape, 8 letters, 9 steps, 10 kinds' objects, 11 sellers, 12 scenes, 13 texts, 14 codes, 15 sheets, 16 items, 17 stacks. Reference: 20 the object, 21 .. 27 kind cost number said cups stands price, 28 tape, 29 codes, 30 codeLong, 31 held, 32 stack, 33 kept, 34 sort, 35 size, 36 cells, 37 moved, 40 words, 41 a word. 60 the script, 61 text constants -/
abbrev ce_FK : Type := Unit ⊕ (Nat × (Nat → Nat)) ⊕ Nat
def ce_k0 (i : Nat) : Nat := i
def ce_k3 (e : Nat) : Nat := 3 * e
def ce_k31 (e : Nat) : Nat := 3 * e + 1
def ce_k32 (e : Nat) : Nat := 3 * e + 2
def ce_fst (t : Nat) : ce_FK := .inr (.inl (t, fun _ => 0))
def ce_fk (t k : Nat) : ce_FK := match t with
  | 0 => (match k with
    | 0 => ce_fst 1
    | 1 => ce_fst 2
    | 2 => ce_fst 12
    | 3 => ce_fst 5
    | 4 => ce_fst 7
    | 5 => ce_fst 6
    | 8 => .inr (.inl (11, fun _ => 18))
    | 9 => ce_fst 3
    | 10 => .inr (.inl (12, fun _ => 1))
    | 11 => ce_fst 4
    | 12 => .inr (.inl (12, fun _ => 2))
    | _ => .inl ())
  | 7 => (match k with
    | 1 => ce_fst 8
    | 2 => ce_fst 9
    | _ => .inl ())
  | 11 => (match k with
    | 0 => .inr (.inr 10)
    | _ => .inl ())
  | 12 => (match k with
    | 4 => .inr (.inr 13)
    | _ => .inl ())
  | 13 => (match k with
    | 0 => .inr (.inl (14, ce_k0))
    | 3 => .inr (.inl (17, ce_k0))
    | _ => .inl ())
  | 15 => (match k with
    | 0 => .inr (.inl (16, ce_k0))
    | _ => .inl ())
  | 20 => (match k with
    | 0 => ce_fst 21
    | 1 => ce_fst 22
    | 2 => ce_fst 23
    | 3 => ce_fst 24
    | 4 => ce_fst 25
    | 5 => ce_fst 26
    | 6 => ce_fst 27
    | 12 => ce_fst 40
    | 13 => ce_fst 28
    | 14 => ce_fst 29
    | 15 => ce_fst 30
    | 16 => ce_fst 31
    | 17 => ce_fst 32
    | 27 => ce_fst 33
    | 41 => ce_fst 34
    | 42 => ce_fst 35
    | 43 => ce_fst 36
    | 44 => ce_fst 37
    | _ => .inl ())
  | _ => .inl ()
/-- 0 an object, 1 a row of ints, 2 a row of references, 3 none of ours -/
def ce_so (t : Nat) : Nat := match t with
  | 0 => 0
  | 1 => 2
  | 2 => 2
  | 3 => 2
  | 4 => 2
  | 5 => 2
  | 6 => 2
  | 7 => 0
  | 8 => 1
  | 9 => 1
  | 10 => 0
  | 11 => 0
  | 12 => 0
  | 13 => 0
  | 14 => 1
  | 15 => 0
  | 16 => 1
  | 17 => 1
  | 20 => 0
  | 21 => 1
  | 22 => 1
  | 23 => 1
  | 24 => 1
  | 25 => 1
  | 26 => 1
  | 27 => 1
  | 28 => 1
  | 29 => 1
  | 30 => 1
  | 31 => 1
  | 32 => 1
  | 33 => 1
  | 34 => 1
  | 35 => 1
  | 36 => 1
  | 37 => 1
  | 40 => 2
  | 41 => 1
  | _ => 3
/-- an object's kind among vwCl -/
def ce_ci (t i : Nat) : Nat := match t with
  | 0 => 11
  | 7 => 9
  | 10 => (match i with
    | 0 => 3
    | 1 => 2
    | 2 => 8
    | 3 => 7
    | 4 => 0
    | _ => 1)
  | 11 => 5
  | 12 => 4
  | 13 => 10
  | 15 => 6
  | _ => 12
/-- a row's kind: 0 int, 1 Kind, 2 Seller, 3 Text, 4 Sheet, 5 int[] -/
def ce_ac (t : Nat) : Nat := match t with
  | 1 => 1
  | 2 => 2
  | 3 => 2
  | 4 => 2
  | 5 => 3
  | 6 => 4
  | 40 => 5
  | _ => 0
/-- a row's length, where it is fixed -/
def ce_sl (t : Nat) : Option Nat := match t with
  | 1 => some 6
  | 2 => some 6
  | 3 => some 6
  | 4 => some 6
  | 5 => some 6
  | 6 => some 4
  | 8 => some 160
  | 9 => some 160
  | 16 => some 40
  | 21 => some 6
  | 22 => some 6
  | 23 => some 6
  | 24 => some 6
  | 25 => some 6
  | 26 => some 6
  | 27 => some 6
  | 28 => some 160
  | 29 => some 3060
  | 30 => some 18
  | 31 => some 200
  | 32 => some 200
  | 33 => some 180
  | 34 => some 4
  | 35 => some 4
  | 36 => some 160
  | 37 => some 40
  | 40 => some 12
  | _ => none
def ce_len (S : ce_S) (t i : Nat) : Nat := match ce_sl t with
  | some n => n
  | none => ce_L S t i
/-- a row's items: of which kind, which -/
def ce_et (t : Nat) : Nat := match t with
  | 1 => 10
  | 5 => 13
  | 6 => 15
  | 40 => 41
  | _ => 11
def ce_eg (t : Nat) : Option (Nat → Nat) := match t with
  | 1 => some ce_k0
  | 2 => some ce_k3
  | 3 => some ce_k31
  | 4 => some ce_k32
  | 6 => some ce_k0
  | 40 => some ce_k0
  | _ => none
def ce_el (S : ce_S) (t e : Nat) : Option Nat := match ce_eg t with
  | some g => some (g e)
  | none => ce_Q S e
def ce_fv (ad : Nat → Nat → Nat) (S : ce_S) (t k i : Nat) : Value := match ce_fk t k with
  | .inl _ => .int (ce_I S t k i)
  | .inr (.inl q) => .ref (ad q.1 (q.2 i))
  | .inr (.inr t') => .ref (ad t' (ce_R S t k i))
/-- a cell of the heap holds what the state says -/
def ce_at (D : va_G) (ca : Nat → ClassId) (ad : Nat → Nat → Nat) (S : ce_S) (t i : Nat) (H : Heap) : Prop :=
  (ce_so t = 0 → ∃ r : vw_C, vwCl[ce_ci t i]? = some r ∧ t_OB (ad t i) (D.1 (ce_ci t i)) r.2.2 (D.2 (ce_ci t i)) H (fun k => ce_fv ad S t k i)) ∧
  (ce_so t = 1 → H[ad t i]? = some (vp_cell (ca 0) (ce_len S t i, .inl (fun e => ce_A S t i e)))) ∧
  (ce_so t = 2 → H[ad t i]? = some (vp_cell (ca (ce_ac t)) (ce_len S t i, .inr (.inr (.inr (.inr (fun e => (ce_el S t e).map (ad (ce_et t)))))))))
def ce_H (D : va_G) (ca : Nat → ClassId) (b0 : Nat → Prop) (ad : Nat → Nat → Nat) (S : ce_S) (H : Heap) : Prop :=
  (∀ t i, i < ce_C S t → ce_so t < 3 → ce_at D ca ad S t i H ∧ b0 (ad t i) ∧ ad t i < H.size) ∧ (∀ t i t' i', i < ce_C S t → i' < ce_C S t' → ce_so t < 3 → ce_so t' < 3 → ad t i = ad t' i' → t = t' ∧ i = i')
def ce_okV (S : ce_S) (v : ce_V) : Prop := match v with
  | .inr (.inl q) => q.2 < ce_C S q.1
  | _ => True
def ce_okT (S : ce_S) (st : List ce_V) : Prop := ∀ v ∈ st, ce_okV S v
def ce_okL (S : ce_S) (ls : List (Option ce_V)) : Prop := ∀ (j : Nat) (v : ce_V), ls[j]? = some (some v) → ce_okV S v
/-- every reference that is held is one -/
def ce_okS (S : ce_S) : Prop :=
  (∀ t k i, i < ce_C S t → ce_so t = 0 → (∀ q, ce_fk t k = .inr (.inl q) → q.2 i < ce_C S q.1) ∧ (∀ t', ce_fk t k = .inr (.inr t') → ce_R S t k i < ce_C S t')) ∧
  (∀ t i e x, i < ce_C S t → ce_so t = 2 → e < ce_len S t i → ce_el S t e = some x → x < ce_C S (ce_et t))
def ce_tys (ca : Nat → ClassId) : List (ClassId × FieldType) := [(ca 0, .int), (ca 1, .object RX3), (ca 2, .object RX5), (ca 3, .object RX10), (ca 4, .object RX6), (ca 5, .array .int)]
/-- the tables' words that stay -/
def ce_tw : List Cond := lw_tbl.filter goodWord
theorem ce_tw_in {w : Cond} (h : w ∈ lw_tbl) (g : goodWord w = true) : w ∈ ce_tw := List.mem_filter.mpr ⟨h, g⟩
theorem ce_goodIn {y : MethodName} {cc : ByteArray} {n : Nat} {r : Option FieldType} {y' : MethodName} {cc' : ByteArray} {n' : Nat} {r' : Option FieldType} (h : Cond.code y' cc' n' r' ∈ ce_tw) : GoodIn (Cond.code y cc n r :: ce_tw) (Cond.code y' cc' n' r' :: ce_tw) := by
  have g : ∀ w ∈ ce_tw, w ∈ (Cond.code y cc n r :: ce_tw) ∧ ((w.onTables && w.keeps) = true ∨ ∃ ty, w = .arrayClass ty) := fun w hw => ⟨List.mem_cons_of_mem _ hw, good_of_word (List.mem_filter.mp hw).2⟩
  intro w hw
  rcases List.mem_cons.mp hw with e | hw
  · subst e; exact g _ h
  · exact g w hw
end
section
/-! what the tables say of the world, and the rows of the heap -/
def ce_castW : List (String × String) := [(RX0, RX2), (RX1, RX2), (RX7, RX8)]
def ce_G (D : va_G) (ca : Nat → ClassId) (U : State) : Prop := va_K D vwCl (ce_tys ca) U ∧ (va_Nw (.methodLinkNest RX10 7 yX11_within RX11) U ∧ va_Nw (.methodLinkNest RX4 37 yX11_within RX11) U ∧ va_Nw (.methodLinkNest RX6 22 yX11_within RX11) U) ∧ (∀ q ∈ ce_castW, va_Nw (.castable q.1 q.2) U) ∧ (∀ a ∈ [RX0, RX1, RX2, RX3, RX7, RX8], ∀ b ∈ [RX2, RX8, RX7, RX0, RX1], a = b ∨ (a, b) ∈ ce_castW ∨ va_Nc a b U)
theorem ce_G.warm {D : va_G} {ca : Nat → ClassId} {s U : State} (hW : s.WarmedH U.vm) (h : ce_G D ca s) : ce_G D ca U :=
  ⟨va_K.moved hW.alike h.1, ⟨h.2.1.1.warmM hW, h.2.1.2.1.warmM hW, h.2.1.2.2.warmM hW⟩, fun q hq => (h.2.2.1 q hq).warmC hW, fun a ha b hb => (h.2.2.2 a ha b hb).imp id (Or.imp id (fun z => va_Nc.moved hW.alike z))⟩
theorem ce_G.same {D : va_G} {ca : Nat → ClassId} {s U : State} (hW : s.vm = U.vm) (h : ce_G D ca s) : ce_G D ca U :=
  ⟨va_K.moved (by rw [hW]; exact Vm.Alike.refl _) h.1, ⟨h.2.1.1.same rfl hW, h.2.1.2.1.same rfl hW, h.2.1.2.2.same rfl hW⟩, fun q hq => (h.2.2.1 q hq).same rfl hW, fun a ha b hb => (h.2.2.2 a ha b hb).imp id (Or.imp id (fun z => va_Nc.moved (by rw [hW]; exact Vm.Alike.refl _) z))⟩
/-- the text constants, and two statics of the JDK's -/
def ce_tR : List (String × Nat × String) := [(RX9, 106, "least"), (RX9, 112, "first"), (RX9, 114, "pull"), (RX9, 116, "or"), (RX9, 118, "and"), (RX9, 120, "not"), (RX9, 122, "cost"), (RX9, 124, "shoes"), (RX9, 126, "hour"), (RX9, 128, "bid"), (RX9, 130, "said"), (RX9, 132, "cups"), (RX11, 80, "least cost + shoes * 2 - ( hour < 9 ) * 10 ; first 2 * cost + shoes * 20 ; pull 0 ;")]
def ce_sB : List (List Int32) := [[108, 101, 97, 115, 116], [102, 105, 114, 115, 116], [112, 117, 108, 108], [111, 114], [97, 110, 100], [110, 111, 116], [99, 111, 115, 116], [115, 104, 111, 101, 115], [104, 111, 117, 114], [98, 105, 100], [115, 97, 105, 100], [99, 117, 112, 115], [108, 101, 97, 115, 116, 32, 99, 111, 115, 116, 32, 43, 32, 115, 104, 111, 101, 115, 32, 42, 32, 50, 32, 45, 32, 40, 32, 104, 111, 117, 114, 32, 60, 32, 57, 32, 41, 32, 42, 32, 49, 48, 32, 59, 32, 102, 105, 114, 115, 116, 32, 50, 32, 42, 32, 99, 111, 115, 116, 32, 43, 32, 115, 104, 111, 101, 115, 32, 42, 32, 50, 48, 32, 59, 32, 112, 117, 108, 108, 32, 48, 32, 59]]
def ce_sN : List Nat := [5, 5, 4, 2, 3, 3, 4, 5, 4, 3, 4, 4, 83]
def ce_61 (S : ce_S) : Prop := 13 ≤ ce_C S 61 ∧ 13 ≤ ce_C S 62
def ce_X (ad : Nat → Nat → Nat) (b0 : Nat → Prop) (U : State) : Prop := vk_S 13 ce_sN ce_sB (ad 61) (ad 62) (fun q => b0 q) U U.heap ∧ (∀ (j : Nat) (q : String × Nat × String), ce_tR[j]? = some q → vk_R q.1 q.2.1 q.2.2 (ad 61 j) U) ∧ va_Z "java/lang/String" "COMPACT_STRINGS" "Z" (.int 1) (fun q => b0 q) U U.heap ∧ va_Zq "jdk/internal/util/Preconditions" "SIOOBE_FORMATTER" "Ljava/util/function/BiFunction;" (fun q => b0 q) U U.heap ∧ ∀ q : Nat, U.heap.size ≤ q → b0 q
theorem ce_X.warm {ad : Nat → Nat → Nat} {b0 : Nat → Prop} {s U : State} (hW : s.WarmedH U.vm) (hz : s.heap.size ≤ U.heap.size) (hq : ∀ q : Nat, q < s.heap.size → ¬ b0 q → U.heap[q]? = s.heap[q]?) (h : ce_X ad b0 s) : ce_X ad b0 U := by
  obtain ⟨h1, h2, h3, h4, h5⟩ := h
  exact ⟨(h1.kept hq).moved hW.alike, fun j q hj => (h2 j q hj).warm hW, (h3.kept hq).moved hW.alike, (h4.kept hq).moved hW.alike, fun q g => h5 q (Nat.le_trans hz g)⟩
theorem ce_X.same {ad : Nat → Nat → Nat} {b0 : Nat → Prop} {s U : State} (hv : s.vm = U.vm) (hq : U.heap = s.heap) (h : ce_X ad b0 s) : ce_X ad b0 U := by
  obtain ⟨h1, h2, h3, h4, h5⟩ := h
  have ha : s.vm.Alike U.vm := by rw [hv]; exact Vm.Alike.refl _
  have hk : ∀ q : Nat, q < s.heap.size → ¬ b0 q → U.heap[q]? = s.heap[q]? := fun q _ _ => by rw [hq]
  exact ⟨(h1.kept hk).moved ha, fun j q hj => (h2 j q hj).same hv.symm, (h3.kept hk).moved ha, (h4.kept hk).moved ha, fun q g => h5 q (by rw [hq] at g; exact g)⟩
theorem ce_X.agree {ad ad' : Nat → Nat → Nat} {b0 : Nat → Prop} {s : State} (hq : ∀ j : Nat, j < 13 → ad' 61 j = ad 61 j ∧ ad' 62 j = ad 62 j) (h : ce_X ad b0 s) : ce_X ad' b0 s := by
  obtain ⟨h1, h2, h3, h4, h5⟩ := h
  refine ⟨⟨fun i hi => by rw [(hq i hi).1, (hq i hi).2]; exact h1.1 i hi, fun i j hi hj => by rw [(hq i hi).1, (hq j hj).1]; exact h1.2 i j hi hj⟩, fun j q hj => ?_, h3, h4, h5⟩
  rw [(hq j (by have := (List.getElem?_eq_some_iff.mp hj).1; exact this)).1]
  exact h2 j q hj
/-- a cell stays where the state and the heap stay -/
theorem ce_at.kept {D : va_G} {ca : Nat → ClassId} {ad : Nat → Nat → Nat} {S S' : ce_S} {t i : Nat} {H H1 : Heap} (h : ce_at D ca ad S t i H) (hq : H1[ad t i]? = H[ad t i]?) (hI : ∀ k, ce_I S' t k i = ce_I S t k i) (hR : ∀ k, ce_R S' t k i = ce_R S t k i) (hA : ∀ e, ce_A S' t i e = ce_A S t i e) (hL : ce_L S' t i = ce_L S t i) (hQ : ce_so t = 2 → ∀ e, ce_el S' t e = ce_el S t e) : ce_at D ca ad S' t i H1 := by
  have hl : ce_len S' t i = ce_len S t i := by
    unfold ce_len
    cases ce_sl t <;> simp [hL]
  refine ⟨fun h0 => ?_, fun h1 => ?_, fun h2 => ?_⟩
  · obtain ⟨r, h1, h2⟩ := h.1 h0
    refine ⟨r, h1, (h2.kept hq).to (fun k _ => ?_)⟩
    unfold ce_fv
    cases ce_fk t k with
    | inl u => simp [hI]
    | inr u => cases u with
      | inl u => rfl
      | inr u => simp [hR]
  · rw [hq, h.2.1 h1, hl]
    congr 4
    funext e
    exact (hA e).symm
  · rw [hq, h.2.2 h2, hl]
    congr 7
    funext e
    rw [hQ h2 e]
/-- one cell is written: the others stay -/
theorem ce_H.set {D : va_G} {ca : Nat → ClassId} {b0 : Nat → Prop} {ad : Nat → Nat → Nat} {S S' : ce_S} {t i : Nat} {H H1 : Heap} (h : ce_H D ca b0 ad S H) (hi : i < ce_C S t) (ht : ce_so t < 3) (hz : H1.size = H.size) (ho : ∀ q : Nat, q ≠ ad t i → H1[q]? = H[q]?) (hC : ∀ t, ce_C S' t = ce_C S t) (hc : ce_at D ca ad S' t i H1)
    (hk : ∀ t' i', ¬ (t' = t ∧ i' = i) → (∀ k, ce_I S' t' k i' = ce_I S t' k i') ∧ (∀ k, ce_R S' t' k i' = ce_R S t' k i') ∧ (∀ e, ce_A S' t' i' e = ce_A S t' i' e) ∧ ce_L S' t' i' = ce_L S t' i' ∧ (ce_so t' = 2 → i' < ce_C S t' → ∀ e, ce_el S' t' e = ce_el S t' e)) : ce_H D ca b0 ad S' H1 := by
  refine ⟨fun t' i' hi' ht' => ?_, fun a b a' b' h1 h2 h3 h4 h5 => h.2 a b a' b' (by rw [hC] at h1; exact h1) (by rw [hC] at h2; exact h2) h3 h4 h5⟩
  rw [hC] at hi'
  obtain ⟨g1, g2, g3⟩ := h.1 t' i' hi' ht'
  refine ⟨?_, g2, by rw [hz]; exact g3⟩
  by_cases e : t' = t ∧ i' = i
  · obtain ⟨rfl, rfl⟩ := e
    exact hc
  · obtain ⟨k1, k2, k3, k4, k5⟩ := hk t' i' e
    exact g1.kept (ho _ (fun q => e (h.2 t' i' t i hi' hi ht' ht q))) k1 k2 k3 k4 (fun z => k5 z hi')
theorem ce_u_eq {α : Type} (f : Nat → Nat → Nat → α) (t k i : Nat) (v : α) : ce_u f t k i v t k i = v := by simp [ce_u]
theorem ce_u_ne {α : Type} (f : Nat → Nat → Nat → α) {t k i t' k' i' : Nat} (v : α) (h : ¬ (t' = t ∧ k' = k ∧ i' = i)) : ce_u f t k i v t' k' i' = f t' k' i' := by
  unfold ce_u
  by_cases h1 : t' = t
  · by_cases h2 : k' = k
    · by_cases h3 : i' = i
      · exact absurd ⟨h1, h2, h3⟩ h
      · simp [h3]
    · simp [h2]
  · simp [h1]
section CEB
variable {p : Program} {l : Launch} {e : Env} {R : Room} {s : State} {m : MethodId} {args : Array Value} {below : List Frame} {meth : Method} {c : Code} {H : Heap} {locs : List Loc} {cells slots : Nat} {Q : State → Prop}
variable {cc : ByteArray} {pc : Nat} {ls : Array Slot} {rest : List Value} {D : va_G} {cl : List vw_C} {tys : List (ClassId × FieldType)}
/-- getfield -/
theorem ce_get (hexec : p.tables.exec = Jvm.exec) (hb : c.code = cc) {own C : String} {T : u_T} {N ci index : Nat} {Ts : List Cond} (hts : ∀ w ∈ Ts, w.before args s = true) (hin : ∀ w ∈ u_ws C T N, w ∈ Ts) (hown : s.vm.findClass own = some m.cls) (hK : va_K D cl tys s) {a : Nat} {V : Nat → Value} (hP : t_OB a (D.1 ci) N (D.2 ci) H V) (hc : cl[ci]? = some (C, T, N)) (k : Nat) (hk : k < N) (hlink : (Cond.fieldLink own index (T k).1 (T k).2.1 (T k).2.2.1).before args s = true) {v : Value} (hv : V k = v) (hdg : decode cc pc = .ok (.getfield index, 3))
    (kk : W p l e R s m args below meth c H locs cells slots Q (F0 m (pc + 3) ls (v :: rest))) : W p l e R s m args below meth c H locs cells slots Q (F0 m pc ls (.ref a :: rest)) := by
  obtain ⟨cell, q1, q2, q3, q4⟩ := hP
  obtain ⟨hS, hfc, kC, hkC, hkind⟩ := hK.1 ci _ hc
  obtain ⟨cf, kf, fi, f, hi, hsl⟩ := hS k hk
  refine W.getf hexec hb hown hlink hi (u_facts hfc hkC (u_lays hts hin hk) hi).1 q1 (by rw [q3]; exact fun h => by cases h) (v := v) ?_ rfl rfl hdg kk
  rw [hsl, q4 k hk, hv]
/-- putfield, and that nothing else changes -/
theorem ce_put (hexec : p.tables.exec = Jvm.exec) (hb : c.code = cc) {own C : String} {T : u_T} {N ci index : Nat} {Ts : List Cond} (hts : ∀ w ∈ Ts, w.before args s = true) (hin : ∀ w ∈ u_ws C T N, w ∈ Ts) (ty0 : Nat → FieldType) (hty : ∀ k, k < N → parseFieldDescriptor (T k).2.2.1 = some (ty0 k)) (hnm : ∀ a, a < N → ∀ b, b < N → a ≠ b → (T a).2.1 ≠ (T b).2.1) (hown : s.vm.findClass own = some m.cls) (hK : va_K D cl tys s) {a : Nat} {V : Nat → Value} (hP : t_OB a (D.1 ci) N (D.2 ci) H V) (hc : cl[ci]? = some (C, T, N)) (k : Nat) (hk : k < N) (hlink : (Cond.fieldLink own index (T k).1 (T k).2.1 (T k).2.2.1).before args s = true) (hfin : (T k).2.2.2 = false) {v : Value} (hn : narrow (ty0 k) v = v) (hfit : fits (ty0 k) v = true)
    (hdg : decode cc pc = .ok (.putfield index, 3)) (kk : ∀ (H1 : Heap) (lc : Loc), lc.base = a → t_OB a (D.1 ci) N (D.2 ci) H1 (updV V k v) → H1.size = H.size → (∀ q : Nat, q ≠ a → H1[q]? = H[q]?) → W p l e R s m args below meth c H1 (locs ++ [lc]) cells slots Q (F0 m (pc + 3) ls rest)) : W p l e R s m args below meth c H locs cells slots Q (F0 m pc ls (v :: .ref a :: rest)) := by
  have hap := va_apart (own := own) hts hin ty0 hty hnm hK hc
  obtain ⟨cell, q1, q2, q3, q4⟩ := hP
  obtain ⟨hS, hfc, kC, hkC, hkind⟩ := hK.1 ci _ hc
  obtain ⟨cf, kf, fi, f, hi, hsl⟩ := hS k hk
  have hlay := hts _ (hin _ (u_in_lay hk))
  unfold u_lay at hlay
  rw [if_neg (by rw [hfin]; decide)] at hlay
  have hst := (u_facts hfc hkC (u_lays hts hin hk) hi).1
  have h6 := u_store hfc hkC hkind hlay hi (hty k hk) hn hfit
  refine W.putK hexec hb (f := f) ⟨hown, hlink, ⟨_, _, _, hi⟩, hst⟩ (by rw [q2]; exact h6) q1 q3 (by rw [hsl]; exact k2_hasslot (q4 k hk)) rfl rfl hdg fun H' e1 e2 e3 => ?_
  rw [hsl] at e1 ⊢
  exact kk H' _ rfl ⟨_, e1, q2, q3, t_set q4 hap hk v⟩ e2 e3
end CEB
end
section
/-! the plain machine: a step is a function; a method's code is a list of steps -/
abbrev ce_Rs : Type := Option (Option ce_V × ce_S)
abbrev ce_K : Type := Nat → Nat × Nat → List (Option ce_V) → List ce_V → ce_S → ce_Rs
abbrev ce_Op : Type := Nat → Nat × Nat → List (Option ce_V) → List ce_V → ce_S → ce_K → ce_Rs
theorem ce_bt {X : ce_Rs} {a b : Nat} : (Bool.rec (motive := fun _ => ce_Rs) none X (Nat.beq a b) : ce_Rs) = if a = b then X else none := by
  by_cases h : a = b
  · subst h
    rw [if_pos rfl, show Nat.beq a a = true from by first | exact Nat.beq_refl a | simp]
  · rw [if_neg h, show Nat.beq a b = false from by cases hq : Nat.beq a b with | false => rfl | true => exact absurd (Nat.eq_of_beq_eq_true hq) h]
theorem ce_bl {X : ce_Rs} {a b : Nat} : (Bool.rec (motive := fun _ => ce_Rs) none X (Nat.ble a b) : ce_Rs) = if a ≤ b then X else none := by
  by_cases h : a ≤ b
  · rw [if_pos h, Nat.ble_eq_true_of_le h]
  · rw [if_neg h, show Nat.ble a b = false from by cases hq : Nat.ble a b with | false => rfl | true => exact absurd (Nat.le_of_ble_eq_true hq) h]
theorem ce_ba {X : ce_Rs} {b c : Bool} : (Bool.rec (motive := fun _ => ce_Rs) none X (b && c) : ce_Rs) = Bool.rec (motive := fun _ => ce_Rs) none (Bool.rec (motive := fun _ => ce_Rs) none X c) b := by cases b <;> rfl
theorem ce_bc {X : ce_Rs} {a b c d e f g h : Nat} : (Bool.rec (motive := fun _ => ce_Rs) none X (Nat.ble a b && (Nat.ble c d && (Nat.ble e f && Nat.ble g h))) : ce_Rs) = if a ≤ b ∧ c ≤ d ∧ e ≤ f ∧ g ≤ h then X else none := by
  rw [ce_ba, ce_ba, ce_ba, ce_bl, ce_bl, ce_bl, ce_bl]
  by_cases h1 : a ≤ b <;> by_cases h2 : c ≤ d <;> by_cases h3 : e ≤ f <;> by_cases h4 : g ≤ h <;> simp [h1, h2, h3, h4]
def ce_bad : ce_Op := fun _ _ _ _ _ _ => none
noncomputable def ce_run (tb : List ce_Op) (n : Nat) : ce_K := Nat.rec (motive := fun _ => ce_K) (fun _ _ _ _ _ => none) (fun _ ih i nn ls st S => (tb.getD i ce_bad) i nn ls st S ih) n
def o_int (v : Int32) : ce_Op := fun i nn ls st S k => k (i + 1) nn ls (.inl v :: st) S
def o_long (v : Int64) : ce_Op := fun i nn ls st S k => k (i + 1) nn ls (.inr (.inr v) :: st) S
def o_iload (j : Nat) : ce_Op := fun i nn ls st S k => match ls.getD j none with
  | some (.inl x) => k (i + 1) nn ls (.inl x :: st) S
  | _ => none
def o_aload (j : Nat) : ce_Op := fun i nn ls st S k => match ls.getD j none with
  | some (.inr (.inl q)) => k (i + 1) nn ls (.inr (.inl q) :: st) S
  | _ => none
def o_istore (j : Nat) : ce_Op := fun i nn ls st S k => match st with
  | .inl x :: r => k (i + 1) nn (ls.set j (some (.inl x))) r S
  | _ => none
def o_astore (j : Nat) : ce_Op := fun i nn ls st S k => match st with
  | .inr (.inl q) :: r => k (i + 1) nn (ls.set j (some (.inr (.inl q)))) r S
  | _ => none
noncomputable def o_iinc (j : Nat) (d : Int32) : ce_Op := fun i nn ls st S k => match ls.getD j none with
  | some (.inl x) => k (i + 1) nn (ls.set j (some (.inl (q_add x d)))) st S
  | _ => none
def o_bin (f : Int32 → Int32 → Int32) : ce_Op := fun i nn ls st S k => match st with
  | .inl y :: .inl x :: r => k (i + 1) nn ls (.inl (f x y) :: r) S
  | _ => none
noncomputable def o_div : ce_Op := fun i nn ls st S k => match st with
  | .inl y :: .inl x :: r => if y = 0 then none else k (i + 1) nn ls (.inl (q_div x y) :: r) S
  | _ => none
noncomputable def o_rem : ce_Op := fun i nn ls st S k => match st with
  | .inl y :: .inl x :: r => if y = 0 then none else k (i + 1) nn ls (.inl (q_rem x y) :: r) S
  | _ => none
def o_un (f : Int32 → Int32) : ce_Op := fun i nn ls st S k => match st with
  | .inl x :: r => k (i + 1) nn ls (.inl (f x) :: r) S
  | _ => none
def o_i2l : ce_Op := fun i nn ls st S k => match st with
  | .inl x :: r => k (i + 1) nn ls (.inr (.inr x.toInt64) :: r) S
  | _ => none
def o_lcmp : ce_Op := fun i nn ls st S k => match st with
  | .inr (.inr y) :: .inr (.inr x) :: r => k (i + 1) nn ls (.inl (lg_cmp x y) :: r) S
  | _ => none
def o_goto (t : Nat) : ce_Op := fun _ nn ls st S k => k t nn ls st S
def o_ifeq (t : Nat) : ce_Op := fun i nn ls st S k => match st with
  | .inl x :: r => if x = 0 then k t nn ls r S else k (i + 1) nn ls r S
  | _ => none
def o_ifne (t : Nat) : ce_Op := fun i nn ls st S k => match st with
  | .inl x :: r => if x = 0 then k (i + 1) nn ls r S else k t nn ls r S
  | _ => none
def o_iflt (t : Nat) : ce_Op := fun i nn ls st S k => match st with
  | .inl x :: r => if x < 0 then k t nn ls r S else k (i + 1) nn ls r S
  | _ => none
def o_ifge (t : Nat) : ce_Op := fun i nn ls st S k => match st with
  | .inl x :: r => if 0 ≤ x then k t nn ls r S else k (i + 1) nn ls r S
  | _ => none
def o_ifgt (t : Nat) : ce_Op := fun i nn ls st S k => match st with
  | .inl x :: r => if 0 < x then k t nn ls r S else k (i + 1) nn ls r S
  | _ => none
def o_ifle (t : Nat) : ce_Op := fun i nn ls st S k => match st with
  | .inl x :: r => if x ≤ 0 then k t nn ls r S else k (i + 1) nn ls r S
  | _ => none
def o_cmpeq (t : Nat) : ce_Op := fun i nn ls st S k => match st with
  | .inl y :: .inl x :: r => if x = y then k t nn ls r S else k (i + 1) nn ls r S
  | _ => none
def o_cmpne (t : Nat) : ce_Op := fun i nn ls st S k => match st with
  | .inl y :: .inl x :: r => if x = y then k (i + 1) nn ls r S else k t nn ls r S
  | _ => none
def o_cmplt (t : Nat) : ce_Op := fun i nn ls st S k => match st with
  | .inl y :: .inl x :: r => if x < y then k t nn ls r S else k (i + 1) nn ls r S
  | _ => none
def o_cmpge (t : Nat) : ce_Op := fun i nn ls st S k => match st with
  | .inl y :: .inl x :: r => if y ≤ x then k t nn ls r S else k (i + 1) nn ls r S
  | _ => none
def o_cmpgt (t : Nat) : ce_Op := fun i nn ls st S k => match st with
  | .inl y :: .inl x :: r => if y < x then k t nn ls r S else k (i + 1) nn ls r S
  | _ => none
def o_cmple (t : Nat) : ce_Op := fun i nn ls st S k => match st with
  | .inl y :: .inl x :: r => if x ≤ y then k t nn ls r S else k (i + 1) nn ls r S
  | _ => none
def ce_sw (x : Int32) : List (Int32 × Nat) → Nat → (Nat → ce_Rs) → ce_Rs
  | [], d, kk => kk d
  | q :: r, d, kk => if x = q.1 then kk q.2 else ce_sw x r d kk
def o_sw (ks : List (Int32 × Nat)) (d : Nat) : ce_Op := fun _ nn ls st S k => match st with
  | .inl x :: r => ce_sw x ks d (fun t => k t nn ls r S)
  | _ => none
def o_dup : ce_Op := fun i nn ls st S k => match st with
  | .inl x :: r => k (i + 1) nn ls (.inl x :: .inl x :: r) S
  | .inr (.inl x) :: r => k (i + 1) nn ls (.inr (.inl x) :: .inr (.inl x) :: r) S
  | _ => none
def o_dup2 : ce_Op := fun i nn ls st S k => match st with
  | .inl y :: .inr (.inl x) :: r => k (i + 1) nn ls (.inl y :: .inr (.inl x) :: .inl y :: .inr (.inl x) :: r) S
  | _ => none
def o_pop : ce_Op := fun i nn ls st S k => match st with
  | .inl _ :: r => k (i + 1) nn ls r S
  | _ => none
noncomputable def o_getI (t f : Nat) : ce_Op := fun i nn ls st S k => match st with
  | .inr (.inl q) :: r => Bool.rec (motive := fun _ => ce_Rs) none (k (i + 1) nn ls (.inl (ce_I S t f q.2) :: r) S) (Nat.beq q.1 t)
  | _ => none
noncomputable def o_getS (t t' : Nat) (g : Nat → Nat) : ce_Op := fun i nn ls st S k => match st with
  | .inr (.inl q) :: r => Bool.rec (motive := fun _ => ce_Rs) none (k (i + 1) nn ls (.inr (.inl (t', g q.2)) :: r) S) (Nat.beq q.1 t)
  | _ => none
noncomputable def o_getM (t f t' : Nat) : ce_Op := fun i nn ls st S k => match st with
  | .inr (.inl q) :: r => Bool.rec (motive := fun _ => ce_Rs) none (k (i + 1) nn ls (.inr (.inl (t', ce_R S t f q.2)) :: r) S) (Nat.beq q.1 t)
  | _ => none
noncomputable def o_putI (t f : Nat) : ce_Op := fun i nn ls st S k => match st with
  | .inl x :: .inr (.inl q) :: r => Bool.rec (motive := fun _ => ce_Rs) none (k (i + 1) nn ls r (ce_sI S t f q.2 x)) (Nat.beq q.1 t)
  | _ => none
noncomputable def o_putZ (t f : Nat) : ce_Op := fun i nn ls st S k => match st with
  | .inl x :: .inr (.inl q) :: r => Bool.rec (motive := fun _ => ce_Rs) none ((if x = 0 ∨ x = 1 then k (i + 1) nn ls r (ce_sI S t f q.2 x) else none)) (Nat.beq q.1 t)
  | _ => none
noncomputable def o_putM (t f t' : Nat) : ce_Op := fun i nn ls st S k => match st with
  | .inr (.inl v) :: .inr (.inl q) :: r => Bool.rec (motive := fun _ => ce_Rs) none ((if v.1 = t' then k (i + 1) nn ls r (ce_sR S t f q.2 v.2) else none)) (Nat.beq q.1 t)
  | _ => none
noncomputable def o_ild (t : Nat) : ce_Op := fun i nn ls st S k => match st with
  | .inl j :: .inr (.inl q) :: r => Bool.rec (motive := fun _ => ce_Rs) none ((if j < 0 ∨ ce_len S t q.2 ≤ j.toNatClampNeg then none else k (i + 1) nn ls (.inl (ce_A S t q.2 j.toNatClampNeg) :: r) S)) (Nat.beq q.1 t)
  | _ => none
noncomputable def o_ist (t : Nat) : ce_Op := fun i nn ls st S k => match st with
  | .inl x :: .inl j :: .inr (.inl q) :: r => Bool.rec (motive := fun _ => ce_Rs) none ((if j < 0 ∨ ce_len S t q.2 ≤ j.toNatClampNeg then none else k (i + 1) nn ls r (ce_sA S t q.2 j.toNatClampNeg x))) (Nat.beq q.1 t)
  | _ => none
noncomputable def o_alen (t : Nat) : ce_Op := fun i nn ls st S k => match st with
  | .inr (.inl q) :: r => Bool.rec (motive := fun _ => ce_Rs) none (k (i + 1) nn ls (.inl (nI (ce_len S t q.2)) :: r) S) (Nat.beq q.1 t)
  | _ => none
noncomputable def o_ald (t t' : Nat) (g : Nat → Nat) : ce_Op := fun i nn ls st S k => match st with
  | .inl j :: .inr (.inl q) :: r => Bool.rec (motive := fun _ => ce_Rs) none ((if j < 0 ∨ ce_len S t q.2 ≤ j.toNatClampNeg then none else k (i + 1) nn ls (.inr (.inl (t', g j.toNatClampNeg)) :: r) S)) (Nat.beq q.1 t)
  | _ => none
noncomputable def o_aldQ : ce_Op := fun i nn ls st S k => match st with
  | .inl j :: .inr (.inl q) :: r => Bool.rec (motive := fun _ => ce_Rs) none ((if j < 0 ∨ 6 ≤ j.toNatClampNeg then none else (ce_Q S j.toNatClampNeg).bind fun x => k (i + 1) nn ls (.inr (.inl (13, x)) :: r) S)) (Nat.beq q.1 5)
  | _ => none
def o_iret : ce_Op := fun _ _ _ st S _ => match st with
  | [.inl x] => some (some (.inl x), S)
  | _ => none
def o_zret : ce_Op := fun _ _ _ st S _ => match st with
  | [.inl x] => if x = 0 ∨ x = 1 then some (some (.inl x), S) else none
  | _ => none
def o_lret : ce_Op := fun _ _ _ st S _ => match st with
  | [.inr (.inr x)] => some (some (.inr (.inr x)), S)
  | _ => none
def o_aret : ce_Op := fun _ _ _ st S _ => match st with
  | [.inr (.inl q)] => some (some (.inr (.inl q)), S)
  | _ => none
def o_vret : ce_Op := fun _ _ _ st S _ => match st with
  | [] => some (none, S)
  | _ => none
noncomputable def o_mmax : ce_Op := fun i nn ls st S k => match st with
  | .inl y :: .inl x :: r => Bool.rec (motive := fun _ => ce_Rs) none (k (i + 1) nn ls (.inl (if x < y then y else x) :: r) S) (Nat.ble r.length 4)
  | _ => none
noncomputable def o_mmin : ce_Op := fun i nn ls st S k => match st with
  | .inl y :: .inl x :: r => Bool.rec (motive := fun _ => ce_Rs) none (k (i + 1) nn ls (.inl (if y < x then y else x) :: r) S) (Nat.ble r.length 4)
  | _ => none
noncomputable def o_inst (f : Nat → Int32) : ce_Op := fun i nn ls st S k => match st with
  | .inr (.inl q) :: r => Bool.rec (motive := fun _ => ce_Rs) none (k (i + 1) nn ls (.inl (f q.2) :: r) S) (Nat.beq q.1 10)
  | _ => none
noncomputable def o_cv (n : Nat) (F : List ce_V → ce_S → Option ce_S) (mc ms MC MS : Nat) : ce_Op := fun i nn ls st S k =>
  Bool.rec (motive := fun _ => ce_Rs) none ((F (st.take n).reverse S).bind fun S' => k (i + 1) (nn.1 + mc, nn.2 + ms) ls (st.drop n) S') (Nat.ble (nn.1 + mc) MC && (Nat.ble (nn.2 + ms) MS && (Nat.ble (st.drop n).length 4 && Nat.ble n st.length)))
noncomputable def o_ci (n : Nat) (F : List ce_V → ce_S → Option (Int32 × ce_S)) (mc ms MC MS : Nat) : ce_Op := fun i nn ls st S k =>
  Bool.rec (motive := fun _ => ce_Rs) none ((F (st.take n).reverse S).bind fun q => k (i + 1) (nn.1 + mc, nn.2 + ms) ls (.inl q.1 :: st.drop n) q.2) (Nat.ble (nn.1 + mc) MC && (Nat.ble (nn.2 + ms) MS && (Nat.ble (st.drop n).length 4 && Nat.ble n st.length)))
noncomputable def o_cl (n : Nat) (F : List ce_V → ce_S → Option (Int64 × ce_S)) (mc ms MC MS : Nat) : ce_Op := fun i nn ls st S k =>
  Bool.rec (motive := fun _ => ce_Rs) none ((F (st.take n).reverse S).bind fun q => k (i + 1) (nn.1 + mc, nn.2 + ms) ls (.inr (.inr q.1) :: st.drop n) q.2) (Nat.ble (nn.1 + mc) MC && (Nat.ble (nn.2 + ms) MS && (Nat.ble (st.drop n).length 4 && Nat.ble n st.length)))
noncomputable def o_cr (n t : Nat) (F : List ce_V → ce_S → Option (Nat × ce_S)) (mc ms MC MS : Nat) : ce_Op := fun i nn ls st S k =>
  Bool.rec (motive := fun _ => ce_Rs) none ((F (st.take n).reverse S).bind fun q => k (i + 1) (nn.1 + mc, nn.2 + ms) ls (.inr (.inl (t, q.1)) :: st.drop n) q.2) (Nat.ble (nn.1 + mc) MC && (Nat.ble (nn.2 + ms) MS && (Nat.ble (st.drop n).length 4 && Nat.ble n st.length)))
/-! what such a state is on the machine -/
def ce_rm (d MC MS : Nat) : Room := { frames := d, cells := MC, slots := MS, locals := 60 * d }
def ce_Cx (p : Program) (s : State) (m : MethodId) (args : Array Value) (meth : Method) (c : Code) (cc : ByteArray) (own : String) (nL : Nat) (rt : Option FieldType) (D : va_G) (ca : Nat → ClassId) : Prop :=
  p.tables.exec = Jvm.exec ∧ c.code = cc ∧ c.maxLocals = nL ∧ s.vm.findClass own = some m.cls ∧ (∃ w0 : Cond, ∀ w ∈ w0 :: ce_tw, w.before args s = true) ∧ meth.sig.returnType = rt ∧ meth.locks = false ∧ ce_G D ca s
def ce_lv (ad : Nat → Nat → Nat) (rls : Array Slot) (nL : Nat) (ls : List (Option ce_V)) : Prop := rls.size = nL ∧ lv_wf rls ∧ ls.length = nL ∧ ∀ (j : Nat) (v : ce_V), ls[j]? = some (some v) → rls[j]? = some (.val (ce_val ad v)) ∧ (ce_val ad v).category = 1
def ce_ag (S0 : ce_S) (ad0 : Nat → Nat → Nat) (S : ce_S) (ad : Nat → Nat → Nat) : Prop := ∀ t i, i < ce_C S0 t → ad t i = ad0 t i ∧ i < ce_C S t
def ce_Po (D : va_G) (ca : Nat → ClassId) (b0 : Nat → Prop) (ad : Nat → Nat → Nat) (S : ce_S) (res : Option ce_V × ce_S) : Array Value → State → Outcome → State → Prop := fun _ st oc t => ∃ ad' : Nat → Nat → Nat, ce_ag S ad res.2 ad' ∧ oc = .returned (res.1.map (ce_val ad')) ∧ ce_okS res.2 ∧ (∀ v, res.1 = some v → ce_okV res.2 v) ∧ ce_H D ca b0 ad' res.2 t.heap ∧ va_F (fun q => b0 q) st t
def ce_Rel (D : va_G) (ca : Nat → ClassId) (b0 : Nat → Prop) (ad0 : Nat → Nat → Nat) (S0 : ce_S) (ad : Nat → Nat → Nat) (s : State) (H : Heap) (locs : List Loc) (rls : Array Slot) (nL : Nat) (ls : List (Option ce_V)) (S : ce_S) : Prop :=
  ce_H D ca b0 ad S H ∧ va_S (fun q => b0 q) s.heap H locs ∧ ce_lv ad rls nL ls ∧ ce_okS S ∧ ce_okL S ls ∧ ce_ag S0 ad0 S ad
def ce_Wn (l : Launch) (cc : ByteArray) (own : String) (nL : Nat) (rt : Option FieldType) (d MC MS : Nat) (pcs : List Nat) (res : Option ce_V × ce_S) (i : Nat) (nn : Nat × Nat) (ls : List (Option ce_V)) (st : List ce_V) (S : ce_S) : Prop :=
  ∀ (p : Program) (e : Env) (s : State) (m : MethodId) (args : Array Value) (below : List Frame) (meth : Method) (c : Code) (D : va_G) (ca : Nat → ClassId) (b0 : Nat → Prop) (ad0 : Nat → Nat → Nat) (S0 : ce_S) (ad : Nat → Nat → Nat) (H : Heap) (locs : List Loc) (rls : Array Slot),
    ce_Cx p s m args meth c cc own nL rt D ca → ce_61 S0 → ce_X ad0 b0 s → ce_Rel D ca b0 ad0 S0 ad s H locs rls nL ls S → ce_okT S st → nn.1 ≤ MC → nn.2 ≤ MS →
    W p l e (ce_rm d MC MS) s m args below meth c H locs nn.1 nn.2 (MQ below (ce_Po D ca b0 ad0 S0 res) args s MC MS (fun q => b0 q)) (F0 m (pcs.getD i 0) rls (st.map (ce_val ad)))
def ce_Ok (l : Launch) (cc : ByteArray) (own : String) (nL : Nat) (rt : Option FieldType) (d MC MS : Nat) (pcs : List Nat) (i : Nat) (op : ce_Op) : Prop :=
  ∀ (nn : Nat × Nat) (ls : List (Option ce_V)) (st : List ce_V) (S : ce_S) (k : ce_K) (res : Option ce_V × ce_S), op i nn ls st S k = some res → (∀ i' nn' ls' st' S', k i' nn' ls' st' S' = some res → ce_Wn l cc own nL rt d MC MS pcs res i' nn' ls' st' S') → ce_Wn l cc own nL rt d MC MS pcs res i nn ls st S
def ce_OkL (l : Launch) (cc : ByteArray) (own : String) (nL : Nat) (rt : Option FieldType) (d MC MS : Nat) (pcs : List Nat) : Nat → List ce_Op → Prop
  | _, [] => True
  | i, o :: r => ce_Ok l cc own nL rt d MC MS pcs i o ∧ ce_OkL l cc own nL rt d MC MS pcs (i + 1) r
theorem ce_OkL.at {l : Launch} {cc : ByteArray} {own : String} {nL : Nat} {rt : Option FieldType} {d MC MS : Nat} {pcs : List Nat} : ∀ (tb : List ce_Op) (i j : Nat), ce_OkL l cc own nL rt d MC MS pcs i tb → j < tb.length → ce_Ok l cc own nL rt d MC MS pcs (i + j) (tb.getD j ce_bad) := by
  intro tb
  induction tb with
  | nil => intro i j _ h; exact absurd h (Nat.not_lt_zero _)
  | cons o r ih =>
    intro i j h hj
    cases j with
    | zero => exact h.1
    | succ j =>
      have := ih (i + 1) j h.2 (by simpa using hj)
      rw [show i + (j + 1) = i + 1 + j by omega]
      simpa using this
theorem ce_run_ok {l : Launch} {cc : ByteArray} {own : String} {nL : Nat} {rt : Option FieldType} {d MC MS : Nat} {pcs : List Nat} {tb : List ce_Op} (h : ce_OkL l cc own nL rt d MC MS pcs 0 tb) : ∀ (n i : Nat) (nn : Nat × Nat) (ls : List (Option ce_V)) (st : List ce_V) (S : ce_S) (res : Option ce_V × ce_S), ce_run tb n i nn ls st S = some res → ce_Wn l cc own nL rt d MC MS pcs res i nn ls st S := by
  intro n
  induction n with
  | zero => intro i nn ls st S res h; cases h
  | succ n ih =>
    intro i nn ls st S res hr
    have hr : (tb.getD i ce_bad) i nn ls st S (ce_run tb n) = some res := hr
    by_cases hi : i < tb.length
    · have h1 := h.at tb 0 i hi
      rw [Nat.zero_add] at h1
      exact h1 nn ls st S _ res hr (fun i' nn' ls' st' S' h2 => ih i' nn' ls' st' S' res h2)
    · rw [show tb.getD i ce_bad = ce_bad by simp [List.getD, List.getElem?_eq_none (Nat.not_lt.mp hi)]] at hr
      cases hr
end
section
theorem ce_okT_cons {S : ce_S} {v : ce_V} {st : List ce_V} (h : ce_okV S v) (hT : ce_okT S st) : ce_okT S (v :: st) := fun w hw => (List.mem_cons.mp hw).elim (fun q => q ▸ h) (hT w)
theorem ce_okT_tl {S : ce_S} {v : ce_V} {st : List ce_V} (hT : ce_okT S (v :: st)) : ce_okT S st := fun w hw => hT w (List.mem_cons_of_mem _ hw)
theorem ce_okT_hd {S : ce_S} {v : ce_V} {st : List ce_V} (hT : ce_okT S (v :: st)) : ce_okV S v := hT v List.mem_cons_self
theorem ce_getD {ls : List (Option ce_V)} {j : Nat} {v : ce_V} (h : ls.getD j none = some v) : ls[j]? = some (some v) := by
  unfold List.getD at h
  cases hq : ls[j]? with
  | none => rw [hq] at h; cases h
  | some x => rw [hq] at h; exact congrArg some h
def ce_pr (ad : Nat → Nat → Nat) (nL : Nat) (ls : List (Option ce_V)) : List (Nat × Value) := (List.range nL).filterMap (fun j => match ls[j]? with
  | some (some v) => some (j, ce_val ad v)
  | _ => none)
theorem ce_pr_in {ad : Nat → Nat → Nat} {nL : Nat} {ls : List (Option ce_V)} {j : Nat} {v : ce_V} (hn : ls.length = nL) (h : ls[j]? = some (some v)) : (j, ce_val ad v) ∈ ce_pr ad nL ls := by
  refine List.mem_filterMap.mpr ⟨j, List.mem_range.mpr (by rw [← hn]; exact (List.getElem?_eq_some_iff.mp h).1), ?_⟩
  rw [h]
theorem ce_pr_of {ad : Nat → Nat → Nat} {nL : Nat} {ls : List (Option ce_V)} {q : Nat × Value} (h : q ∈ ce_pr ad nL ls) : ∃ v, ls[q.1]? = some (some v) ∧ q.2 = ce_val ad v := by
  obtain ⟨j, -, hj⟩ := List.mem_filterMap.mp h
  split at hj
  · rename_i v hv
    cases hj
    exact ⟨v, hv, rfl⟩
  · cases hj
theorem ce_lv.has {ad : Nat → Nat → Nat} {rls : Array Slot} {nL : Nat} {ls : List (Option ce_V)} (h : ce_lv ad rls nL ls) : lv_has rls nL (ce_pr ad nL ls) := by
  obtain ⟨h1, h2, h3, h4⟩ := h
  refine ⟨h1, h2, fun q hq => ?_⟩
  obtain ⟨v, g1, g2⟩ := ce_pr_of hq
  rw [g2]
  exact (h4 _ _ g1).1
theorem ce_lv.store {ad : Nat → Nat → Nat} {rls rls' : Array Slot} {nL j : Nat} {ls : List (Option ce_V)} {x : ce_V} (h : ce_lv ad rls nL ls) (hx : (ce_val ad x).category = 1) (h' : lv_has rls' nL ((j, ce_val ad x) :: (ce_pr ad nL ls).filter (fun q => !(q.1 == j) && !(q.1 + 1 == j && q.2.category == 2)))) : ce_lv ad rls' nL (ls.set j (some x)) := by
  obtain ⟨h1, h2, h3, h4⟩ := h
  obtain ⟨g1, g2, g3⟩ := h'
  refine ⟨g1, g2, by rw [List.length_set]; exact h3, fun a w hw => ?_⟩
  by_cases e : a = j
  · subst e
    rw [List.getElem?_set_self'] at hw
    cases hl : ls[a]? with
    | none => rw [hl] at hw; cases hw
    | some z =>
      rw [hl] at hw
      cases hw
      exact ⟨g3 _ List.mem_cons_self, hx⟩
  · rw [List.getElem?_set_ne (fun q => e q.symm)] at hw
    obtain ⟨k1, k2⟩ := h4 a w hw
    refine ⟨g3 (a, ce_val ad w) (List.mem_cons_of_mem _ (List.mem_filter.mpr ⟨ce_pr_in h3 hw, ?_⟩)), k2⟩
    simp [e, k2]
theorem ce_okL_set {S : ce_S} {ls : List (Option ce_V)} {j : Nat} {x : ce_V} (h : ce_okL S ls) (hx : ce_okV S x) : ce_okL S (ls.set j (some x)) := by
  intro a w hw
  by_cases e : a = j
  · subst e
    rw [List.getElem?_set_self'] at hw
    cases hl : ls[a]? with
    | none => rw [hl] at hw; cases hw
    | some z =>
      rw [hl] at hw
      cases hw
      exact hx
  · rw [List.getElem?_set_ne (fun q => e q.symm)] at hw
    exact h a w hw
theorem ce_wIn {w0 w : Cond} {P : Cond → Prop} {n : Nat} (hts : ∀ w ∈ w0 :: ce_tw, P w) (h : lw_tbl[n]? = some w) (g : goodWord w = true) : P w := hts w (List.mem_cons_of_mem _ (ce_tw_in (List.mem_of_getElem? h) g))
theorem ce_sw_or {x : Int32} {d : Nat} {kk : Nat → ce_Rs} {res : Option ce_V × ce_S} : ∀ (ks : List (Int32 × Nat)), ce_sw x ks d kk = some res → (∃ (j : Nat) (q : Int32 × Nat), ks[j]? = some q ∧ x = q.1 ∧ kk q.2 = some res) ∨ ((∀ (j : Nat) (q : Int32 × Nat), ks[j]? = some q → ¬ x = q.1) ∧ kk d = some res) := by
  intro ks
  induction ks with
  | nil => intro h; exact Or.inr ⟨(fun j q hq => by simp at hq), h⟩
  | cons a r ih =>
    intro h
    unfold ce_sw at h
    by_cases e : x = a.1
    · rw [if_pos e] at h
      exact Or.inl ⟨0, a, rfl, e, h⟩
    · rw [if_neg e] at h
      rcases ih h with ⟨j, q, h1, h2, h3⟩ | ⟨h1, h2⟩
      · exact Or.inl ⟨j + 1, q, h1, h2, h3⟩
      · refine Or.inr ⟨fun j q hq => ?_, h2⟩
        cases j with
        | zero => cases hq; exact e
        | succ j => exact h1 j q hq
def ce_swok (pc : Nat) (pcs : List Nat) (lo : Int) (offs : Array Int) (ks : List (Int32 × Nat)) : Bool := (List.range ks.length).all fun j => match ks[j]?, offs[j]? with
  | some q, some off => q.1.toInt == lo + (j : Int) && (pc : Int) + off == ((pcs.getD q.2 0 : Nat) : Int)
  | _, _ => false
theorem ce_swok_at {pc : Nat} {pcs : List Nat} {lo : Int} {offs : Array Int} {ks : List (Int32 × Nat)} (h : ce_swok pc pcs lo offs ks = true) {j : Nat} {q : Int32 × Nat} (hq : ks[j]? = some q) : ∃ off, offs[j]? = some off ∧ q.1.toInt = lo + (j : Int) ∧ (pc : Int) + off = ((pcs.getD q.2 0 : Nat) : Int) := by
  have h1 := List.all_eq_true.mp h j (List.mem_range.mpr (List.getElem?_eq_some_iff.mp hq).1)
  rw [hq] at h1
  cases ho : offs[j]? with
  | none => rw [ho] at h1; cases h1
  | some off =>
    rw [ho] at h1
    simp only [Bool.and_eq_true, beq_iff_eq] at h1
    exact ⟨off, rfl, h1.1, h1.2⟩
section CEO
variable {l : Launch} {cc : ByteArray} {own : String} {nL : Nat} {rt : Option FieldType} {d MC MS : Nat} {pcs : List Nat} {i pc : Nat}
theorem ok_iconst {v : Int32} {n : Int} (hp : pcs.getD i 0 = pc) (hp' : pcs.getD (i + 1) 0 = pc + 1) (hd : decode cc pc = .ok (.iconst n, 1)) (hv : Int32.ofInt n = v) : ce_Ok l cc own nL rt d MC MS pcs i (o_int v) := by
  intro nn ls st S k res h hk p e s m args below meth c D ca b0 ad0 S0 ad H locs rls hC h61 hX hR hT h1 h2
  obtain ⟨hx, hb, hml, hown, ⟨w0, hts⟩, hr, hlk, hG⟩ := id hC
  have w := hk _ _ _ _ _ h p e s m args below meth c D ca b0 ad0 S0 ad H locs rls hC h61 hX hR (ce_okT_cons trivial hT) h1 h2
  rw [hp'] at w
  rw [hp]
  exact lv_iconst hx hb hd hv w
theorem ok_bipush {v : Int32} {n : Int} (hp : pcs.getD i 0 = pc) (hp' : pcs.getD (i + 1) 0 = pc + 2) (hd : decode cc pc = .ok (.bipush n, 2)) (hv : (Int8.ofInt n).toInt32 = v) : ce_Ok l cc own nL rt d MC MS pcs i (o_int v) := by
  intro nn ls st S k res h hk p e s m args below meth c D ca b0 ad0 S0 ad H locs rls hC h61 hX hR hT h1 h2
  obtain ⟨hx, hb, hml, hown, ⟨w0, hts⟩, hr, hlk, hG⟩ := id hC
  have w := hk _ _ _ _ _ h p e s m args below meth c D ca b0 ad0 S0 ad H locs rls hC h61 hX hR (ce_okT_cons trivial hT) h1 h2
  rw [hp'] at w
  rw [hp]
  exact lv_bipush hx hb hd hv w
theorem ok_sipush {v : Int32} {n : Int} (hp : pcs.getD i 0 = pc) (hp' : pcs.getD (i + 1) 0 = pc + 3) (hd : decode cc pc = .ok (.sipush n, 3)) (hv : (Int16.ofInt n).toInt32 = v) : ce_Ok l cc own nL rt d MC MS pcs i (o_int v) := by
  intro nn ls st S k res h hk p e s m args below meth c D ca b0 ad0 S0 ad H locs rls hC h61 hX hR hT h1 h2
  obtain ⟨hx, hb, hml, hown, ⟨w0, hts⟩, hr, hlk, hG⟩ := id hC
  have w := hk _ _ _ _ _ h p e s m args below meth c D ca b0 ad0 S0 ad H locs rls hC h61 hX hR (ce_okT_cons trivial hT) h1 h2
  rw [hp'] at w
  rw [hp]
  exact lv_sipush hx hb hd hv w
theorem ok_ldcw {v : Int32} {ix wp : Nat} (hp : pcs.getD i 0 = pc) (hp' : pcs.getD (i + 1) 0 = pc + 3) (hd : decode cc pc = .ok (.ldc_w ix, 3)) (hw : lw_tbl[wp]? = some (Cond.constant own ix v)) (hg : goodWord (Cond.constant own ix v) = true) : ce_Ok l cc own nL rt d MC MS pcs i (o_int v) := by
  intro nn ls st S k res h hk p e s m args below meth c D ca b0 ad0 S0 ad H locs rls hC h61 hX hR hT h1 h2
  obtain ⟨hx, hb, hml, hown, ⟨w0, hts⟩, hr, hlk, hG⟩ := id hC
  have w := hk _ _ _ _ _ h p e s m args below meth c D ca b0 ad0 S0 ad H locs rls hC h61 hX hR (ce_okT_cons trivial hT) h1 h2
  rw [hp'] at w
  rw [hp]
  exact lv_ldcw hx hb hown (ce_wIn hts hw hg) hd w
theorem ok_ldc2 {v : Int64} {ix wp : Nat} (hp : pcs.getD i 0 = pc) (hp' : pcs.getD (i + 1) 0 = pc + 3) (hd : decode cc pc = .ok (.ldc2_w ix, 3)) (hw : lw_tbl[wp]? = some (Cond.constantLong own ix v)) (hg : goodWord (Cond.constantLong own ix v) = true) : ce_Ok l cc own nL rt d MC MS pcs i (o_long v) := by
  intro nn ls st S k res h hk p e s m args below meth c D ca b0 ad0 S0 ad H locs rls hC h61 hX hR hT h1 h2
  obtain ⟨hx, hb, hml, hown, ⟨w0, hts⟩, hr, hlk, hG⟩ := id hC
  have w := hk _ _ _ _ _ h p e s m args below meth c D ca b0 ad0 S0 ad H locs rls hC h61 hX hR (ce_okT_cons trivial hT) h1 h2
  rw [hp'] at w
  rw [hp]
  exact lv_ldc2 hx hb hown (ce_wIn hts hw hg) hd w
theorem ok_iadd (hp : pcs.getD i 0 = pc) (hp' : pcs.getD (i + 1) 0 = pc + 1) (hd : decode cc pc = .ok (.iadd, 1)) : ce_Ok l cc own nL rt d MC MS pcs i (o_bin q_add) := by
  intro nn ls st S k res h hk p e s m args below meth c D ca b0 ad0 S0 ad H locs rls hC h61 hX hR hT h1 h2
  obtain ⟨hx, hb, hml, hown, ⟨w0, hts⟩, hr, hlk, hG⟩ := id hC
  unfold o_bin at h
  split at h
  · rename_i y x r
    have w := hk _ _ _ _ _ h p e s m args below meth c D ca b0 ad0 S0 ad H locs rls hC h61 hX hR (ce_okT_cons trivial (ce_okT_tl (ce_okT_tl hT))) h1 h2
    rw [hp', q_add_eq] at w
    rw [hp]
    exact lv_iadd hx hb hd w
  · cases h
theorem ok_isub (hp : pcs.getD i 0 = pc) (hp' : pcs.getD (i + 1) 0 = pc + 1) (hd : decode cc pc = .ok (.isub, 1)) : ce_Ok l cc own nL rt d MC MS pcs i (o_bin q_sub) := by
  intro nn ls st S k res h hk p e s m args below meth c D ca b0 ad0 S0 ad H locs rls hC h61 hX hR hT h1 h2
  obtain ⟨hx, hb, hml, hown, ⟨w0, hts⟩, hr, hlk, hG⟩ := id hC
  unfold o_bin at h
  split at h
  · rename_i y x r
    have w := hk _ _ _ _ _ h p e s m args below meth c D ca b0 ad0 S0 ad H locs rls hC h61 hX hR (ce_okT_cons trivial (ce_okT_tl (ce_okT_tl hT))) h1 h2
    rw [hp', q_sub_eq] at w
    rw [hp]
    exact lv_isub hx hb hd w
  · cases h
theorem ok_imul (hp : pcs.getD i 0 = pc) (hp' : pcs.getD (i + 1) 0 = pc + 1) (hd : decode cc pc = .ok (.imul, 1)) : ce_Ok l cc own nL rt d MC MS pcs i (o_bin q_mul) := by
  intro nn ls st S k res h hk p e s m args below meth c D ca b0 ad0 S0 ad H locs rls hC h61 hX hR hT h1 h2
  obtain ⟨hx, hb, hml, hown, ⟨w0, hts⟩, hr, hlk, hG⟩ := id hC
  unfold o_bin at h
  split at h
  · rename_i y x r
    have w := hk _ _ _ _ _ h p e s m args below meth c D ca b0 ad0 S0 ad H locs rls hC h61 hX hR (ce_okT_cons trivial (ce_okT_tl (ce_okT_tl hT))) h1 h2
    rw [hp', q_mul_eq] at w
    rw [hp]
    exact lv_imul hx hb hd w
  · cases h
theorem ok_iand (hp : pcs.getD i 0 = pc) (hp' : pcs.getD (i + 1) 0 = pc + 1) (hd : decode cc pc = .ok (.iand, 1)) : ce_Ok l cc own nL rt d MC MS pcs i (o_bin q_and) := by
  intro nn ls st S k res h hk p e s m args below meth c D ca b0 ad0 S0 ad H locs rls hC h61 hX hR hT h1 h2
  obtain ⟨hx, hb, hml, hown, ⟨w0, hts⟩, hr, hlk, hG⟩ := id hC
  unfold o_bin at h
  split at h
  · rename_i y x r
    have w := hk _ _ _ _ _ h p e s m args below meth c D ca b0 ad0 S0 ad H locs rls hC h61 hX hR (ce_okT_cons trivial (ce_okT_tl (ce_okT_tl hT))) h1 h2
    rw [hp', q_and_eq] at w
    rw [hp]
    exact lv_iand hx hb hd w
  · cases h
theorem ok_iushr (hp : pcs.getD i 0 = pc) (hp' : pcs.getD (i + 1) 0 = pc + 1) (hd : decode cc pc = .ok (.iushr, 1)) : ce_Ok l cc own nL rt d MC MS pcs i (o_bin q_ushr) := by
  intro nn ls st S k res h hk p e s m args below meth c D ca b0 ad0 S0 ad H locs rls hC h61 hX hR hT h1 h2
  obtain ⟨hx, hb, hml, hown, ⟨w0, hts⟩, hr, hlk, hG⟩ := id hC
  unfold o_bin at h
  split at h
  · rename_i y x r
    have w := hk _ _ _ _ _ h p e s m args below meth c D ca b0 ad0 S0 ad H locs rls hC h61 hX hR (ce_okT_cons trivial (ce_okT_tl (ce_okT_tl hT))) h1 h2
    rw [hp', q_ushr_eq] at w
    rw [hp]
    exact lv_iushr hx hb hd rfl w
  · cases h
theorem ok_idiv (hp : pcs.getD i 0 = pc) (hp' : pcs.getD (i + 1) 0 = pc + 1) (hd : decode cc pc = .ok (.idiv, 1)) : ce_Ok l cc own nL rt d MC MS pcs i o_div := by
  intro nn ls st S k res h hk p e s m args below meth c D ca b0 ad0 S0 ad H locs rls hC h61 hX hR hT h1 h2
  obtain ⟨hx, hb, hml, hown, ⟨w0, hts⟩, hr, hlk, hG⟩ := id hC
  unfold o_div at h
  split at h
  · rename_i y x r
    by_cases hy : y = 0
    · rw [if_pos hy] at h; cases h
    · rw [if_neg hy] at h
      have w := hk _ _ _ _ _ h p e s m args below meth c D ca b0 ad0 S0 ad H locs rls hC h61 hX hR (ce_okT_cons trivial (ce_okT_tl (ce_okT_tl hT))) h1 h2
      rw [hp', q_div_eq] at w
      rw [hp]
      exact lv_idiv hx hb hd hy w
  · cases h
theorem ok_irem (hp : pcs.getD i 0 = pc) (hp' : pcs.getD (i + 1) 0 = pc + 1) (hd : decode cc pc = .ok (.irem, 1)) : ce_Ok l cc own nL rt d MC MS pcs i o_rem := by
  intro nn ls st S k res h hk p e s m args below meth c D ca b0 ad0 S0 ad H locs rls hC h61 hX hR hT h1 h2
  obtain ⟨hx, hb, hml, hown, ⟨w0, hts⟩, hr, hlk, hG⟩ := id hC
  unfold o_rem at h
  split at h
  · rename_i y x r
    by_cases hy : y = 0
    · rw [if_pos hy] at h; cases h
    · rw [if_neg hy] at h
      have w := hk _ _ _ _ _ h p e s m args below meth c D ca b0 ad0 S0 ad H locs rls hC h61 hX hR (ce_okT_cons trivial (ce_okT_tl (ce_okT_tl hT))) h1 h2
      rw [hp', q_rem_eq] at w
      rw [hp]
      exact lv_irem hx hb hd hy w
  · cases h
theorem ok_ineg (hp : pcs.getD i 0 = pc) (hp' : pcs.getD (i + 1) 0 = pc + 1) (hd : decode cc pc = .ok (.ineg, 1)) : ce_Ok l cc own nL rt d MC MS pcs i (o_un q_neg) := by
  intro nn ls st S k res h hk p e s m args below meth c D ca b0 ad0 S0 ad H locs rls hC h61 hX hR hT h1 h2
  obtain ⟨hx, hb, hml, hown, ⟨w0, hts⟩, hr, hlk, hG⟩ := id hC
  unfold o_un at h
  split at h
  · rename_i x r
    have w := hk _ _ _ _ _ h p e s m args below meth c D ca b0 ad0 S0 ad H locs rls hC h61 hX hR (ce_okT_cons trivial (ce_okT_tl hT)) h1 h2
    rw [hp', q_neg_eq] at w
    rw [hp]
    exact lv_ineg hx hb hd w
  · cases h
theorem ok_i2b (hp : pcs.getD i 0 = pc) (hp' : pcs.getD (i + 1) 0 = pc + 1) (hd : decode cc pc = .ok (.i2b, 1)) : ce_Ok l cc own nL rt d MC MS pcs i (o_un q_i2b) := by
  intro nn ls st S k res h hk p e s m args below meth c D ca b0 ad0 S0 ad H locs rls hC h61 hX hR hT h1 h2
  obtain ⟨hx, hb, hml, hown, ⟨w0, hts⟩, hr, hlk, hG⟩ := id hC
  unfold o_un at h
  split at h
  · rename_i x r
    have w := hk _ _ _ _ _ h p e s m args below meth c D ca b0 ad0 S0 ad H locs rls hC h61 hX hR (ce_okT_cons trivial (ce_okT_tl hT)) h1 h2
    rw [hp', q_i2b_eq] at w
    rw [hp]
    exact lv_i2b hx hb hd rfl w
  · cases h
theorem ok_i2s (hp : pcs.getD i 0 = pc) (hp' : pcs.getD (i + 1) 0 = pc + 1) (hd : decode cc pc = .ok (.i2s, 1)) : ce_Ok l cc own nL rt d MC MS pcs i (o_un q_i2s) := by
  intro nn ls st S k res h hk p e s m args below meth c D ca b0 ad0 S0 ad H locs rls hC h61 hX hR hT h1 h2
  obtain ⟨hx, hb, hml, hown, ⟨w0, hts⟩, hr, hlk, hG⟩ := id hC
  unfold o_un at h
  split at h
  · rename_i x r
    have w := hk _ _ _ _ _ h p e s m args below meth c D ca b0 ad0 S0 ad H locs rls hC h61 hX hR (ce_okT_cons trivial (ce_okT_tl hT)) h1 h2
    rw [hp', q_i2s_eq] at w
    rw [hp]
    exact lv_i2s hx hb hd rfl w
  · cases h
theorem ok_i2l (hp : pcs.getD i 0 = pc) (hp' : pcs.getD (i + 1) 0 = pc + 1) (hd : decode cc pc = .ok (.i2l, 1)) : ce_Ok l cc own nL rt d MC MS pcs i o_i2l := by
  intro nn ls st S k res h hk p e s m args below meth c D ca b0 ad0 S0 ad H locs rls hC h61 hX hR hT h1 h2
  obtain ⟨hx, hb, hml, hown, ⟨w0, hts⟩, hr, hlk, hG⟩ := id hC
  unfold o_i2l at h
  split at h
  · rename_i x r
    have w := hk _ _ _ _ _ h p e s m args below meth c D ca b0 ad0 S0 ad H locs rls hC h61 hX hR (ce_okT_cons trivial (ce_okT_tl hT)) h1 h2
    rw [hp'] at w
    rw [hp]
    exact lv_i2l hx hb hd rfl w
  · cases h
theorem ok_lcmp (hp : pcs.getD i 0 = pc) (hp' : pcs.getD (i + 1) 0 = pc + 1) (hd : decode cc pc = .ok (.lcmp, 1)) : ce_Ok l cc own nL rt d MC MS pcs i o_lcmp := by
  intro nn ls st S k res h hk p e s m args below meth c D ca b0 ad0 S0 ad H locs rls hC h61 hX hR hT h1 h2
  obtain ⟨hx, hb, hml, hown, ⟨w0, hts⟩, hr, hlk, hG⟩ := id hC
  unfold o_lcmp at h
  split at h
  · rename_i y x r
    have w := hk _ _ _ _ _ h p e s m args below meth c D ca b0 ad0 S0 ad H locs rls hC h61 hX hR (ce_okT_cons trivial (ce_okT_tl (ce_okT_tl hT))) h1 h2
    rw [hp'] at w
    rw [hp]
    exact W.lcmp hx hb hd w
  · cases h
theorem ok_iload_n {j : Fin 4} (hp : pcs.getD i 0 = pc) (hp' : pcs.getD (i + 1) 0 = pc + 1) (hd : decode cc pc = .ok (.iload_n j, 1)) : ce_Ok l cc own nL rt d MC MS pcs i (o_iload j.val) := by
  intro nn ls st S k res h hk p e s m args below meth c D ca b0 ad0 S0 ad H locs rls hC h61 hX hR hT h1 h2
  obtain ⟨hx, hb, hml, hown, ⟨w0, hts⟩, hr, hlk, hG⟩ := id hC
  unfold o_iload at h
  split at h
  · rename_i x hv
    have w := hk _ _ _ _ _ h p e s m args below meth c D ca b0 ad0 S0 ad H locs rls hC h61 hX hR (ce_okT_cons trivial hT) h1 h2
    rw [hp'] at w
    rw [hp]
    exact lv_iload_n hx hb hd rfl (hR.2.2.1.2.2.2 _ _ (ce_getD hv)).1 w
  · cases h
theorem ok_istore_n {j : Fin 4} (hp : pcs.getD i 0 = pc) (hp' : pcs.getD (i + 1) 0 = pc + 1) (hd : decode cc pc = .ok (.istore_n j, 1)) (hj : j.val < nL) : ce_Ok l cc own nL rt d MC MS pcs i (o_istore j.val) := by
  intro nn ls st S k res h hk p e s m args below meth c D ca b0 ad0 S0 ad H locs rls hC h61 hX hR hT h1 h2
  obtain ⟨hx, hb, hml, hown, ⟨w0, hts⟩, hr, hlk, hG⟩ := id hC
  unfold o_istore at h
  split at h
  · rename_i x r
    rw [hp]
    refine lv_istore_n hx hb hd rfl hR.2.2.1.has hj rfl (fun rls' hl => ?_)
    have w := hk _ _ _ _ _ h p e s m args below meth c D ca b0 ad0 S0 ad H locs rls' hC h61 hX ⟨hR.1, hR.2.1, hR.2.2.1.store (x := .inl x) rfl hl, hR.2.2.2.1, ce_okL_set hR.2.2.2.2.1 trivial, hR.2.2.2.2.2⟩ (ce_okT_tl hT) h1 h2
    rw [hp'] at w
    exact w
  · cases h
theorem ok_iload {j : Nat} (hp : pcs.getD i 0 = pc) (hp' : pcs.getD (i + 1) 0 = pc + 2) (hd : decode cc pc = .ok (.iload j, 2)) : ce_Ok l cc own nL rt d MC MS pcs i (o_iload j) := by
  intro nn ls st S k res h hk p e s m args below meth c D ca b0 ad0 S0 ad H locs rls hC h61 hX hR hT h1 h2
  obtain ⟨hx, hb, hml, hown, ⟨w0, hts⟩, hr, hlk, hG⟩ := id hC
  unfold o_iload at h
  split at h
  · rename_i x hv
    have w := hk _ _ _ _ _ h p e s m args below meth c D ca b0 ad0 S0 ad H locs rls hC h61 hX hR (ce_okT_cons trivial hT) h1 h2
    rw [hp'] at w
    rw [hp]
    exact lv_iload hx hb hd (hR.2.2.1.2.2.2 _ _ (ce_getD hv)).1 w
  · cases h
theorem ok_istore {j : Nat} (hp : pcs.getD i 0 = pc) (hp' : pcs.getD (i + 1) 0 = pc + 2) (hd : decode cc pc = .ok (.istore j, 2)) (hj : j < nL) : ce_Ok l cc own nL rt d MC MS pcs i (o_istore j) := by
  intro nn ls st S k res h hk p e s m args below meth c D ca b0 ad0 S0 ad H locs rls hC h61 hX hR hT h1 h2
  obtain ⟨hx, hb, hml, hown, ⟨w0, hts⟩, hr, hlk, hG⟩ := id hC
  unfold o_istore at h
  split at h
  · rename_i x r
    rw [hp]
    refine lv_istore hx hb hd hR.2.2.1.has hj rfl (fun rls' hl => ?_)
    have w := hk _ _ _ _ _ h p e s m args below meth c D ca b0 ad0 S0 ad H locs rls' hC h61 hX ⟨hR.1, hR.2.1, hR.2.2.1.store (x := .inl x) rfl hl, hR.2.2.2.1, ce_okL_set hR.2.2.2.2.1 trivial, hR.2.2.2.2.2⟩ (ce_okT_tl hT) h1 h2
    rw [hp'] at w
    exact w
  · cases h
theorem ok_aload_n {j : Fin 4} (hp : pcs.getD i 0 = pc) (hp' : pcs.getD (i + 1) 0 = pc + 1) (hd : decode cc pc = .ok (.aload_n j, 1)) : ce_Ok l cc own nL rt d MC MS pcs i (o_aload j.val) := by
  intro nn ls st S k res h hk p e s m args below meth c D ca b0 ad0 S0 ad H locs rls hC h61 hX hR hT h1 h2
  obtain ⟨hx, hb, hml, hown, ⟨w0, hts⟩, hr, hlk, hG⟩ := id hC
  unfold o_aload at h
  split at h
  · rename_i q hv
    have w := hk _ _ _ _ _ h p e s m args below meth c D ca b0 ad0 S0 ad H locs rls hC h61 hX hR (ce_okT_cons (hR.2.2.2.2.1 _ _ (ce_getD hv)) hT) h1 h2
    rw [hp'] at w
    rw [hp]
    exact lv_aload_n hx hb hd rfl (hR.2.2.1.2.2.2 _ _ (ce_getD hv)).1 w
  · cases h
theorem ok_astore_n {j : Fin 4} (hp : pcs.getD i 0 = pc) (hp' : pcs.getD (i + 1) 0 = pc + 1) (hd : decode cc pc = .ok (.astore_n j, 1)) (hj : j.val < nL) : ce_Ok l cc own nL rt d MC MS pcs i (o_astore j.val) := by
  intro nn ls st S k res h hk p e s m args below meth c D ca b0 ad0 S0 ad H locs rls hC h61 hX hR hT h1 h2
  obtain ⟨hx, hb, hml, hown, ⟨w0, hts⟩, hr, hlk, hG⟩ := id hC
  unfold o_astore at h
  split at h
  · rename_i q r
    rw [hp]
    refine lv_astore_n hx hb hd rfl hR.2.2.1.has hj rfl (fun rls' hl => ?_)
    have w := hk _ _ _ _ _ h p e s m args below meth c D ca b0 ad0 S0 ad H locs rls' hC h61 hX ⟨hR.1, hR.2.1, hR.2.2.1.store (x := .inr (.inl q)) rfl hl, hR.2.2.2.1, ce_okL_set hR.2.2.2.2.1 (ce_okT_hd hT), hR.2.2.2.2.2⟩ (ce_okT_tl hT) h1 h2
    rw [hp'] at w
    exact w
  · cases h
theorem ok_aload {j : Nat} (hp : pcs.getD i 0 = pc) (hp' : pcs.getD (i + 1) 0 = pc + 2) (hd : decode cc pc = .ok (.aload j, 2)) : ce_Ok l cc own nL rt d MC MS pcs i (o_aload j) := by
  intro nn ls st S k res h hk p e s m args below meth c D ca b0 ad0 S0 ad H locs rls hC h61 hX hR hT h1 h2
  obtain ⟨hx, hb, hml, hown, ⟨w0, hts⟩, hr, hlk, hG⟩ := id hC
  unfold o_aload at h
  split at h
  · rename_i q hv
    have w := hk _ _ _ _ _ h p e s m args below meth c D ca b0 ad0 S0 ad H locs rls hC h61 hX hR (ce_okT_cons (hR.2.2.2.2.1 _ _ (ce_getD hv)) hT) h1 h2
    rw [hp'] at w
    rw [hp]
    exact lv_aload hx hb hd (hR.2.2.1.2.2.2 _ _ (ce_getD hv)).1 w
  · cases h
theorem ok_astore {j : Nat} (hp : pcs.getD i 0 = pc) (hp' : pcs.getD (i + 1) 0 = pc + 2) (hd : decode cc pc = .ok (.astore j, 2)) (hj : j < nL) : ce_Ok l cc own nL rt d MC MS pcs i (o_astore j) := by
  intro nn ls st S k res h hk p e s m args below meth c D ca b0 ad0 S0 ad H locs rls hC h61 hX hR hT h1 h2
  obtain ⟨hx, hb, hml, hown, ⟨w0, hts⟩, hr, hlk, hG⟩ := id hC
  unfold o_astore at h
  split at h
  · rename_i q r
    rw [hp]
    refine lv_astore hx hb hd hR.2.2.1.has hj rfl (fun rls' hl => ?_)
    have w := hk _ _ _ _ _ h p e s m args below meth c D ca b0 ad0 S0 ad H locs rls' hC h61 hX ⟨hR.1, hR.2.1, hR.2.2.1.store (x := .inr (.inl q)) rfl hl, hR.2.2.2.1, ce_okL_set hR.2.2.2.2.1 (ce_okT_hd hT), hR.2.2.2.2.2⟩ (ce_okT_tl hT) h1 h2
    rw [hp'] at w
    exact w
  · cases h
theorem ok_iinc {j : Nat} {n : Int} {v : Int32} (hp : pcs.getD i 0 = pc) (hp' : pcs.getD (i + 1) 0 = pc + 3) (hd : decode cc pc = .ok (.iinc j n, 3)) (hv : Int32.ofInt n = v) (hj : j < nL) : ce_Ok l cc own nL rt d MC MS pcs i (o_iinc j v) := by
  intro nn ls st S k res h hk p e s m args below meth c D ca b0 ad0 S0 ad H locs rls hC h61 hX hR hT h1 h2
  obtain ⟨hx, hb, hml, hown, ⟨w0, hts⟩, hr, hlk, hG⟩ := id hC
  unfold o_iinc at h
  split at h
  · rename_i x hq
    rw [q_add_eq] at h
    have hin : (j, ce_val ad (.inl x)) ∈ ce_pr ad nL ls := ce_pr_in hR.2.2.1.2.2.1 (ce_getD hq)
    obtain ⟨kk, hkk⟩ := List.getElem?_of_mem hin
    rw [hp]
    refine lv_iinc (v := x + v) hx hb hd hR.2.2.1.has hkk (by rw [hv]) hj rfl (fun rls' hl => ?_)
    have w := hk _ _ _ _ _ h p e s m args below meth c D ca b0 ad0 S0 ad H locs rls' hC h61 hX ⟨hR.1, hR.2.1, hR.2.2.1.store (x := .inl (x + v)) rfl hl, hR.2.2.2.1, ce_okL_set hR.2.2.2.2.1 trivial, hR.2.2.2.2.2⟩ hT h1 h2
    rw [hp'] at w
    exact w
  · cases h
theorem ok_goto {t tg : Nat} {off : Int} (hp : pcs.getD i 0 = pc) (hd : decode cc pc = .ok (.goto off, 3)) (ht : pcs.getD t 0 = tg) (hf : (pc : Int) + off = (tg : Int)) : ce_Ok l cc own nL rt d MC MS pcs i (o_goto t) := by
  intro nn ls st S k res h hk p e s m args below meth c D ca b0 ad0 S0 ad H locs rls hC h61 hX hR hT h1 h2
  obtain ⟨hx, hb, hml, hown, ⟨w0, hts⟩, hr, hlk, hG⟩ := id hC
  have w := hk _ _ _ _ _ h p e s m args below meth c D ca b0 ad0 S0 ad H locs rls hC h61 hX hR hT h1 h2
  rw [ht] at w
  rw [hp]
  exact lv_goto hx hb hd hf w
theorem ok_ifeq {t tg : Nat} {off : Int} (hp : pcs.getD i 0 = pc) (hp' : pcs.getD (i + 1) 0 = pc + 3) (hd : decode cc pc = .ok (.ifCond .eq off, 3)) (ht : pcs.getD t 0 = tg) (hf : (pc : Int) + off = (tg : Int)) : ce_Ok l cc own nL rt d MC MS pcs i (o_ifeq t) := by
  intro nn ls st S k res h hk p e s m args below meth c D ca b0 ad0 S0 ad H locs rls hC h61 hX hR hT h1 h2
  obtain ⟨hx, hb, hml, hown, ⟨w0, hts⟩, hr, hlk, hG⟩ := id hC
  unfold o_ifeq at h
  split at h
  · rename_i x r
    rw [hp]
    refine lv_if_eq (tgt := tg) hx hb hd hf (fun q => ?_) (fun q => ?_)
    · rw [if_pos q] at h
      have w := hk _ _ _ _ _ h p e s m args below meth c D ca b0 ad0 S0 ad H locs rls hC h61 hX hR (ce_okT_tl hT) h1 h2
      rw [ht] at w
      exact w
    · rw [if_neg q] at h
      have w := hk _ _ _ _ _ h p e s m args below meth c D ca b0 ad0 S0 ad H locs rls hC h61 hX hR (ce_okT_tl hT) h1 h2
      rw [hp'] at w
      exact w
  · cases h
theorem ok_cmpeq {t tg : Nat} {off : Int} (hp : pcs.getD i 0 = pc) (hp' : pcs.getD (i + 1) 0 = pc + 3) (hd : decode cc pc = .ok (.if_icmp .eq off, 3)) (ht : pcs.getD t 0 = tg) (hf : (pc : Int) + off = (tg : Int)) : ce_Ok l cc own nL rt d MC MS pcs i (o_cmpeq t) := by
  intro nn ls st S k res h hk p e s m args below meth c D ca b0 ad0 S0 ad H locs rls hC h61 hX hR hT h1 h2
  obtain ⟨hx, hb, hml, hown, ⟨w0, hts⟩, hr, hlk, hG⟩ := id hC
  unfold o_cmpeq at h
  split at h
  · rename_i y x r
    rw [hp]
    refine lv_icmp_eq (tgt := tg) hx hb hd hf (fun q => ?_) (fun q => ?_)
    · rw [if_pos q] at h
      have w := hk _ _ _ _ _ h p e s m args below meth c D ca b0 ad0 S0 ad H locs rls hC h61 hX hR (ce_okT_tl (ce_okT_tl hT)) h1 h2
      rw [ht] at w
      exact w
    · rw [if_neg q] at h
      have w := hk _ _ _ _ _ h p e s m args below meth c D ca b0 ad0 S0 ad H locs rls hC h61 hX hR (ce_okT_tl (ce_okT_tl hT)) h1 h2
      rw [hp'] at w
      exact w
  · cases h
theorem ok_ifne {t tg : Nat} {off : Int} (hp : pcs.getD i 0 = pc) (hp' : pcs.getD (i + 1) 0 = pc + 3) (hd : decode cc pc = .ok (.ifCond .ne off, 3)) (ht : pcs.getD t 0 = tg) (hf : (pc : Int) + off = (tg : Int)) : ce_Ok l cc own nL rt d MC MS pcs i (o_ifne t) := by
  intro nn ls st S k res h hk p e s m args below meth c D ca b0 ad0 S0 ad H locs rls hC h61 hX hR hT h1 h2
  obtain ⟨hx, hb, hml, hown, ⟨w0, hts⟩, hr, hlk, hG⟩ := id hC
  unfold o_ifne at h
  split at h
  · rename_i x r
    rw [hp]
    refine lv_if_ne (tgt := tg) hx hb hd hf (fun q => ?_) (fun q => ?_)
    · rw [if_neg q] at h
      have w := hk _ _ _ _ _ h p e s m args below meth c D ca b0 ad0 S0 ad H locs rls hC h61 hX hR (ce_okT_tl hT) h1 h2
      rw [ht] at w
      exact w
    · rw [if_pos q] at h
      have w := hk _ _ _ _ _ h p e s m args below meth c D ca b0 ad0 S0 ad H locs rls hC h61 hX hR (ce_okT_tl hT) h1 h2
      rw [hp'] at w
      exact w
  · cases h
theorem ok_cmpne {t tg : Nat} {off : Int} (hp : pcs.getD i 0 = pc) (hp' : pcs.getD (i + 1) 0 = pc + 3) (hd : decode cc pc = .ok (.if_icmp .ne off, 3)) (ht : pcs.getD t 0 = tg) (hf : (pc : Int) + off = (tg : Int)) : ce_Ok l cc own nL rt d MC MS pcs i (o_cmpne t) := by
  intro nn ls st S k res h hk p e s m args below meth c D ca b0 ad0 S0 ad H locs rls hC h61 hX hR hT h1 h2
  obtain ⟨hx, hb, hml, hown, ⟨w0, hts⟩, hr, hlk, hG⟩ := id hC
  unfold o_cmpne at h
  split at h
  · rename_i y x r
    rw [hp]
    refine lv_icmp_ne (tgt := tg) hx hb hd hf (fun q => ?_) (fun q => ?_)
    · rw [if_neg q] at h
      have w := hk _ _ _ _ _ h p e s m args below meth c D ca b0 ad0 S0 ad H locs rls hC h61 hX hR (ce_okT_tl (ce_okT_tl hT)) h1 h2
      rw [ht] at w
      exact w
    · rw [if_pos q] at h
      have w := hk _ _ _ _ _ h p e s m args below meth c D ca b0 ad0 S0 ad H locs rls hC h61 hX hR (ce_okT_tl (ce_okT_tl hT)) h1 h2
      rw [hp'] at w
      exact w
  · cases h
theorem ok_iflt {t tg : Nat} {off : Int} (hp : pcs.getD i 0 = pc) (hp' : pcs.getD (i + 1) 0 = pc + 3) (hd : decode cc pc = .ok (.ifCond .lt off, 3)) (ht : pcs.getD t 0 = tg) (hf : (pc : Int) + off = (tg : Int)) : ce_Ok l cc own nL rt d MC MS pcs i (o_iflt t) := by
  intro nn ls st S k res h hk p e s m args below meth c D ca b0 ad0 S0 ad H locs rls hC h61 hX hR hT h1 h2
  obtain ⟨hx, hb, hml, hown, ⟨w0, hts⟩, hr, hlk, hG⟩ := id hC
  unfold o_iflt at h
  split at h
  · rename_i x r
    rw [hp]
    refine lv_if_lt (tgt := tg) hx hb hd hf (fun q => ?_) (fun q => ?_)
    · rw [if_pos q] at h
      have w := hk _ _ _ _ _ h p e s m args below meth c D ca b0 ad0 S0 ad H locs rls hC h61 hX hR (ce_okT_tl hT) h1 h2
      rw [ht] at w
      exact w
    · rw [if_neg q] at h
      have w := hk _ _ _ _ _ h p e s m args below meth c D ca b0 ad0 S0 ad H locs rls hC h61 hX hR (ce_okT_tl hT) h1 h2
      rw [hp'] at w
      exact w
  · cases h
theorem ok_cmplt {t tg : Nat} {off : Int} (hp : pcs.getD i 0 = pc) (hp' : pcs.getD (i + 1) 0 = pc + 3) (hd : decode cc pc = .ok (.if_icmp .lt off, 3)) (ht : pcs.getD t 0 = tg) (hf : (pc : Int) + off = (tg : Int)) : ce_Ok l cc own nL rt d MC MS pcs i (o_cmplt t) := by
  intro nn ls st S k res h hk p e s m args below meth c D ca b0 ad0 S0 ad H locs rls hC h61 hX hR hT h1 h2
  obtain ⟨hx, hb, hml, hown, ⟨w0, hts⟩, hr, hlk, hG⟩ := id hC
  unfold o_cmplt at h
  split at h
  · rename_i y x r
    rw [hp]
    refine lv_icmp_lt (tgt := tg) hx hb hd hf (fun q => ?_) (fun q => ?_)
    · rw [if_pos q] at h
      have w := hk _ _ _ _ _ h p e s m args below meth c D ca b0 ad0 S0 ad H locs rls hC h61 hX hR (ce_okT_tl (ce_okT_tl hT)) h1 h2
      rw [ht] at w
      exact w
    · rw [if_neg q] at h
      have w := hk _ _ _ _ _ h p e s m args below meth c D ca b0 ad0 S0 ad H locs rls hC h61 hX hR (ce_okT_tl (ce_okT_tl hT)) h1 h2
      rw [hp'] at w
      exact w
  · cases h
theorem ok_ifge {t tg : Nat} {off : Int} (hp : pcs.getD i 0 = pc) (hp' : pcs.getD (i + 1) 0 = pc + 3) (hd : decode cc pc = .ok (.ifCond .ge off, 3)) (ht : pcs.getD t 0 = tg) (hf : (pc : Int) + off = (tg : Int)) : ce_Ok l cc own nL rt d MC MS pcs i (o_ifge t) := by
  intro nn ls st S k res h hk p e s m args below meth c D ca b0 ad0 S0 ad H locs rls hC h61 hX hR hT h1 h2
  obtain ⟨hx, hb, hml, hown, ⟨w0, hts⟩, hr, hlk, hG⟩ := id hC
  unfold o_ifge at h
  split at h
  · rename_i x r
    rw [hp]
    refine lv_if_ge (tgt := tg) hx hb hd hf (fun q => ?_) (fun q => ?_)
    · rw [if_pos q] at h
      have w := hk _ _ _ _ _ h p e s m args below meth c D ca b0 ad0 S0 ad H locs rls hC h61 hX hR (ce_okT_tl hT) h1 h2
      rw [ht] at w
      exact w
    · rw [if_neg q] at h
      have w := hk _ _ _ _ _ h p e s m args below meth c D ca b0 ad0 S0 ad H locs rls hC h61 hX hR (ce_okT_tl hT) h1 h2
      rw [hp'] at w
      exact w
  · cases h
theorem ok_cmpge {t tg : Nat} {off : Int} (hp : pcs.getD i 0 = pc) (hp' : pcs.getD (i + 1) 0 = pc + 3) (hd : decode cc pc = .ok (.if_icmp .ge off, 3)) (ht : pcs.getD t 0 = tg) (hf : (pc : Int) + off = (tg : Int)) : ce_Ok l cc own nL rt d MC MS pcs i (o_cmpge t) := by
  intro nn ls st S k res h hk p e s m args below meth c D ca b0 ad0 S0 ad H locs rls hC h61 hX hR hT h1 h2
  obtain ⟨hx, hb, hml, hown, ⟨w0, hts⟩, hr, hlk, hG⟩ := id hC
  unfold o_cmpge at h
  split at h
  · rename_i y x r
    rw [hp]
    refine lv_icmp_ge (tgt := tg) hx hb hd hf (fun q => ?_) (fun q => ?_)
    · rw [if_pos q] at h
      have w := hk _ _ _ _ _ h p e s m args below meth c D ca b0 ad0 S0 ad H locs rls hC h61 hX hR (ce_okT_tl (ce_okT_tl hT)) h1 h2
      rw [ht] at w
      exact w
    · rw [if_neg q] at h
      have w := hk _ _ _ _ _ h p e s m args below meth c D ca b0 ad0 S0 ad H locs rls hC h61 hX hR (ce_okT_tl (ce_okT_tl hT)) h1 h2
      rw [hp'] at w
      exact w
  · cases h
theorem ok_ifgt {t tg : Nat} {off : Int} (hp : pcs.getD i 0 = pc) (hp' : pcs.getD (i + 1) 0 = pc + 3) (hd : decode cc pc = .ok (.ifCond .gt off, 3)) (ht : pcs.getD t 0 = tg) (hf : (pc : Int) + off = (tg : Int)) : ce_Ok l cc own nL rt d MC MS pcs i (o_ifgt t) := by
  intro nn ls st S k res h hk p e s m args below meth c D ca b0 ad0 S0 ad H locs rls hC h61 hX hR hT h1 h2
  obtain ⟨hx, hb, hml, hown, ⟨w0, hts⟩, hr, hlk, hG⟩ := id hC
  unfold o_ifgt at h
  split at h
  · rename_i x r
    rw [hp]
    refine lv_if_gt (tgt := tg) hx hb hd hf (fun q => ?_) (fun q => ?_)
    · rw [if_pos q] at h
      have w := hk _ _ _ _ _ h p e s m args below meth c D ca b0 ad0 S0 ad H locs rls hC h61 hX hR (ce_okT_tl hT) h1 h2
      rw [ht] at w
      exact w
    · rw [if_neg q] at h
      have w := hk _ _ _ _ _ h p e s m args below meth c D ca b0 ad0 S0 ad H locs rls hC h61 hX hR (ce_okT_tl hT) h1 h2
      rw [hp'] at w
      exact w
  · cases h
theorem ok_cmpgt {t tg : Nat} {off : Int} (hp : pcs.getD i 0 = pc) (hp' : pcs.getD (i + 1) 0 = pc + 3) (hd : decode cc pc = .ok (.if_icmp .gt off, 3)) (ht : pcs.getD t 0 = tg) (hf : (pc : Int) + off = (tg : Int)) : ce_Ok l cc own nL rt d MC MS pcs i (o_cmpgt t) := by
  intro nn ls st S k res h hk p e s m args below meth c D ca b0 ad0 S0 ad H locs rls hC h61 hX hR hT h1 h2
  obtain ⟨hx, hb, hml, hown, ⟨w0, hts⟩, hr, hlk, hG⟩ := id hC
  unfold o_cmpgt at h
  split at h
  · rename_i y x r
    rw [hp]
    refine lv_icmp_gt (tgt := tg) hx hb hd hf (fun q => ?_) (fun q => ?_)
    · rw [if_pos q] at h
      have w := hk _ _ _ _ _ h p e s m args below meth c D ca b0 ad0 S0 ad H locs rls hC h61 hX hR (ce_okT_tl (ce_okT_tl hT)) h1 h2
      rw [ht] at w
      exact w
    · rw [if_neg q] at h
      have w := hk _ _ _ _ _ h p e s m args below meth c D ca b0 ad0 S0 ad H locs rls hC h61 hX hR (ce_okT_tl (ce_okT_tl hT)) h1 h2
      rw [hp'] at w
      exact w
  · cases h
theorem ok_ifle {t tg : Nat} {off : Int} (hp : pcs.getD i 0 = pc) (hp' : pcs.getD (i + 1) 0 = pc + 3) (hd : decode cc pc = .ok (.ifCond .le off, 3)) (ht : pcs.getD t 0 = tg) (hf : (pc : Int) + off = (tg : Int)) : ce_Ok l cc own nL rt d MC MS pcs i (o_ifle t) := by
  intro nn ls st S k res h hk p e s m args below meth c D ca b0 ad0 S0 ad H locs rls hC h61 hX hR hT h1 h2
  obtain ⟨hx, hb, hml, hown, ⟨w0, hts⟩, hr, hlk, hG⟩ := id hC
  unfold o_ifle at h
  split at h
  · rename_i x r
    rw [hp]
    refine lv_if_le (tgt := tg) hx hb hd hf (fun q => ?_) (fun q => ?_)
    · rw [if_pos q] at h
      have w := hk _ _ _ _ _ h p e s m args below meth c D ca b0 ad0 S0 ad H locs rls hC h61 hX hR (ce_okT_tl hT) h1 h2
      rw [ht] at w
      exact w
    · rw [if_neg q] at h
      have w := hk _ _ _ _ _ h p e s m args below meth c D ca b0 ad0 S0 ad H locs rls hC h61 hX hR (ce_okT_tl hT) h1 h2
      rw [hp'] at w
      exact w
  · cases h
theorem ok_cmple {t tg : Nat} {off : Int} (hp : pcs.getD i 0 = pc) (hp' : pcs.getD (i + 1) 0 = pc + 3) (hd : decode cc pc = .ok (.if_icmp .le off, 3)) (ht : pcs.getD t 0 = tg) (hf : (pc : Int) + off = (tg : Int)) : ce_Ok l cc own nL rt d MC MS pcs i (o_cmple t) := by
  intro nn ls st S k res h hk p e s m args below meth c D ca b0 ad0 S0 ad H locs rls hC h61 hX hR hT h1 h2
  obtain ⟨hx, hb, hml, hown, ⟨w0, hts⟩, hr, hlk, hG⟩ := id hC
  unfold o_cmple at h
  split at h
  · rename_i y x r
    rw [hp]
    refine lv_icmp_le (tgt := tg) hx hb hd hf (fun q => ?_) (fun q => ?_)
    · rw [if_pos q] at h
      have w := hk _ _ _ _ _ h p e s m args below meth c D ca b0 ad0 S0 ad H locs rls hC h61 hX hR (ce_okT_tl (ce_okT_tl hT)) h1 h2
      rw [ht] at w
      exact w
    · rw [if_neg q] at h
      have w := hk _ _ _ _ _ h p e s m args below meth c D ca b0 ad0 S0 ad H locs rls hC h61 hX hR (ce_okT_tl (ce_okT_tl hT)) h1 h2
      rw [hp'] at w
      exact w
  · cases h
theorem ok_sw {lo hi dflt : Int} {offs : Array Int} {len : Nat} {ks : List (Int32 × Nat)} {dd : Nat} (hp : pcs.getD i 0 = pc) (hd : decode cc pc = .ok (.tableswitch dflt lo hi offs, len)) (hs : ce_swok pc pcs lo offs ks = true) (hn : lo + (ks.length : Int) = hi + 1) (ht : (pc : Int) + dflt = ((pcs.getD dd 0 : Nat) : Int)) : ce_Ok l cc own nL rt d MC MS pcs i (o_sw ks dd) := by
  intro nn ls st S k res h hk p e s m args below meth c D ca b0 ad0 S0 ad H locs rls hC h61 hX hR hT h1 h2
  obtain ⟨hx, hb, hml, hown, ⟨w0, hts⟩, hr, hlk, hG⟩ := id hC
  unfold o_sw at h
  split at h
  · rename_i x r
    rw [hp]
    rcases ce_sw_or ks h with ⟨j, q, g1, g2, g3⟩ | ⟨g1, g2⟩
    · obtain ⟨off, k1, k2, k3⟩ := ce_swok_at hs g1
      have w := hk _ _ _ _ _ g3 p e s m args below meth c D ca b0 ad0 S0 ad H locs rls hC h61 hX hR (ce_okT_tl hT) h1 h2
      have hj : (j : Int) < (ks.length : Int) := by
        have := (List.getElem?_eq_some_iff.mp g1).1
        omega
      refine lv_tableIn hx hb hd (by rw [g2, k2]; omega) (by rw [g2, k2]; omega) (off := off) (by rw [g2, k2, show (lo + (j : Int) - lo).toNat = j by omega]; exact k1) k3 w
    · have w := hk _ _ _ _ _ g2 p e s m args below meth c D ca b0 ad0 S0 ad H locs rls hC h61 hX hR (ce_okT_tl hT) h1 h2
      refine lv_tableOut hx hb hd ?_ ht w
      by_cases a1 : x.toInt < lo
      · exact Or.inl a1
      · by_cases a2 : hi < x.toInt
        · exact Or.inr a2
        · exfalso
          have hl : (x.toInt - lo).toNat < ks.length := by omega
          obtain ⟨off, k1, k2, k3⟩ := ce_swok_at hs (List.getElem?_eq_getElem hl)
          exact g1 _ _ (List.getElem?_eq_getElem hl) (Int32.toInt_inj.mp (by rw [k2]; omega))
  · cases h
theorem ok_dup (hp : pcs.getD i 0 = pc) (hp' : pcs.getD (i + 1) 0 = pc + 1) (hd : decode cc pc = .ok (.dup, 1)) : ce_Ok l cc own nL rt d MC MS pcs i o_dup := by
  intro nn ls st S k res h hk p e s m args below meth c D ca b0 ad0 S0 ad H locs rls hC h61 hX hR hT h1 h2
  obtain ⟨hx, hb, hml, hown, ⟨w0, hts⟩, hr, hlk, hG⟩ := id hC
  unfold o_dup at h
  split at h
  · rename_i x r
    have w := hk _ _ _ _ _ h p e s m args below meth c D ca b0 ad0 S0 ad H locs rls hC h61 hX hR (ce_okT_cons trivial hT) h1 h2
    rw [hp'] at w
    rw [hp]
    exact lv_dup hx hb hd rfl w
  · rename_i x r
    have w := hk _ _ _ _ _ h p e s m args below meth c D ca b0 ad0 S0 ad H locs rls hC h61 hX hR (ce_okT_cons (ce_okT_hd hT) hT) h1 h2
    rw [hp'] at w
    rw [hp]
    exact lv_dup hx hb hd rfl w
  · cases h
theorem ok_dup2 (hp : pcs.getD i 0 = pc) (hp' : pcs.getD (i + 1) 0 = pc + 1) (hd : decode cc pc = .ok (.dup2, 1)) : ce_Ok l cc own nL rt d MC MS pcs i o_dup2 := by
  intro nn ls st S k res h hk p e s m args below meth c D ca b0 ad0 S0 ad H locs rls hC h61 hX hR hT h1 h2
  obtain ⟨hx, hb, hml, hown, ⟨w0, hts⟩, hr, hlk, hG⟩ := id hC
  unfold o_dup2 at h
  split at h
  · rename_i y x r
    have w := hk _ _ _ _ _ h p e s m args below meth c D ca b0 ad0 S0 ad H locs rls hC h61 hX hR (ce_okT_cons trivial (ce_okT_cons (ce_okT_hd (ce_okT_tl hT)) hT)) h1 h2
    rw [hp'] at w
    rw [hp]
    exact lv_dup2_11 hx hb hd rfl rfl w
  · cases h
theorem ok_pop (hp : pcs.getD i 0 = pc) (hp' : pcs.getD (i + 1) 0 = pc + 1) (hd : decode cc pc = .ok (.pop, 1)) : ce_Ok l cc own nL rt d MC MS pcs i o_pop := by
  intro nn ls st S k res h hk p e s m args below meth c D ca b0 ad0 S0 ad H locs rls hC h61 hX hR hT h1 h2
  obtain ⟨hx, hb, hml, hown, ⟨w0, hts⟩, hr, hlk, hG⟩ := id hC
  unfold o_pop at h
  split at h
  · rename_i x r
    have w := hk _ _ _ _ _ h p e s m args below meth c D ca b0 ad0 S0 ad H locs rls hC h61 hX hR (ce_okT_tl hT) h1 h2
    rw [hp'] at w
    rw [hp]
    exact lv_pop hx hb hd rfl w
  · cases h
theorem ok_iret (hp : pcs.getD i 0 = pc) (hd : decode cc pc = .ok (.ireturn, 1)) (hrt : rt = some .int) : ce_Ok l cc own nL rt d MC MS pcs i o_iret := by
  intro nn ls st S k res h hk p e s m args below meth c D ca b0 ad0 S0 ad H locs rls hC h61 hX hR hT h1 h2
  obtain ⟨hx, hb, hml, hown, ⟨w0, hts⟩, hr, hlk, hG⟩ := id hC
  unfold o_iret at h
  split at h
  · rename_i x
    cases h
    rw [hp]
    refine W.widen h1 h2 ?_
    exact W.iret hx hb (hr.trans hrt) (fun t ht hW => ⟨ad, hR.2.2.2.2.2, rfl, hR.2.2.2.1, fun v hv => by cases hv; trivial, by rw [ht]; exact hR.1, hR.2.1.F ht⟩) hR.2.1.2.2 hd
  · cases h
theorem ok_lret (hp : pcs.getD i 0 = pc) (hd : decode cc pc = .ok (.lreturn, 1)) (hrt : rt = some .long) : ce_Ok l cc own nL rt d MC MS pcs i o_lret := by
  intro nn ls st S k res h hk p e s m args below meth c D ca b0 ad0 S0 ad H locs rls hC h61 hX hR hT h1 h2
  obtain ⟨hx, hb, hml, hown, ⟨w0, hts⟩, hr, hlk, hG⟩ := id hC
  unfold o_lret at h
  split at h
  · rename_i x
    cases h
    rw [hp]
    refine W.widen h1 h2 ?_
    exact W.lret hx hb (hr.trans hrt) (fun t ht hW => ⟨ad, hR.2.2.2.2.2, rfl, hR.2.2.2.1, fun v hv => by cases hv; trivial, by rw [ht]; exact hR.1, hR.2.1.F ht⟩) hR.2.1.2.2 hd
  · cases h
theorem ok_zret (hp : pcs.getD i 0 = pc) (hd : decode cc pc = .ok (.ireturn, 1)) (hrt : rt = some .boolean) : ce_Ok l cc own nL rt d MC MS pcs i o_zret := by
  intro nn ls st S k res h hk p e s m args below meth c D ca b0 ad0 S0 ad H locs rls hC h61 hX hR hT h1 h2
  obtain ⟨hx, hb, hml, hown, ⟨w0, hts⟩, hr, hlk, hG⟩ := id hC
  unfold o_zret at h
  split at h
  · rename_i x
    by_cases hz : x = 0 ∨ x = 1
    · rw [if_pos hz] at h
      cases h
      rw [hp]
      refine W.widen h1 h2 ?_
      exact W.zret hx hb (hr.trans hrt) (by rcases hz with rfl | rfl <;> decide) (fun t ht hW => ⟨ad, hR.2.2.2.2.2, rfl, hR.2.2.2.1, fun v hv => by cases hv; trivial, by rw [ht]; exact hR.1, hR.2.1.F ht⟩) hR.2.1.2.2 hd
    · rw [if_neg hz] at h
      cases h
  · cases h
theorem ok_vret (hp : pcs.getD i 0 = pc) (hd : decode cc pc = .ok (.return_, 1)) (hrt : rt = none) : ce_Ok l cc own nL rt d MC MS pcs i o_vret := by
  intro nn ls st S k res h hk p e s m args below meth c D ca b0 ad0 S0 ad H locs rls hC h61 hX hR hT h1 h2
  obtain ⟨hx, hb, hml, hown, ⟨w0, hts⟩, hr, hlk, hG⟩ := id hC
  unfold o_vret at h
  split at h
  · cases h
    rw [hp]
    refine W.widen h1 h2 ?_
    exact W.vret hx hb (hr.trans hrt) (fun t ht hW => ⟨ad, hR.2.2.2.2.2, rfl, hR.2.2.2.1, (fun v hv => by cases hv), by rw [ht]; exact hR.1, hR.2.1.F ht⟩) hR.2.1.2.2 hd
  · cases h
theorem ok_aret {C : String} (hp : pcs.getD i 0 = pc) (hd : decode cc pc = .ok (.areturn, 1)) (hrt : rt = some (.object C)) : ce_Ok l cc own nL rt d MC MS pcs i o_aret := by
  intro nn ls st S k res h hk p e s m args below meth c D ca b0 ad0 S0 ad H locs rls hC h61 hX hR hT h1 h2
  obtain ⟨hx, hb, hml, hown, ⟨w0, hts⟩, hr, hlk, hG⟩ := id hC
  unfold o_aret at h
  split at h
  · rename_i q
    cases h
    rw [hp]
    refine W.widen h1 h2 ?_
    exact W.aret hx hb (hr.trans hrt) (Or.inl ⟨_, rfl⟩) (Or.inr ⟨_, rfl⟩) (fun t ht hW => ⟨ad, hR.2.2.2.2.2, rfl, hR.2.2.2.1, fun v hv => by cases hv; exact ce_okT_hd hT, by rw [ht]; exact hR.1, hR.2.1.F ht⟩) hR.2.1.2.2 hd
  · cases h
end CEO
end
section
/-! steps on the heap -/
theorem ce_ag.refl {S : ce_S} {ad : Nat → Nat → Nat} : ce_ag S ad S ad := fun _ _ h => ⟨rfl, h⟩
theorem ce_uws {C : String} {T : u_T} {N : Nat} (ps : List Nat) (h : (List.range N).all (fun k => decide (lw_tbl[ps.getD k 0]? = some (u_lay C T k)) && goodWord (u_lay C T k)) = true) : ∀ w ∈ u_ws C T N, w ∈ ce_tw := by
  intro w hw
  obtain ⟨k, hk, rfl⟩ := List.mem_map.mp hw
  have := List.all_eq_true.mp h k hk
  simp only [Bool.and_eq_true, decide_eq_true_eq] at this
  exact ce_tw_in (List.mem_of_getElem? this.1) this.2
theorem ce_len_kept {S S' : ce_S} {t i : Nat} (h : ce_L S' t i = ce_L S t i) : ce_len S' t i = ce_len S t i := by
  unfold ce_len
  cases ce_sl t <;> simp [h]
theorem ce_okV_kept {S S' : ce_S} (h : ∀ t, ce_C S' t = ce_C S t) {v : ce_V} (hv : ce_okV S v) : ce_okV S' v := by
  unfold ce_okV at hv ⊢
  split at hv
  · rw [h]; exact hv
  · trivial
theorem ce_okT_kept {S S' : ce_S} (h : ∀ t, ce_C S' t = ce_C S t) {st : List ce_V} (hv : ce_okT S st) : ce_okT S' st := fun v hq => ce_okV_kept h (hv v hq)
theorem ce_okL_kept {S S' : ce_S} (h : ∀ t, ce_C S' t = ce_C S t) {ls : List (Option ce_V)} (hv : ce_okL S ls) : ce_okL S' ls := fun j v hq => ce_okV_kept h (hv j v hq)
theorem ce_ag_kept {S0 S S' : ce_S} {ad0 ad : Nat → Nat → Nat} (h : ∀ t, ce_C S' t = ce_C S t) (hv : ce_ag S0 ad0 S ad) : ce_ag S0 ad0 S' ad := fun t i q => ⟨(hv t i q).1, by rw [h]; exact (hv t i q).2⟩
section CEHO
variable {l : Launch} {cc : ByteArray} {own : String} {nL : Nat} {rt : Option FieldType} {d MC MS : Nat} {pcs : List Nat} {i pc : Nat}
theorem ok_getI {t f ci ix wp N : Nat} {C : String} {T : u_T} (hp : pcs.getD i 0 = pc) (hp' : pcs.getD (i + 1) 0 = pc + 3) (hd : decode cc pc = .ok (.getfield ix, 3)) (hso : ce_so t = 0) (hci : ∀ j, ce_ci t j = ci) (hc : vwCl[ci]? = some (C, T, N)) (hcw : ∀ w ∈ u_ws C T N, w ∈ ce_tw) (hf : f < N) (hfk : ce_fk t f = .inl ()) (hw : lw_tbl[wp]? = some (Cond.fieldLink own ix (T f).1 (T f).2.1 (T f).2.2.1)) : ce_Ok l cc own nL rt d MC MS pcs i (o_getI t f) := by
  intro nn ls st S k res h hk p e s m args below meth c D ca b0 ad0 S0 ad H locs rls hC h61 hX hR hT h1 h2
  obtain ⟨hx, hb, hml, hown, ⟨w0, hts⟩, hr, hlk, hG⟩ := id hC
  unfold o_getI at h
  simp only [ce_bt] at h
  split at h
  · rename_i q r
    by_cases hq : q.1 = t
    · rw [if_pos hq] at h
      have w := hk _ _ _ _ _ h p e s m args below meth c D ca b0 ad0 S0 ad H locs rls hC h61 hX hR (ce_okT_cons trivial (ce_okT_tl hT)) h1 h2
      rw [hp'] at w
      rw [hp]
      have hv : q.2 < ce_C S t := by have := ce_okT_hd hT; rw [← hq]; exact this
      obtain ⟨⟨ho, -, -⟩, -, -⟩ := hR.1.1 t q.2 hv (by rw [hso]; decide)
      obtain ⟨r', hr1, hr2⟩ := ho hso
      rw [hci, hc] at hr1
      cases hr1
      rw [hci] at hr2
      have hq2 : ce_val ad (.inr (.inl q)) = .ref (ad t q.2) := by rw [← hq]; rfl
      rw [List.map_cons, hq2]
      exact ce_get hx hb hts (fun w hw => List.mem_cons_of_mem _ (hcw w hw)) hown hG.1 hr2 hc f hf (ce_wIn hts hw rfl) (by show ce_fv ad S t f q.2 = _; unfold ce_fv; rw [hfk]; rfl) hd w
    · rw [if_neg hq] at h; cases h
  · cases h
theorem ok_getS {t f ci ix wp N t' : Nat} {g : Nat → Nat} {C : String} {T : u_T} (hp : pcs.getD i 0 = pc) (hp' : pcs.getD (i + 1) 0 = pc + 3) (hd : decode cc pc = .ok (.getfield ix, 3)) (hso : ce_so t = 0) (hci : ∀ j, ce_ci t j = ci) (hc : vwCl[ci]? = some (C, T, N)) (hcw : ∀ w ∈ u_ws C T N, w ∈ ce_tw) (hf : f < N) (hfk : ce_fk t f = .inr (.inl (t', g))) (hw : lw_tbl[wp]? = some (Cond.fieldLink own ix (T f).1 (T f).2.1 (T f).2.2.1)) : ce_Ok l cc own nL rt d MC MS pcs i (o_getS t t' g) := by
  intro nn ls st S k res h hk p e s m args below meth c D ca b0 ad0 S0 ad H locs rls hC h61 hX hR hT h1 h2
  obtain ⟨hx, hb, hml, hown, ⟨w0, hts⟩, hr, hlk, hG⟩ := id hC
  unfold o_getS at h
  simp only [ce_bt] at h
  split at h
  · rename_i q r
    by_cases hq : q.1 = t
    · rw [if_pos hq] at h
      have hv : q.2 < ce_C S t := by have := ce_okT_hd hT; rw [← hq]; exact this
      have w := hk _ _ _ _ _ h p e s m args below meth c D ca b0 ad0 S0 ad H locs rls hC h61 hX hR (ce_okT_cons ((hR.2.2.2.1.1 t f q.2 hv hso).1 _ hfk) (ce_okT_tl hT)) h1 h2
      rw [hp'] at w
      rw [hp]
      obtain ⟨⟨ho, -, -⟩, -, -⟩ := hR.1.1 t q.2 hv (by rw [hso]; decide)
      obtain ⟨r', hr1, hr2⟩ := ho hso
      rw [hci, hc] at hr1
      cases hr1
      rw [hci] at hr2
      have hq2 : ce_val ad (.inr (.inl q)) = .ref (ad t q.2) := by rw [← hq]; rfl
      rw [List.map_cons, hq2]
      exact ce_get hx hb hts (fun w hw => List.mem_cons_of_mem _ (hcw w hw)) hown hG.1 hr2 hc f hf (ce_wIn hts hw rfl) (by show ce_fv ad S t f q.2 = _; unfold ce_fv; rw [hfk]; rfl) hd w
    · rw [if_neg hq] at h; cases h
  · cases h
theorem ok_getM {t f ci ix wp N t' : Nat} {C : String} {T : u_T} (hp : pcs.getD i 0 = pc) (hp' : pcs.getD (i + 1) 0 = pc + 3) (hd : decode cc pc = .ok (.getfield ix, 3)) (hso : ce_so t = 0) (hci : ∀ j, ce_ci t j = ci) (hc : vwCl[ci]? = some (C, T, N)) (hcw : ∀ w ∈ u_ws C T N, w ∈ ce_tw) (hf : f < N) (hfk : ce_fk t f = .inr (.inr t')) (hw : lw_tbl[wp]? = some (Cond.fieldLink own ix (T f).1 (T f).2.1 (T f).2.2.1)) : ce_Ok l cc own nL rt d MC MS pcs i (o_getM t f t') := by
  intro nn ls st S k res h hk p e s m args below meth c D ca b0 ad0 S0 ad H locs rls hC h61 hX hR hT h1 h2
  obtain ⟨hx, hb, hml, hown, ⟨w0, hts⟩, hr, hlk, hG⟩ := id hC
  unfold o_getM at h
  simp only [ce_bt] at h
  split at h
  · rename_i q r
    by_cases hq : q.1 = t
    · rw [if_pos hq] at h
      have hv : q.2 < ce_C S t := by have := ce_okT_hd hT; rw [← hq]; exact this
      have w := hk _ _ _ _ _ h p e s m args below meth c D ca b0 ad0 S0 ad H locs rls hC h61 hX hR (ce_okT_cons ((hR.2.2.2.1.1 t f q.2 hv hso).2 _ hfk) (ce_okT_tl hT)) h1 h2
      rw [hp'] at w
      rw [hp]
      obtain ⟨⟨ho, -, -⟩, -, -⟩ := hR.1.1 t q.2 hv (by rw [hso]; decide)
      obtain ⟨r', hr1, hr2⟩ := ho hso
      rw [hci, hc] at hr1
      cases hr1
      rw [hci] at hr2
      have hq2 : ce_val ad (.inr (.inl q)) = .ref (ad t q.2) := by rw [← hq]; rfl
      rw [List.map_cons, hq2]
      exact ce_get hx hb hts (fun w hw => List.mem_cons_of_mem _ (hcw w hw)) hown hG.1 hr2 hc f hf (ce_wIn hts hw rfl) (by show ce_fv ad S t f q.2 = _; unfold ce_fv; rw [hfk]; rfl) hd w
    · rw [if_neg hq] at h; cases h
  · cases h
/-- behind a write of an int field -/
theorem ce_H.putI {D : va_G} {ca : Nat → ClassId} {b0 : Nat → Prop} {ad : Nat → Nat → Nat} {S : ce_S} {t f j : Nat} {x : Int32} {H H1 : Heap} {r : vw_C} (h : ce_H D ca b0 ad S H) (hj : j < ce_C S t) (hso : ce_so t = 0) (hfk : ce_fk t f = .inl ()) (hr : vwCl[ce_ci t j]? = some r) (hO : t_OB (ad t j) (D.1 (ce_ci t j)) r.2.2 (D.2 (ce_ci t j)) H1 (updV (fun k => ce_fv ad S t k j) f (.int x))) (hz : H1.size = H.size) (ho : ∀ q : Nat, q ≠ ad t j → H1[q]? = H[q]?) : ce_H D ca b0 ad (ce_sI S t f j x) H1 := by
  refine h.set hj (by rw [hso]; decide) hz ho (fun _ => rfl) ⟨fun _ => ⟨r, hr, hO.to (fun k _ => ?_)⟩, (fun h1 => by rw [hso] at h1; cases h1), (fun h1 => by rw [hso] at h1; cases h1)⟩ (fun t' i' hne => ⟨fun k => ?_, fun _ => rfl, fun _ => rfl, rfl, fun _ _ _ => rfl⟩)
  · unfold updV
    by_cases hk : k = f
    · subst hk
      rw [if_pos rfl]
      unfold ce_fv
      rw [hfk]
      exact congrArg Value.int (ce_u_eq S.1 t k j x).symm
    · rw [if_neg hk]
      show ce_fv ad S t k j = ce_fv ad _ t k j
      unfold ce_fv
      cases ce_fk t k with
      | inl u => exact congrArg Value.int (ce_u_ne S.1 x (fun q => hk q.2.1)).symm
      | inr u => cases u <;> rfl
  · exact ce_u_ne S.1 x (fun q => hne ⟨q.1, q.2.2⟩)
theorem ce_H.putR {D : va_G} {ca : Nat → ClassId} {b0 : Nat → Prop} {ad : Nat → Nat → Nat} {S : ce_S} {t f j x t' : Nat} {H H1 : Heap} {r : vw_C} (h : ce_H D ca b0 ad S H) (hj : j < ce_C S t) (hso : ce_so t = 0) (hfk : ce_fk t f = .inr (.inr t')) (hr : vwCl[ce_ci t j]? = some r) (hO : t_OB (ad t j) (D.1 (ce_ci t j)) r.2.2 (D.2 (ce_ci t j)) H1 (updV (fun k => ce_fv ad S t k j) f (.ref (ad t' x)))) (hz : H1.size = H.size) (ho : ∀ q : Nat, q ≠ ad t j → H1[q]? = H[q]?) : ce_H D ca b0 ad (ce_sR S t f j x) H1 := by
  refine h.set hj (by rw [hso]; decide) hz ho (fun _ => rfl) ⟨fun _ => ⟨r, hr, hO.to (fun k _ => ?_)⟩, (fun h1 => by rw [hso] at h1; cases h1), (fun h1 => by rw [hso] at h1; cases h1)⟩ (fun t'' i' hne => ⟨fun _ => rfl, fun k => ?_, fun _ => rfl, rfl, fun _ _ _ => rfl⟩)
  · unfold updV
    by_cases hk : k = f
    · subst hk
      rw [if_pos rfl]
      unfold ce_fv
      rw [hfk]
      exact congrArg (fun z => Value.ref (ad t' z)) (ce_u_eq S.2.1 t k j x).symm
    · rw [if_neg hk]
      show ce_fv ad S t k j = ce_fv ad _ t k j
      unfold ce_fv
      cases ce_fk t k with
      | inl u => rfl
      | inr u => cases u with
        | inl u => rfl
        | inr u => exact congrArg (fun z => Value.ref (ad u z)) (ce_u_ne S.2.1 x (fun q => hk q.2.1)).symm
  · exact ce_u_ne S.2.1 x (fun q => hne ⟨q.1, q.2.2⟩)
theorem ce_S_put {b0 : Nat → Prop} {H0 H H1 : Heap} {locs : List Loc} {lc : Loc} {a : Nat} (h : va_S (fun q => b0 q) H0 H locs) (hz : H1.size = H.size) (ho : ∀ q : Nat, q ≠ a → H1[q]? = H[q]?) (ha : b0 a) (hl : lc.base = a) : va_S (fun q => b0 q) H0 H1 (locs ++ [lc]) := by
  refine ⟨by rw [hz]; exact h.1, fun q g1 g2 => ?_, fun q hq => ?_⟩
  · rw [ho q (fun e => g2 (by rw [e]; exact ha))]
    exact h.2.1 q g1 g2
  · rcases List.mem_append.mp hq with g | g
    · exact h.2.2 q g
    · rw [List.mem_singleton.mp g]
      show b0 lc.base
      rw [hl]; exact ha
theorem ce_okS_sI {S : ce_S} {t f j : Nat} {x : Int32} (h : ce_okS S) : ce_okS (ce_sI S t f j x) := h
theorem ce_okS_sA {S : ce_S} {t f j : Nat} {x : Int32} (h : ce_okS S) : ce_okS (ce_sA S t f j x) := h
theorem ce_okS_sR {S : ce_S} {t f j x t' : Nat} (h : ce_okS S) (hfk : ce_fk t f = .inr (.inr t')) (hx : x < ce_C S t') : ce_okS (ce_sR S t f j x) := by
  refine ⟨fun a k b hb hs => ⟨fun q hq => (h.1 a k b hb hs).1 q hq, fun a' hq => ?_⟩, h.2⟩
  show ce_u S.2.1 t f j x a k b < _
  by_cases e : a = t ∧ k = f ∧ b = j
  · obtain ⟨rfl, rfl, rfl⟩ := e
    rw [ce_u_eq]
    cases hfk.symm.trans hq
    exact hx
  · rw [ce_u_ne _ _ e]
    exact (h.1 a k b hb hs).2 a' hq
theorem ok_putI {t f ci ix wp N : Nat} {C : String} {T : u_T} {ty : Nat → FieldType} (hp : pcs.getD i 0 = pc) (hp' : pcs.getD (i + 1) 0 = pc + 3) (hd : decode cc pc = .ok (.putfield ix, 3)) (hso : ce_so t = 0) (hci : ∀ j, ce_ci t j = ci) (hc : vwCl[ci]? = some (C, T, N)) (hcw : ∀ w ∈ u_ws C T N, w ∈ ce_tw) (hty : ∀ k, k < N → parseFieldDescriptor (T k).2.2.1 = some (ty k)) (hnm : ∀ a, a < N → ∀ b, b < N → a ≠ b → (T a).2.1 ≠ (T b).2.1) (hf : f < N) (hfk : ce_fk t f = .inl ()) (hfin : (T f).2.2.2 = false) (hint : ty f = .int) (hw : lw_tbl[wp]? = some (Cond.fieldLink own ix (T f).1 (T f).2.1 (T f).2.2.1)) : ce_Ok l cc own nL rt d MC MS pcs i (o_putI t f) := by
  intro nn ls st S k res h hk p e s m args below meth c D ca b0 ad0 S0 ad H locs rls hC h61 hX hR hT h1 h2
  obtain ⟨hx, hb, hml, hown, ⟨w0, hts⟩, hr, hlk, hG⟩ := id hC
  unfold o_putI at h
  simp only [ce_bt] at h
  split at h
  · rename_i x q r
    by_cases hq : q.1 = t
    · rw [if_pos hq] at h
      have hv : q.2 < ce_C S t := by have := ce_okT_hd (ce_okT_tl hT); rw [← hq]; exact this
      rw [hp]
      obtain ⟨⟨ho, -, -⟩, hb0, -⟩ := hR.1.1 t q.2 hv (by rw [hso]; decide)
      obtain ⟨r', hr1, hr2⟩ := ho hso
      have hr3 := hr1
      rw [hci, hc] at hr3
      cases hr3
      have hq2 : ce_val ad (.inr (.inl q)) = .ref (ad t q.2) := by rw [← hq]; rfl
      rw [List.map_cons, List.map_cons, hq2]
      refine ce_put hx hb hts (fun w hw => List.mem_cons_of_mem _ (hcw w hw)) ty hty hnm hown hG.1 hr2 hr1 f hf (ce_wIn hts hw rfl) hfin (v := .int x) (by rw [hint]; rfl) (by rw [hint]; rfl) hd (fun H1 lc hl hO hz hoq => ?_)
      have w := hk _ _ _ _ _ h p e s m args below meth c D ca b0 ad0 S0 ad H1 (locs ++ [lc]) rls hC h61 hX ⟨hR.1.putI hv hso hfk hr1 hO hz hoq, ce_S_put hR.2.1 hz hoq hb0 hl, hR.2.2.1, ce_okS_sI hR.2.2.2.1, ce_okL_kept (fun _ => rfl) hR.2.2.2.2.1, ce_ag_kept (fun _ => rfl) hR.2.2.2.2.2⟩ (ce_okT_kept (fun _ => rfl) (ce_okT_tl (ce_okT_tl hT))) h1 h2
      rw [hp'] at w
      exact w
    · rw [if_neg hq] at h; cases h
  · cases h
theorem ok_putZ {t f ci ix wp N : Nat} {C : String} {T : u_T} {ty : Nat → FieldType} (hp : pcs.getD i 0 = pc) (hp' : pcs.getD (i + 1) 0 = pc + 3) (hd : decode cc pc = .ok (.putfield ix, 3)) (hso : ce_so t = 0) (hci : ∀ j, ce_ci t j = ci) (hc : vwCl[ci]? = some (C, T, N)) (hcw : ∀ w ∈ u_ws C T N, w ∈ ce_tw) (hty : ∀ k, k < N → parseFieldDescriptor (T k).2.2.1 = some (ty k)) (hnm : ∀ a, a < N → ∀ b, b < N → a ≠ b → (T a).2.1 ≠ (T b).2.1) (hf : f < N) (hfk : ce_fk t f = .inl ()) (hfin : (T f).2.2.2 = false) (hint : ty f = .boolean) (hw : lw_tbl[wp]? = some (Cond.fieldLink own ix (T f).1 (T f).2.1 (T f).2.2.1)) : ce_Ok l cc own nL rt d MC MS pcs i (o_putZ t f) := by
  intro nn ls st S k res h hk p e s m args below meth c D ca b0 ad0 S0 ad H locs rls hC h61 hX hR hT h1 h2
  obtain ⟨hx, hb, hml, hown, ⟨w0, hts⟩, hr, hlk, hG⟩ := id hC
  unfold o_putZ at h
  simp only [ce_bt] at h
  split at h
  · rename_i x q r
    by_cases hq : q.1 = t
    · rw [if_pos hq] at h
      by_cases hz01 : x = 0 ∨ x = 1
      · rw [if_pos hz01] at h
        have hv : q.2 < ce_C S t := by have := ce_okT_hd (ce_okT_tl hT); rw [← hq]; exact this
        rw [hp]
        obtain ⟨⟨ho, -, -⟩, hb0, -⟩ := hR.1.1 t q.2 hv (by rw [hso]; decide)
        obtain ⟨r', hr1, hr2⟩ := ho hso
        have hr3 := hr1
        rw [hci, hc] at hr3
        cases hr3
        have hq2 : ce_val ad (.inr (.inl q)) = .ref (ad t q.2) := by rw [← hq]; rfl
        rw [List.map_cons, List.map_cons, hq2]
        refine ce_put hx hb hts (fun w hw => List.mem_cons_of_mem _ (hcw w hw)) ty hty hnm hown hG.1 hr2 hr1 f hf (ce_wIn hts hw rfl) hfin (v := .int x) (by rw [hint]; rcases hz01 with rfl | rfl <;> decide) (by rw [hint]; rcases hz01 with rfl | rfl <;> decide) hd (fun H1 lc hl hO hz hoq => ?_)
        have w := hk _ _ _ _ _ h p e s m args below meth c D ca b0 ad0 S0 ad H1 (locs ++ [lc]) rls hC h61 hX ⟨hR.1.putI hv hso hfk hr1 hO hz hoq, ce_S_put hR.2.1 hz hoq hb0 hl, hR.2.2.1, ce_okS_sI hR.2.2.2.1, ce_okL_kept (fun _ => rfl) hR.2.2.2.2.1, ce_ag_kept (fun _ => rfl) hR.2.2.2.2.2⟩ (ce_okT_kept (fun _ => rfl) (ce_okT_tl (ce_okT_tl hT))) h1 h2
        rw [hp'] at w
        exact w
      · rw [if_neg hz01] at h; cases h
    · rw [if_neg hq] at h; cases h
  · cases h
theorem ok_putM {t f ci ix wp N t' : Nat} {C C' : String} {T : u_T} {ty : Nat → FieldType} (hp : pcs.getD i 0 = pc) (hp' : pcs.getD (i + 1) 0 = pc + 3) (hd : decode cc pc = .ok (.putfield ix, 3)) (hso : ce_so t = 0) (hci : ∀ j, ce_ci t j = ci) (hc : vwCl[ci]? = some (C, T, N)) (hcw : ∀ w ∈ u_ws C T N, w ∈ ce_tw) (hty : ∀ k, k < N → parseFieldDescriptor (T k).2.2.1 = some (ty k)) (hnm : ∀ a, a < N → ∀ b, b < N → a ≠ b → (T a).2.1 ≠ (T b).2.1) (hf : f < N) (hfk : ce_fk t f = .inr (.inr t')) (hfin : (T f).2.2.2 = false) (hint : ty f = .object C') (hw : lw_tbl[wp]? = some (Cond.fieldLink own ix (T f).1 (T f).2.1 (T f).2.2.1)) : ce_Ok l cc own nL rt d MC MS pcs i (o_putM t f t') := by
  intro nn ls st S k res h hk p e s m args below meth c D ca b0 ad0 S0 ad H locs rls hC h61 hX hR hT h1 h2
  obtain ⟨hx, hb, hml, hown, ⟨w0, hts⟩, hr, hlk, hG⟩ := id hC
  unfold o_putM at h
  simp only [ce_bt] at h
  split at h
  · rename_i v q r
    by_cases hq : q.1 = t
    · rw [if_pos hq] at h
      by_cases hv1 : v.1 = t'
      · rw [if_pos hv1] at h
        have hv : q.2 < ce_C S t := by have := ce_okT_hd (ce_okT_tl hT); rw [← hq]; exact this
        have hv' : v.2 < ce_C S t' := by have := ce_okT_hd hT; rw [← hv1]; exact this
        rw [hp]
        obtain ⟨⟨ho, -, -⟩, hb0, -⟩ := hR.1.1 t q.2 hv (by rw [hso]; decide)
        obtain ⟨r', hr1, hr2⟩ := ho hso
        have hr3 := hr1
        rw [hci, hc] at hr3
        cases hr3
        have hq2 : ce_val ad (.inr (.inl q)) = .ref (ad t q.2) := by rw [← hq]; rfl
        have hv2 : ce_val ad (.inr (.inl v)) = .ref (ad t' v.2) := by rw [← hv1]; rfl
        rw [List.map_cons, List.map_cons, hq2, hv2]
        refine ce_put hx hb hts (fun w hw => List.mem_cons_of_mem _ (hcw w hw)) ty hty hnm hown hG.1 hr2 hr1 f hf (ce_wIn hts hw rfl) hfin (v := .ref (ad t' v.2)) (by rw [hint]; rfl) (by rw [hint]; rfl) hd (fun H1 lc hl hO hz hoq => ?_)
        have w := hk _ _ _ _ _ h p e s m args below meth c D ca b0 ad0 S0 ad H1 (locs ++ [lc]) rls hC h61 hX ⟨hR.1.putR hv hso hfk hr1 hO hz hoq, ce_S_put hR.2.1 hz hoq hb0 hl, hR.2.2.1, ce_okS_sR hR.2.2.2.1 hfk hv', ce_okL_kept (fun _ => rfl) hR.2.2.2.2.1, ce_ag_kept (fun _ => rfl) hR.2.2.2.2.2⟩ (ce_okT_kept (fun _ => rfl) (ce_okT_tl (ce_okT_tl hT))) h1 h2
        rw [hp'] at w
        exact w
      · rw [if_neg hv1] at h; cases h
    · rw [if_neg hq] at h; cases h
  · cases h
end CEHO
end
section
/-! steps on rows, Math, instanceof -/
theorem ce_P1 {D : va_G} {cl : List vw_C} {q : Nat × va_E} {H : Heap} (h : va_at D cl q H) : va_P D cl [q] H := by
  intro k z hz
  cases k with
  | zero => cases hz; exact h
  | succ k => simp at hz
theorem ce_cat (st : List Value) : (st.map fun v => v.category).sum ≤ 2 * st.length := by
  induction st with
  | nil => simp
  | cons v r ih =>
    have : v.category ≤ 2 := by rcases lv_cat v with h | h <;> omega
    simp only [List.map_cons, List.sum_cons, List.length_cons]
    omega
theorem ce_cat8 {ad : Nat → Nat → Nat} {r : List ce_V} (h : r.length ≤ 4) : ((r.map (ce_val ad)).map fun v => v.category).sum ≤ 8 := by
  have := ce_cat (r.map (ce_val ad))
  rw [List.length_map] at this
  omega
theorem ce_H.putA {D : va_G} {ca : Nat → ClassId} {b0 : Nat → Prop} {ad : Nat → Nat → Nat} {S S' : ce_S} {t j : Nat} {H H1 : Heap} (h : ce_H D ca b0 ad S H) (hj : j < ce_C S t) (hso : ce_so t = 1) (hc : H1[ad t j]? = some (vp_cell (ca 0) (ce_len S t j, .inl (fun e => ce_A S' t j e)))) (hz : H1.size = H.size) (ho : ∀ q : Nat, q ≠ ad t j → H1[q]? = H[q]?) (hI : S'.1 = S.1) (hR : S'.2.1 = S.2.1) (hL : S'.2.2.2 = S.2.2.2) (hA : ∀ t' i', ¬ (t' = t ∧ i' = j) → ∀ e, ce_A S' t' i' e = ce_A S t' i' e) : ce_H D ca b0 ad S' H1 := by
  have hl : ∀ a b, ce_L S' a b = ce_L S a b := fun a b => by unfold ce_L; rw [hL]
  have hC : ∀ a, ce_C S' a = ce_C S a := fun a => by unfold ce_C; rw [hL]
  have hq : ∀ a b, ce_el S' a b = ce_el S a b := fun a b => by unfold ce_el ce_Q; rw [hL]
  refine h.set hj (by rw [hso]; decide) hz ho hC ⟨(fun h1 => by rw [hso] at h1; cases h1), fun _ => ?_, (fun h1 => by rw [hso] at h1; cases h1)⟩ (fun t' i' hne => ⟨fun k => by unfold ce_I; rw [hI], fun k => by unfold ce_R; rw [hR], hA t' i' hne, hl _ _, fun _ _ e => hq _ _⟩)
  rw [ce_len_kept (hl t j)]
  exact hc
def ce_kn (j : Nat) : String := match j with
  | 0 => RX3
  | 1 => RX2
  | 2 => RX8
  | 3 => RX7
  | 4 => RX0
  | _ => RX1
theorem ce_kn_ci (j : Nat) : ∃ T : u_T, vwCl[ce_ci 10 j]? = some (ce_kn j, T, 0) := by
  match j with
  | 0 => exact ⟨_, rfl⟩
  | 1 => exact ⟨_, rfl⟩
  | 2 => exact ⟨_, rfl⟩
  | 3 => exact ⟨_, rfl⟩
  | 4 => exact ⟨_, rfl⟩
  | n + 5 => exact ⟨_, rfl⟩
theorem ce_kn_in (j : Nat) : ce_kn j ∈ [RX0, RX1, RX2, RX3, RX7, RX8] := by
  match j with
  | 0 => exact List.mem_of_getElem? (i := 3) rfl
  | 1 => exact List.mem_of_getElem? (i := 2) rfl
  | 2 => exact List.mem_of_getElem? (i := 5) rfl
  | 3 => exact List.mem_of_getElem? (i := 4) rfl
  | 4 => exact List.mem_of_getElem? (i := 0) rfl
  | n + 5 => exact List.mem_of_getElem? (i := 1) rfl
def ce_isU (b : String) (j : Nat) : Int32 := if ce_kn j = b then 1 else if (ce_kn j, b) ∈ ce_castW then 1 else 0
section CERO
variable {l : Launch} {cc : ByteArray} {own : String} {nL : Nat} {rt : Option FieldType} {d MC MS : Nat} {pcs : List Nat} {i pc : Nat}
theorem ok_ild {t : Nat} (hp : pcs.getD i 0 = pc) (hp' : pcs.getD (i + 1) 0 = pc + 1) (hd : decode cc pc = .ok (.iaload, 1)) (hso : ce_so t = 1) : ce_Ok l cc own nL rt d MC MS pcs i (o_ild t) := by
  intro nn ls st S k res h hk p e s m args below meth c D ca b0 ad0 S0 ad H locs rls hC h61 hX hR hT h1 h2
  obtain ⟨hx, hb, hml, hown, ⟨w0, hts⟩, hr, hlk, hG⟩ := id hC
  unfold o_ild at h
  simp only [ce_bt] at h
  split at h
  · rename_i j q r
    by_cases hq : q.1 = t
    · rw [if_pos hq] at h
      by_cases hj : j < 0 ∨ ce_len S t q.2 ≤ j.toNatClampNeg
      · rw [if_pos hj] at h; cases h
      · rw [if_neg hj] at h
        have w := hk _ _ _ _ _ h p e s m args below meth c D ca b0 ad0 S0 ad H locs rls hC h61 hX hR (ce_okT_cons trivial (ce_okT_tl (ce_okT_tl hT))) h1 h2
        rw [hp'] at w
        rw [hp]
        have hv : q.2 < ce_C S t := by have := ce_okT_hd (ce_okT_tl hT); rw [← hq]; exact this
        obtain ⟨⟨-, ho, -⟩, -, -⟩ := hR.1.1 t q.2 hv (by rw [hso]; decide)
        have hq2 : ce_val ad (.inr (.inl q)) = .ref (ad t q.2) := by rw [← hq]; rfl
        rw [List.map_cons, List.map_cons, hq2]
        exact va_iald (D := D) (cl := vwCl) (ws := [(ad t q.2, .inl (ca 0, ce_len S t q.2, .inl (fun e => ce_A S t q.2 e)))]) hx hb hG.1 (ce_P1 (ho hso)) 0 0 rfl rfl hj hd w
    · rw [if_neg hq] at h; cases h
  · cases h
theorem ok_ist {t : Nat} (hp : pcs.getD i 0 = pc) (hp' : pcs.getD (i + 1) 0 = pc + 1) (hd : decode cc pc = .ok (.iastore, 1)) (hso : ce_so t = 1) : ce_Ok l cc own nL rt d MC MS pcs i (o_ist t) := by
  intro nn ls st S k res h hk p e s m args below meth c D ca b0 ad0 S0 ad H locs rls hC h61 hX hR hT h1 h2
  obtain ⟨hx, hb, hml, hown, ⟨w0, hts⟩, hr, hlk, hG⟩ := id hC
  unfold o_ist at h
  simp only [ce_bt] at h
  split at h
  · rename_i x j q r
    by_cases hq : q.1 = t
    · rw [if_pos hq] at h
      by_cases hj : j < 0 ∨ ce_len S t q.2 ≤ j.toNatClampNeg
      · rw [if_pos hj] at h; cases h
      · rw [if_neg hj] at h
        rw [hp]
        have hv : q.2 < ce_C S t := by have := ce_okT_hd (ce_okT_tl (ce_okT_tl hT)); rw [← hq]; exact this
        obtain ⟨⟨-, ho, -⟩, hb0, -⟩ := hR.1.1 t q.2 hv (by rw [hso]; decide)
        have hq2 : ce_val ad (.inr (.inl q)) = .ref (ad t q.2) := by rw [← hq]; rfl
        rw [List.map_cons, List.map_cons, List.map_cons, hq2]
        refine W.iast hx hb (ho hso) ((hG.1.2 0 _ rfl).1 _ (fun j => .int (ce_A S t q.2 j))) (fun q => by cases q) (by show ¬ (j < 0 ∨ (arrV _ _ _).slots.size ≤ _); rw [arrV_size]; exact hj) rfl rfl hd (fun H1 e1 e2 e3 => ?_)
        have hc : H1[ad t q.2]? = some (vp_cell (ca 0) (ce_len S t q.2, .inl (fun e => ce_A (ce_sA S t q.2 j.toNatClampNeg x) t q.2 e))) := by
          rw [e1, vp_cell_i, vp_cell_i, arrV_store]
          congr 2
          funext z
          unfold updV
          by_cases hz : z = j.toNatClampNeg
          · subst hz
            rw [if_pos rfl]
            exact congrArg Value.int (ce_u_eq S.2.2.1 t q.2 _ x).symm
          · rw [if_neg hz]
            exact congrArg Value.int (ce_u_ne S.2.2.1 x (fun y => hz y.2.2)).symm
        have w := hk _ _ _ _ _ h p e s m args below meth c D ca b0 ad0 S0 ad H1 _ rls hC h61 hX ⟨hR.1.putA hv hso hc e2 e3 rfl rfl rfl (fun t' i' hne e => ce_u_ne S.2.2.1 x (fun y => hne ⟨y.1, y.2.1⟩)), ce_S_put (lc := ⟨ad t q.2, j.toNatClampNeg⟩) hR.2.1 e2 e3 hb0 rfl, hR.2.2.1, ce_okS_sA hR.2.2.2.1, ce_okL_kept (fun _ => rfl) hR.2.2.2.2.1, ce_ag_kept (fun _ => rfl) hR.2.2.2.2.2⟩ (ce_okT_kept (fun _ => rfl) (ce_okT_tl (ce_okT_tl (ce_okT_tl hT)))) h1 h2
        rw [hp'] at w
        exact w
    · rw [if_neg hq] at h; cases h
  · cases h
theorem ok_alen {t : Nat} (hp : pcs.getD i 0 = pc) (hp' : pcs.getD (i + 1) 0 = pc + 1) (hd : decode cc pc = .ok (.arraylength, 1)) (hso : ce_so t = 1 ∨ ce_so t = 2 ∧ ce_ac t < 6) : ce_Ok l cc own nL rt d MC MS pcs i (o_alen t) := by
  intro nn ls st S k res h hk p e s m args below meth c D ca b0 ad0 S0 ad H locs rls hC h61 hX hR hT h1 h2
  obtain ⟨hx, hb, hml, hown, ⟨w0, hts⟩, hr, hlk, hG⟩ := id hC
  unfold o_alen at h
  simp only [ce_bt] at h
  split at h
  · rename_i q r
    by_cases hq : q.1 = t
    · rw [if_pos hq] at h
      have w := hk _ _ _ _ _ h p e s m args below meth c D ca b0 ad0 S0 ad H locs rls hC h61 hX hR (ce_okT_cons trivial (ce_okT_tl hT)) h1 h2
      rw [hp'] at w
      rw [hp]
      have hv : q.2 < ce_C S t := by have := ce_okT_hd hT; rw [← hq]; exact this
      have hq2 : ce_val ad (.inr (.inl q)) = .ref (ad t q.2) := by rw [← hq]; rfl
      rw [List.map_cons, hq2]
      rcases hso with hso | ⟨hso, hac⟩
      · obtain ⟨⟨-, ho, -⟩, -, -⟩ := hR.1.1 t q.2 hv (by rw [hso]; decide)
        exact va_alen (D := D) (cl := vwCl) (ws := [(ad t q.2, .inl (ca 0, ce_len S t q.2, .inl (fun e => ce_A S t q.2 e)))]) hx hb hG.1 (ce_P1 (ho hso)) 0 0 rfl rfl rfl hd w
      · obtain ⟨⟨-, -, ho⟩, -, -⟩ := hR.1.1 t q.2 hv (by rw [hso]; decide)
        have hty : ∃ ty, (ce_tys ca)[ce_ac t]? = some (ca (ce_ac t), ty) := by
          generalize ce_ac t = z at hac
          match z, hac with
          | 0, _ => exact ⟨_, rfl⟩
          | 1, _ => exact ⟨_, rfl⟩
          | 2, _ => exact ⟨_, rfl⟩
          | 3, _ => exact ⟨_, rfl⟩
          | 4, _ => exact ⟨_, rfl⟩
          | 5, _ => exact ⟨_, rfl⟩
          | n + 6, h => omega
        obtain ⟨ty, hty⟩ := hty
        exact va_alen (D := D) (cl := vwCl) (ws := [(ad t q.2, .inl (ca (ce_ac t), ce_len S t q.2, .inr (.inr (.inr (.inr (fun e => (ce_el S t e).map (ad (ce_et t))))))))]) hx hb hG.1 (ce_P1 (ho hso)) 0 (ce_ac t) rfl hty rfl hd w
    · rw [if_neg hq] at h; cases h
  · cases h
theorem ok_ald {t t' : Nat} {g : Nat → Nat} {ty : FieldType} (hp : pcs.getD i 0 = pc) (hp' : pcs.getD (i + 1) 0 = pc + 1) (hd : decode cc pc = .ok (.aaload, 1)) (hso : ce_so t = 2) (heg : ce_eg t = some g) (het : ce_et t = t') (hty : ∀ ca : Nat → ClassId, (ce_tys ca)[ce_ac t]? = some (ca (ce_ac t), ty)) (href : ty.isReference = true) : ce_Ok l cc own nL rt d MC MS pcs i (o_ald t t' g) := by
  intro nn ls st S k res h hk p e s m args below meth c D ca b0 ad0 S0 ad H locs rls hC h61 hX hR hT h1 h2
  obtain ⟨hx, hb, hml, hown, ⟨w0, hts⟩, hr, hlk, hG⟩ := id hC
  unfold o_ald at h
  simp only [ce_bt] at h
  split at h
  · rename_i j q r
    by_cases hq : q.1 = t
    · rw [if_pos hq] at h
      by_cases hj : j < 0 ∨ ce_len S t q.2 ≤ j.toNatClampNeg
      · rw [if_pos hj] at h; cases h
      · rw [if_neg hj] at h
        have hv : q.2 < ce_C S t := by have := ce_okT_hd (ce_okT_tl hT); rw [← hq]; exact this
        have hlt : j.toNatClampNeg < ce_len S t q.2 := Nat.not_le.mp fun q => hj (Or.inr q)
        have hel : ce_el S t j.toNatClampNeg = some (g j.toNatClampNeg) := by unfold ce_el; rw [heg]
        have w := hk _ _ _ _ _ h p e s m args below meth c D ca b0 ad0 S0 ad H locs rls hC h61 hX hR (ce_okT_cons (by show _ < ce_C S t'; rw [← het]; exact hR.2.2.2.1.2 t q.2 _ _ hv hso hlt hel) (ce_okT_tl (ce_okT_tl hT))) h1 h2
        rw [hp'] at w
        rw [hp]
        obtain ⟨⟨-, -, ho⟩, -, -⟩ := hR.1.1 t q.2 hv (by rw [hso]; decide)
        have hq2 : ce_val ad (.inr (.inl q)) = .ref (ad t q.2) := by rw [← hq]; rfl
        rw [List.map_cons, List.map_cons, hq2]
        exact W.aald (v := .ref (ad t' (g j.toNatClampNeg))) (ty := ty) hx hb (ho hso) ((hG.1.2 (ce_ac t) _ (hty ca)).1 _ (fun e => va_rf ((ce_el S t e).map (ad (ce_et t))))) href (fun q => by cases q) (by show ¬ (j < 0 ∨ (arrV _ _ _).slots.size ≤ _); rw [arrV_size]; exact hj) (by show (arrV _ _ _).slots[_]? = _; rw [arrV_read _ _ hlt]; show some (va_rf (Option.map (ad (ce_et t)) (ce_el S t j.toNatClampNeg))) = _; rw [hel, het]; rfl) rfl rfl hd w
    · rw [if_neg hq] at h; cases h
  · cases h
theorem ok_aldQ (hp : pcs.getD i 0 = pc) (hp' : pcs.getD (i + 1) 0 = pc + 1) (hd : decode cc pc = .ok (.aaload, 1)) : ce_Ok l cc own nL rt d MC MS pcs i o_aldQ := by
  intro nn ls st S k res h hk p e s m args below meth c D ca b0 ad0 S0 ad H locs rls hC h61 hX hR hT h1 h2
  obtain ⟨hx, hb, hml, hown, ⟨w0, hts⟩, hr, hlk, hG⟩ := id hC
  unfold o_aldQ at h
  simp only [ce_bt] at h
  split at h
  · rename_i j q r
    by_cases hq : q.1 = 5
    · rw [if_pos hq] at h
      by_cases hj : j < 0 ∨ 6 ≤ j.toNatClampNeg
      · rw [if_pos hj] at h; cases h
      · rw [if_neg hj] at h
        cases hQ : ce_Q S j.toNatClampNeg with
        | none => rw [hQ] at h; cases h
        | some x =>
          rw [hQ] at h
          have hv : q.2 < ce_C S 5 := by have := ce_okT_hd (ce_okT_tl hT); rw [← hq]; exact this
          have hlt : j.toNatClampNeg < ce_len S 5 q.2 := Nat.not_le.mp fun q => hj (Or.inr q)
          have hel : ce_el S 5 j.toNatClampNeg = some x := hQ
          have w := hk _ _ _ _ _ h p e s m args below meth c D ca b0 ad0 S0 ad H locs rls hC h61 hX hR (ce_okT_cons (hR.2.2.2.1.2 5 q.2 _ _ hv rfl hlt hel) (ce_okT_tl (ce_okT_tl hT))) h1 h2
          rw [hp'] at w
          rw [hp]
          obtain ⟨⟨-, -, ho⟩, -, -⟩ := hR.1.1 5 q.2 hv (by decide)
          have hq2 : ce_val ad (.inr (.inl q)) = .ref (ad 5 q.2) := by rw [← hq]; rfl
          rw [List.map_cons, List.map_cons, hq2]
          exact W.aald (v := .ref (ad 13 x)) (ty := .object RX10) hx hb (ho rfl) ((hG.1.2 3 _ rfl).1 _ (fun e => va_rf ((ce_el S 5 e).map (ad (ce_et 5))))) rfl (fun q => by cases q) (by show ¬ (j < 0 ∨ (arrV _ _ _).slots.size ≤ _); rw [arrV_size]; exact hj) (by show (arrV _ _ _).slots[_]? = _; rw [arrV_read _ _ hlt]; show some (va_rf (Option.map (ad (ce_et 5)) (ce_el S 5 j.toNatClampNeg))) = _; rw [hel]; rfl) rfl rfl hd w
    · rw [if_neg hq] at h; cases h
  · cases h
theorem ok_mmax {ix p1 p2 p3 p4 : Nat} (hp : pcs.getD i 0 = pc) (hp' : pcs.getD (i + 1) 0 = pc + 3) (hd : decode cc pc = .ok (.invokestatic ix, 3)) (hD : 1 ≤ d) (g1 : lw_tbl[p1]? = some (Cond.methodLink own ix Lib.Math.max.name)) (g2 : lw_tbl[p2]? = some (Cond.static Lib.Math.max.name)) (g3 : lw_tbl[p3]? = some (Cond.initialized "java/lang/Math")) (g4 : lw_tbl[p4]? = some (Cond.code Lib.Math.max.name Lib.Math.max.code 2 (some .int))) : ce_Ok l cc own nL rt d MC MS pcs i o_mmax := by
  intro nn ls st S k res h hk p e s m args below meth c D ca b0 ad0 S0 ad H locs rls hC h61 hX hR hT h1 h2
  obtain ⟨hx, hb, hml, hown, ⟨w0, hts⟩, hr, hlk, hG⟩ := id hC
  unfold o_mmax at h
  simp only [ce_bl] at h
  split at h
  · rename_i y x r
    by_cases hl : r.length ≤ 4
    · rw [if_pos hl] at h
      have w := hk _ _ _ _ _ h p e s m args below meth c D ca b0 ad0 S0 ad H locs rls hC h61 hX hR (ce_okT_cons trivial (ce_okT_tl (ce_okT_tl hT))) h1 h2
      rw [hp'] at w
      rw [hp]
      have h8 := ce_cat8 (ad := ad) hl
      exact va_mmax hx hb (hml.trans hR.2.2.1.1.symm) hown (ce_wIn hts g1 rfl) (ce_wIn hts g2 rfl) (ce_wIn hts g3 rfl) (ce_wIn hts g4 rfl) hD (by show _ ≤ 60 * d; omega) h1 h2 hd w
    · rw [if_neg hl] at h; cases h
  · cases h
theorem ok_mmin {ix p1 p2 p3 p4 : Nat} (hp : pcs.getD i 0 = pc) (hp' : pcs.getD (i + 1) 0 = pc + 3) (hd : decode cc pc = .ok (.invokestatic ix, 3)) (hD : 1 ≤ d) (g1 : lw_tbl[p1]? = some (Cond.methodLink own ix Lib.Math.min.name)) (g2 : lw_tbl[p2]? = some (Cond.static Lib.Math.min.name)) (g3 : lw_tbl[p3]? = some (Cond.initialized "java/lang/Math")) (g4 : lw_tbl[p4]? = some (Cond.code Lib.Math.min.name Lib.Math.min.code 2 (some .int))) : ce_Ok l cc own nL rt d MC MS pcs i o_mmin := by
  intro nn ls st S k res h hk p e s m args below meth c D ca b0 ad0 S0 ad H locs rls hC h61 hX hR hT h1 h2
  obtain ⟨hx, hb, hml, hown, ⟨w0, hts⟩, hr, hlk, hG⟩ := id hC
  unfold o_mmin at h
  simp only [ce_bl] at h
  split at h
  · rename_i y x r
    by_cases hl : r.length ≤ 4
    · rw [if_pos hl] at h
      have w := hk _ _ _ _ _ h p e s m args below meth c D ca b0 ad0 S0 ad H locs rls hC h61 hX hR (ce_okT_cons trivial (ce_okT_tl (ce_okT_tl hT))) h1 h2
      rw [hp'] at w
      rw [hp]
      have h8 := ce_cat8 (ad := ad) hl
      exact va_mmin hx hb (hml.trans hR.2.2.1.1.symm) hown (ce_wIn hts g1 rfl) (ce_wIn hts g2 rfl) (ce_wIn hts g3 rfl) (ce_wIn hts g4 rfl) hD (by show _ ≤ 60 * d; omega) h1 h2 hd w
    · rw [if_neg hl] at h; cases h
  · cases h
theorem ok_inst {ix wp : Nat} {nm : String} {f : Nat → Int32} (hp : pcs.getD i 0 = pc) (hp' : pcs.getD (i + 1) 0 = pc + 3) (hd : decode cc pc = .ok (.instanceof ix, 3)) (hnm : nm ∈ [RX2, RX8, RX7, RX0, RX1]) (hf : ∀ j, f j = ce_isU nm j) (hw : lw_tbl[wp]? = some (Cond.classLink own ix nm)) : ce_Ok l cc own nL rt d MC MS pcs i (o_inst f) := by
  intro nn ls st S k res h hk p e s m args below meth c D ca b0 ad0 S0 ad H locs rls hC h61 hX hR hT h1 h2
  obtain ⟨hx, hb, hml, hown, ⟨w0, hts⟩, hr, hlk, hG⟩ := id hC
  unfold o_inst at h
  simp only [ce_bt] at h
  split at h
  · rename_i q r
    by_cases hq : q.1 = 10
    · rw [if_pos hq] at h
      have w := hk _ _ _ _ _ h p e s m args below meth c D ca b0 ad0 S0 ad H locs rls hC h61 hX hR (ce_okT_cons trivial (ce_okT_tl hT)) h1 h2
      rw [hp', hf] at w
      rw [hp]
      have hv : q.2 < ce_C S 10 := by have := ce_okT_hd hT; rw [← hq]; exact this
      obtain ⟨⟨ho, -, -⟩, -, -⟩ := hR.1.1 10 q.2 hv (by decide)
      obtain ⟨r', hr1, cell, c1, c2, c3, c4⟩ := ho rfl
      obtain ⟨T, hT2⟩ := ce_kn_ci q.2
      have hcls := (hG.1.1 _ _ hT2).2
      have hrc : ∃ cell : Cell, H[ad 10 q.2]? = some cell ∧ cell.vm.isStatics = false ∧ s.vm.findClass (ce_kn q.2) = some cell.cls := ⟨cell, c1, by rw [c3]; rfl, by rw [c2]; exact hcls.1⟩
      have hq2 : ce_val ad (.inr (.inl q)) = .ref (ad 10 q.2) := by rw [← hq]; rfl
      rw [List.map_cons, hq2]
      unfold ce_isU at w
      by_cases e1 : ce_kn q.2 = nm
      · rw [if_pos e1] at w
        exact va_instE hx hb hown (ce_wIn hts hw rfl) (by rw [← e1]; exact hrc) hd w
      · rw [if_neg e1] at w
        by_cases e2 : (ce_kn q.2, nm) ∈ ce_castW
        · rw [if_pos e2] at w
          exact va_instY hx hb hown (ce_wIn hts hw rfl) (hG.2.2.1 _ e2) hrc hd w
        · rw [if_neg e2] at w
          rcases hG.2.2.2 _ (ce_kn_in q.2) _ hnm with e3 | e3 | e3
          · exact absurd e3 e1
          · exact absurd e3 e2
          · exact va_instNo hx hb hown (ce_wIn hts hw rfl) e3 hrc hd w
    · rw [if_neg hq] at h; cases h
  · cases h
end CERO
end
section
/-! contracts, and calls by them -/
def ce_Pre (D : va_G) (ca : Nat → ClassId) (b0 : Nat → Prop) (ad : Nat → Nat → Nat) (S : ce_S) (U : State) : Prop := ce_G D ca U ∧ ce_X ad b0 U ∧ ce_H D ca b0 ad S U.heap
def ce_Ctr (l : Launch) (y : MethodName) (cc : ByteArray) (nL : Nat) (rt : Option FieldType) (d MC MS : Nat) (F : List ce_V → ce_S → ce_Rs) : Prop :=
  ∀ (D : va_G) (ca : Nat → ClassId) (b0 : Nat → Prop) (ad : Nat → Nat → Nat) (S : ce_S) (a : List ce_V) (res : Option ce_V × ce_S), F a S = some res → ce_okS S → ce_okT S a → ce_61 S →
    Met l y (Cond.code y cc nL rt :: ce_tw) (ce_rm d MC MS) (va_Pc (a.map (ce_val ad)) (ce_Pre D ca b0 ad S)) (ce_Po D ca b0 ad S res) MC MS (fun q => b0 q)
theorem ce_blind {D : va_G} {ca : Nat → ClassId} {b0 : Nat → Prop} {ad : Nat → Nat → Nat} {S : ce_S} {av : List Value} : FrameBlind (va_Pc av (ce_Pre D ca b0 ad S)) := by
  intro a U g mk h
  exact ⟨h.1, h.2.1.same rfl, h.2.2.1.same rfl rfl, h.2.2.2⟩
theorem ce_args_lv {ad : Nat → Nat → Nat} {nL : Nat} {a : List ce_V} (hc : ∀ v ∈ a, (ce_val ad v).category = 1) (hn : a.length ≤ nL) : ce_lv ad ((lg_sl (a.map (ce_val ad)) ++ List.replicate (nL - (lg_sl (a.map (ce_val ad))).length) Slot.unset).toArray) nL (a.map some ++ List.replicate (nL - a.length) none) := by
  have hs : ∀ (b : List ce_V), (∀ v ∈ b, (ce_val ad v).category = 1) → lg_sl (b.map (ce_val ad)) = b.map (fun v => Slot.val (ce_val ad v)) := by
    intro b
    induction b with
    | nil => intro _; rfl
    | cons v r ih =>
      intro h
      have h1 := ih (fun w hw => h w (List.mem_cons_of_mem _ hw))
      have h2 := h v List.mem_cons_self
      unfold lg_sl at h1 ⊢
      rw [List.map_cons, List.flatMap_cons, h1, if_neg (by rw [h2]; decide)]
      rfl
  have hl : (lg_sl (a.map (ce_val ad))).length = a.length := by rw [hs a hc, List.length_map]
  obtain ⟨h1, h2, -⟩ := lv_entry (a.map (ce_val ad)) (n := nL) (by rw [hl]; exact hn)
  refine ⟨h1, h2, by simp; omega, fun j v hv => ?_⟩
  have hj : j < a.length := by
    rcases Nat.lt_or_ge j a.length with q | q
    · exact q
    · rw [List.getElem?_append_right (by simpa using q), List.getElem?_replicate] at hv
      split at hv <;> cases hv
  rw [List.getElem?_append_left (by simpa using hj), List.getElem?_map, List.getElem?_eq_getElem hj] at hv
  have hv2 : a[j] = v := by simpa using hv
  subst hv2
  refine ⟨?_, hc _ (List.getElem_mem hj)⟩
  rw [List.getElem?_toArray, List.getElem?_append_left (by rw [hl]; exact hj), hs a hc, List.getElem?_map, List.getElem?_eq_getElem hj]
  rfl
/-- a method's contract, by a run of its steps -/
theorem ce_ctr_of {l : Launch} {y : MethodName} {cc : ByteArray} {nL : Nat} {rt : Option FieldType} {d MC MS : Nat} {pcs : List Nat} {tb : List ce_Op} {F : List ce_V → ce_S → ce_Rs} (hy : plainName y.cls = true) (h0 : pcs.getD 0 0 = 0) (hok : ce_OkL l cc y.cls nL rt d MC MS pcs 0 tb)
    (hF : ∀ (a : List ce_V) (S : ce_S) (res : Option ce_V × ce_S), F a S = some res → a.length ≤ nL ∧ (∀ v ∈ a, ∀ x, v ≠ .inr (.inr x)) ∧ ∃ n, ce_run tb n 0 (0, 0) (a.map some ++ List.replicate (nL - a.length) none) [] S = some res) : ce_Ctr l y cc nL rt d MC MS F := by
  intro D ca b0 ad S a res hf hS hT h61
  obtain ⟨hn, hc, n, hr⟩ := hF a S res hf
  refine Met.ofW (cc := cc) (maxL := nL) (ret := rt) hy rfl ?_
  intro p e s m args below meth c s₁ B hml hv
  obtain ⟨rfl, hG, hX, hH⟩ := hv
  have hts := atoms_spec (ws := Cond.code y cc nL rt :: ce_tw) B.pre
  have hown : s.vm.findClass y.cls = some m.cls := findClass_of_methodNamed B.named
  have hcat : ∀ v ∈ a, (ce_val ad v).category = 1 := by
    intro v hv
    have := hc v hv
    match v, this with
    | .inl x, _ => rfl
    | .inr (.inl q), _ => rfl
    | .inr (.inr x), h => exact absurd rfl (h x)
  rw [lg_entry_eq]
  have w := ce_run_ok hok n 0 (0, 0) _ [] S res hr p e s m _ below meth c D ca b0 ad S ad s.heap [] _ ⟨B.exec, B.bytes, hml, hown, ⟨_, hts⟩, B.returns, B.notSynchronized, hG⟩ h61 hX ⟨hH, va_S.rf, ce_args_lv hcat hn, hS, fun j v hj => ?_, ce_ag.refl⟩ (fun v hv => by cases hv) (Nat.zero_le _) (Nat.zero_le _)
  · rw [h0] at w
    exact w
  · have hjl : j < a.length := by
      rcases Nat.lt_or_ge j a.length with q | q
      · exact q
      · rw [List.getElem?_append_right (by simpa using q), List.getElem?_replicate] at hj
        split at hj <;> cases hj
    rw [List.getElem?_append_left (by simpa using hjl), List.getElem?_map, List.getElem?_eq_getElem hjl] at hj
    have hv2 : a[j] = v := by simpa using hj
    subst hv2
    exact hT _ (List.getElem_mem hjl)
/-- behind a call -/
theorem ce_call {p : Program} {l : Launch} {e : Env} {R : Room} {s : State} {m : MethodId} {args : Array Value} {below : List Frame} {meth : Method} {c : Code} {H : Heap} {locs : List Loc} {cells slots mc ms pc : Nat} {Q : State → Prop} {rls : Array Slot} {rest st0 : List Value} {av : Array Value} {D : va_G} {ca : Nat → ClassId} {b0 : Nat → Prop} {ad : Nat → Nat → Nat} {S : ce_S} {res : Option ce_V × ce_S}
    (hr : va_Run p l e R s m args below meth c H locs cells slots mc ms (F0 m pc rls st0) rest (ce_Po D ca b0 ad S res av) (fun q => b0 q)) (hS : va_S (fun q => b0 q) s.heap H locs)
    (kk : ∀ (ad' : Nat → Nat → Nat) (H1 : Heap) (locs1 : List Loc), ce_ag S ad res.2 ad' → ce_okS res.2 → (∀ v, res.1 = some v → ce_okV res.2 v) → ce_H D ca b0 ad' res.2 H1 → va_S (fun q => b0 q) s.heap H1 locs1 → W p l e R s m args below meth c H1 locs1 (cells + mc) (slots + ms) Q (F0 m (pc + 3) rls ((res.1.map (ce_val ad')).toList ++ rest))) : W p l e R s m args below meth c H locs cells slots Q (F0 m pc rls st0) := by
  intro T hT X
  obtain ⟨v, st₀, t, T', L, h0, X', hL, e1, e2, ⟨ad', h1, h2, h3, h4, h5, hz, hk⟩, st⟩ := hr T hT X
  cases h2
  rw [h0] at hz hk
  obtain ⟨t2, a1, b1⟩ := kk ad' T'.heap (locs ++ L) h1 h3 h4 (by rw [e1]; exact h5)
    ⟨Nat.le_trans hS.1 (by rw [e1]; exact hz), fun q g1 g2 => by rw [e1, hk q (Nat.lt_of_lt_of_le g1 hS.1) g2]; exact hS.2.1 q g1 g2, fun q hq => by
      rcases List.mem_append.mp hq with h | h
      · exact hS.2.2 q h
      · exact hL q h⟩ T' rfl X'
  exact ⟨t2, st t2 a1, b1⟩
theorem ce_val_ag {S S' : ce_S} {ad ad' : Nat → Nat → Nat} (h : ce_ag S ad S' ad') {v : ce_V} (hv : ce_okV S v) : ce_val ad' v = ce_val ad v := by
  match v, hv with
  | .inl x, _ => rfl
  | .inr (.inl q), hv => exact congrArg Value.ref (h q.1 q.2 hv).1
  | .inr (.inr x), _ => rfl
theorem ce_okV_ag {S S' : ce_S} {ad ad' : Nat → Nat → Nat} (h : ce_ag S ad S' ad') {v : ce_V} (hv : ce_okV S v) : ce_okV S' v := by
  match v, hv with
  | .inl x, _ => trivial
  | .inr (.inl q), hv => exact (h q.1 q.2 hv).2
  | .inr (.inr x), _ => trivial
theorem ce_map_ag {S S' : ce_S} {ad ad' : Nat → Nat → Nat} (h : ce_ag S ad S' ad') {st : List ce_V} (hv : ce_okT S st) : st.map (ce_val ad') = st.map (ce_val ad) := List.map_congr_left (fun v hq => ce_val_ag h (hv v hq))
theorem ce_lv_ag {S S' : ce_S} {ad ad' : Nat → Nat → Nat} (h : ce_ag S ad S' ad') {rls : Array Slot} {nL : Nat} {ls : List (Option ce_V)} (hl : ce_lv ad rls nL ls) (ho : ce_okL S ls) : ce_lv ad' rls nL ls := ⟨hl.1, hl.2.1, hl.2.2.1, fun j v hj => by rw [ce_val_ag h (ho j v hj)]; exact hl.2.2.2 j v hj⟩
theorem ce_ag.trans {S0 S S' : ce_S} {ad0 ad ad' : Nat → Nat → Nat} (h0 : ce_ag S0 ad0 S ad) (h : ce_ag S ad S' ad') : ce_ag S0 ad0 S' ad' := fun t i hi => by
  obtain ⟨g1, g2⟩ := h0 t i hi
  obtain ⟨k1, k2⟩ := h t i g2
  exact ⟨k1.trans g1, k2⟩
/-- what a calling step does, whatever comes back -/
def ce_isC (op : ce_Op) (n mc ms MC MS : Nat) (F : List ce_V → ce_S → ce_Rs) : Prop := ∀ (i : Nat) (nn : Nat × Nat) (ls : List (Option ce_V)) (st : List ce_V) (S : ce_S) (k : ce_K) (res : Option ce_V × ce_S), op i nn ls st S k = some res →
  nn.1 + mc ≤ MC ∧ nn.2 + ms ≤ MS ∧ (st.drop n).length ≤ 4 ∧ n ≤ st.length ∧ ∃ (r : Option ce_V) (S' : ce_S), F (st.take n).reverse S = some (r, S') ∧ k (i + 1) (nn.1 + mc, nn.2 + ms) ls (r.toList ++ st.drop n) S' = some res
def ce_wV (F : List ce_V → ce_S → Option ce_S) : List ce_V → ce_S → ce_Rs := fun a S => (F a S).bind fun S' => some (none, S')
def ce_wI (F : List ce_V → ce_S → Option (Int32 × ce_S)) : List ce_V → ce_S → ce_Rs := fun a S => (F a S).bind fun q => some (some (.inl q.1), q.2)
def ce_wL (F : List ce_V → ce_S → Option (Int64 × ce_S)) : List ce_V → ce_S → ce_Rs := fun a S => (F a S).bind fun q => some (some (.inr (.inr q.1)), q.2)
def ce_wR (t : Nat) (F : List ce_V → ce_S → Option (Nat × ce_S)) : List ce_V → ce_S → ce_Rs := fun a S => (F a S).bind fun q => some (some (.inr (.inl (t, q.1))), q.2)
theorem is_cv {n mc ms MC MS : Nat} {F : List ce_V → ce_S → Option ce_S} : ce_isC (o_cv n F mc ms MC MS) n mc ms MC MS (ce_wV F) := by
  intro i nn ls st S k res h
  unfold o_cv at h
  rw [ce_bc] at h
  by_cases hc : nn.1 + mc ≤ MC ∧ nn.2 + ms ≤ MS ∧ (st.drop n).length ≤ 4 ∧ n ≤ st.length
  · rw [if_pos hc] at h
    refine ⟨hc.1, hc.2.1, hc.2.2.1, hc.2.2.2, ?_⟩
    cases hF : F (st.take n).reverse S with
    | none => rw [hF] at h; cases h
    | some S' => rw [hF] at h; exact ⟨none, S', by unfold ce_wV; rw [hF]; rfl, h⟩
  · rw [if_neg hc] at h; cases h
theorem is_ci {n mc ms MC MS : Nat} {F : List ce_V → ce_S → Option (Int32 × ce_S)} : ce_isC (o_ci n F mc ms MC MS) n mc ms MC MS (ce_wI F) := by
  intro i nn ls st S k res h
  unfold o_ci at h
  rw [ce_bc] at h
  by_cases hc : nn.1 + mc ≤ MC ∧ nn.2 + ms ≤ MS ∧ (st.drop n).length ≤ 4 ∧ n ≤ st.length
  · rw [if_pos hc] at h
    refine ⟨hc.1, hc.2.1, hc.2.2.1, hc.2.2.2, ?_⟩
    cases hF : F (st.take n).reverse S with
    | none => rw [hF] at h; cases h
    | some q => rw [hF] at h; exact ⟨some (.inl q.1), q.2, by unfold ce_wI; rw [hF]; rfl, h⟩
  · rw [if_neg hc] at h; cases h
theorem is_cl {n mc ms MC MS : Nat} {F : List ce_V → ce_S → Option (Int64 × ce_S)} : ce_isC (o_cl n F mc ms MC MS) n mc ms MC MS (ce_wL F) := by
  intro i nn ls st S k res h
  unfold o_cl at h
  rw [ce_bc] at h
  by_cases hc : nn.1 + mc ≤ MC ∧ nn.2 + ms ≤ MS ∧ (st.drop n).length ≤ 4 ∧ n ≤ st.length
  · rw [if_pos hc] at h
    refine ⟨hc.1, hc.2.1, hc.2.2.1, hc.2.2.2, ?_⟩
    cases hF : F (st.take n).reverse S with
    | none => rw [hF] at h; cases h
    | some q => rw [hF] at h; exact ⟨some (.inr (.inr q.1)), q.2, by unfold ce_wL; rw [hF]; rfl, h⟩
  · rw [if_neg hc] at h; cases h
theorem is_cr {n t mc ms MC MS : Nat} {F : List ce_V → ce_S → Option (Nat × ce_S)} : ce_isC (o_cr n t F mc ms MC MS) n mc ms MC MS (ce_wR t F) := by
  intro i nn ls st S k res h
  unfold o_cr at h
  rw [ce_bc] at h
  by_cases hc : nn.1 + mc ≤ MC ∧ nn.2 + ms ≤ MS ∧ (st.drop n).length ≤ 4 ∧ n ≤ st.length
  · rw [if_pos hc] at h
    refine ⟨hc.1, hc.2.1, hc.2.2.1, hc.2.2.2, ?_⟩
    cases hF : F (st.take n).reverse S with
    | none => rw [hF] at h; cases h
    | some q => rw [hF] at h; exact ⟨some (.inr (.inl (t, q.1))), q.2, by unfold ce_wR; rw [hF]; rfl, h⟩
  · rw [if_neg hc] at h; cases h
theorem ce_gIn {w0 : Cond} {y' : MethodName} {cc' : ByteArray} {n' : Nat} {r' : Option FieldType} {ex : List Cond} (h : Cond.code y' cc' n' r' ∈ ce_tw) (he : ∀ w ∈ ex, w ∈ ce_tw) : GoodIn (w0 :: ce_tw) (ex ++ (Cond.code y' cc' n' r' :: ce_tw)) := by
  have g : ∀ w ∈ ce_tw, w ∈ (w0 :: ce_tw) ∧ ((w.onTables && w.keeps) = true ∨ ∃ ty, w = .arrayClass ty) := fun w hw => ⟨List.mem_cons_of_mem _ hw, good_of_word (List.mem_filter.mp hw).2⟩
  intro w hw
  rcases List.mem_append.mp hw with hw | hw
  · exact g w (he w hw)
  · rcases List.mem_cons.mp hw with e | hw
    · subst e; exact g _ h
    · exact g w hw
theorem ce_tw_at {n : Nat} {w : Cond} (h : lw_tbl[n]? = some w) (g : goodWord w = true) : w ∈ ce_tw := ce_tw_in (List.mem_of_getElem? h) g
/-- a callee by its contract; what a call of it needs of the tables, but for how it is named -/
def ce_callee (l : Launch) (y : MethodName) (n d mc ms : Nat) (F : List ce_V → ce_S → ce_Rs) : Prop := ∃ (cc : ByteArray) (nL : Nat) (rt : Option FieldType), ce_Ctr l y cc nL rt d mc ms F ∧ Cond.code y cc nL rt ∈ ce_tw ∧ nL ≤ 41 ∧ y.cls ≠ "java/lang/invoke/MethodHandle" ∧ y.cls ≠ "java/lang/invoke/VarHandle" ∧ (parseMethodDescriptor y.desc).map (fun d => d.parameters.length) = some n
section CEC
variable {l : Launch} {cc : ByteArray} {own : String} {nL : Nat} {rt : Option FieldType} {d MC MS : Nat} {pcs : List Nat} {i pc : Nat}
theorem ok_static {op : ce_Op} {y : MethodName} {n d' mc ms ix p1 p2 p3 : Nat} {F : List ce_V → ce_S → ce_Rs} (hop : ce_isC op n mc ms MC MS F) (hp : pcs.getD i 0 = pc) (hp' : pcs.getD (i + 1) 0 = pc + 3) (hd : decode cc pc = .ok (.invokestatic ix, 3)) (hD : d' < d) (hy : y.cls = own) (hc : ce_callee l y n d' mc ms F) (g1 : lw_tbl[p1]? = some (Cond.methodLink own ix y)) (g2 : lw_tbl[p2]? = some (Cond.static y)) (g3 : lw_tbl[p3]? = some (Cond.initialized own)) : ce_Ok l cc own nL rt d MC MS pcs i op := by
  intro nn ls st S k res h hk p e s m args below meth c D ca b0 ad0 S0 ad H locs rls hC h61 hX hR hT h1 h2
  obtain ⟨hx, hb, hml, hown, ⟨w0, hts⟩, hr, hlk, hG⟩ := id hC
  obtain ⟨a1, a2, a3, a4, r, S', hF, hk2⟩ := hop i nn ls st S k res h
  obtain ⟨cc', nL', rt', hctr, hcode, hnl, hm1, hm2, hlen⟩ := hc
  have hTa : ce_okT S (st.take n).reverse := fun v hv => hT v (List.mem_of_mem_take (List.mem_reverse.mp hv))
  have hTr : ce_okT S (st.drop n) := fun v hv => hT v (List.mem_of_mem_drop hv)
  have hM := hctr D ca b0 ad S _ _ hF hR.2.2.2.1 hTa ⟨Nat.le_of_not_lt fun q => by { have h61 := h61.1; have := (hR.2.2.2.2.2 61 (ce_C S 61) (by omega)).2; omega }, Nat.le_of_not_lt fun q => by { have h61 := h61.2; have := (hR.2.2.2.2.2 62 (ce_C S 62) (by omega)).2; omega }⟩
  rw [hp]
  have hst : st.map (ce_val ad) = ((st.take n).reverse.map (ce_val ad)).reverse ++ (st.drop n).map (ce_val ad) := by
    rw [← List.map_reverse, List.reverse_reverse, ← List.map_append, List.take_append_drop]
  rw [hst]
  refine ce_call (va_runS (As := (st.take n).reverse.map (ce_val ad)) (rest := (st.drop n).map (ce_val ad)) ⟨hx, hb, hml, hown, hts⟩ hM (cwS n hts (ce_gIn (ex := [.methodLink own ix y, .static y, .initialized own]) hcode (by
      intro w hw
      rcases List.mem_cons.mp hw with e | hw
      · subst e; exact ce_tw_at g1 rfl
      rcases List.mem_cons.mp hw with e | hw
      · subst e; exact ce_tw_at g2 rfl
      rcases List.mem_cons.mp hw with e | hw
      · subst e; exact ce_tw_at g3 rfl
      · cases hw)) rfl rfl rfl ⟨hy, hm1, hm2, hlen⟩ ⟨hD, by show 8 + (nL' + 11) + 60 * d' ≤ 60 * d; omega⟩) ⟨ce_blind, fun U hU hW => ⟨rfl, hG.warm hW, (hX.agree (fun j hj => ⟨(hR.2.2.2.2.2 61 j (Nat.lt_of_lt_of_le hj h61.1)).1, (hR.2.2.2.2.2 62 j (Nat.lt_of_lt_of_le hj h61.2)).1⟩)).warm hW (by rw [hU]; exact hR.2.1.1) (fun q g1 g2 => by rw [hU]; exact hR.2.1.2.1 q g1 g2), by rw [hU]; exact hR.1⟩⟩ rfl (by simp; omega) hR.2.2.1.1 rfl (lv_room (ce_cat8 a3)) hd ⟨a1, a2⟩) hR.2.1 (fun ad' H1 locs1 k1 k2 k3 k4 k5 => ?_)
  have w := hk _ _ _ _ _ hk2 p e s m args below meth c D ca b0 ad0 S0 ad' H1 locs1 rls hC h61 hX ⟨k4, k5, ce_lv_ag k1 hR.2.2.1 hR.2.2.2.2.1, k2, fun j v hj => ce_okV_ag k1 (hR.2.2.2.2.1 j v hj), hR.2.2.2.2.2.trans k1⟩ (fun v hv => by
    rcases List.mem_append.mp hv with q | q
    · exact k3 v (Option.mem_toList.mp q)
    · exact ce_okV_ag k1 (hTr v q)) a1 a2
  rw [hp', List.map_append, ce_map_ag k1 hTr] at w
  have e : (Option.map (ce_val ad') r).toList = r.toList.map (ce_val ad') := by cases r <;> rfl
  show W _ _ _ _ _ _ _ _ _ _ _ _ _ _ _ (F0 m (pc + 3) rls ((Option.map (ce_val ad') r).toList ++ _))
  rw [e]
  exact w
end CEC
end
section
/-! calls on an object: by its own kind, by what it is under, by a nest mate -/
theorem ce_h61 {S0 S : ce_S} {ad0 ad : Nat → Nat → Nat} (h : ce_ag S0 ad0 S ad) (h61 : ce_61 S0) : ce_61 S := ⟨Nat.le_of_not_lt fun q => by { have h61 := h61.1; have := (h 61 (ce_C S 61) (by omega)).2; omega }, Nat.le_of_not_lt fun q => by { have h61 := h61.2; have := (h 62 (ce_C S 62) (by omega)).2; omega }⟩
/-- what stays is put together behind any call -/
theorem ce_after {l : Launch} {cc : ByteArray} {own : String} {nL : Nat} {rt : Option FieldType} {d MC MS : Nat} {pcs : List Nat} {i pc n mc ms : Nat} {nn : Nat × Nat} {ls : List (Option ce_V)} {st : List ce_V} {S S' : ce_S} {k : ce_K} {res : Option ce_V × ce_S} {r : Option ce_V} {p : Program} {e : Env} {s : State} {m : MethodId} {args : Array Value} {below : List Frame} {meth : Method} {c : Code} {D : va_G} {ca : Nat → ClassId} {b0 : Nat → Prop} {ad0 : Nat → Nat → Nat} {S0 : ce_S} {ad : Nat → Nat → Nat} {H : Heap} {locs : List Loc} {rls : Array Slot} {av : Array Value}
    (hp' : pcs.getD (i + 1) 0 = pc + 3) (hk : ∀ i' nn' ls' st' S', k i' nn' ls' st' S' = some res → ce_Wn l cc own nL rt d MC MS pcs res i' nn' ls' st' S') (hC : ce_Cx p s m args meth c cc own nL rt D ca) (h61 : ce_61 S0) (hX : ce_X ad0 b0 s) (hR : ce_Rel D ca b0 ad0 S0 ad s H locs rls nL ls S) (hTr : ce_okT S (st.drop n)) (a1 : nn.1 + mc ≤ MC) (a2 : nn.2 + ms ≤ MS) (hk2 : k (i + 1) (nn.1 + mc, nn.2 + ms) ls (r.toList ++ st.drop n) S' = some res)
    (hr : va_Run p l e (ce_rm d MC MS) s m args below meth c H locs nn.1 nn.2 mc ms (F0 m pc rls (st.map (ce_val ad))) ((st.drop n).map (ce_val ad)) (ce_Po D ca b0 ad S (r, S') av) (fun q => b0 q)) : W p l e (ce_rm d MC MS) s m args below meth c H locs nn.1 nn.2 (MQ below (ce_Po D ca b0 ad0 S0 res) args s MC MS (fun q => b0 q)) (F0 m pc rls (st.map (ce_val ad))) := by
  refine ce_call hr hR.2.1 (fun ad' H1 locs1 k1 k2 k3 k4 k5 => ?_)
  have w := hk _ _ _ _ _ hk2 p e s m args below meth c D ca b0 ad0 S0 ad' H1 locs1 rls hC h61 hX ⟨k4, k5, ce_lv_ag k1 hR.2.2.1 hR.2.2.2.2.1, k2, fun j v hj => ce_okV_ag k1 (hR.2.2.2.2.1 j v hj), hR.2.2.2.2.2.trans k1⟩ (fun v hv => by
    rcases List.mem_append.mp hv with q | q
    · exact k3 v (Option.mem_toList.mp q)
    · exact ce_okV_ag k1 (hTr v q)) a1 a2
  rw [hp', List.map_append, ce_map_ag k1 hTr] at w
  have e : (Option.map (ce_val ad') r).toList = r.toList.map (ce_val ad') := by cases r <;> rfl
  show W _ _ _ _ _ _ _ _ _ _ _ _ _ _ _ (F0 m (pc + 3) rls ((Option.map (ce_val ad') r).toList ++ _))
  rw [e]
  exact w
theorem ce_pre {D : va_G} {ca : Nat → ClassId} {b0 : Nat → Prop} {ad0 : Nat → Nat → Nat} {S0 : ce_S} {ad : Nat → Nat → Nat} {s : State} {H : Heap} {locs : List Loc} {rls : Array Slot} {nL : Nat} {ls : List (Option ce_V)} {S : ce_S} (hG : ce_G D ca s) (h61 : ce_61 S0) (hX : ce_X ad0 b0 s) (hR : ce_Rel D ca b0 ad0 S0 ad s H locs rls nL ls S) : ∀ U : State, U.heap = H → s.WarmedH U.vm → ce_Pre D ca b0 ad S U :=
  fun U hU hW => ⟨hG.warm hW, (hX.agree (fun j hj => ⟨(hR.2.2.2.2.2 61 j (Nat.lt_of_lt_of_le hj h61.1)).1, (hR.2.2.2.2.2 62 j (Nat.lt_of_lt_of_le hj h61.2)).1⟩)).warm hW (by rw [hU]; exact hR.2.1.1) (fun q g1 g2 => by rw [hU]; exact hR.2.1.2.1 q g1 g2), by rw [hU]; exact hR.1⟩
/-- the receiver's cell -/
theorem ce_recv {D : va_G} {ca : Nat → ClassId} {b0 : Nat → Prop} {ad : Nat → Nat → Nat} {s : State} {H : Heap} {S : ce_S} {t j : Nat} {C : String} {T : u_T} {N : Nat} (hG : ce_G D ca s) (hH : ce_H D ca b0 ad S H) (hj : j < ce_C S t) (hso : ce_so t = 0) (hc : vwCl[ce_ci t j]? = some (C, T, N)) : ∃ cell : Cell, H[ad t j]? = some cell ∧ cell.vm.isStatics = false ∧ s.vm.findClass C = some cell.cls := by
  obtain ⟨⟨ho, -, -⟩, -, -⟩ := hH.1 t j hj (by rw [hso]; decide)
  obtain ⟨r', hr1, cell, c1, c2, c3, c4⟩ := ho hso
  exact ⟨cell, c1, by rw [c3]; rfl, by rw [c2]; exact (hG.1.1 _ _ hc).2.1⟩
theorem ce_stk {ad : Nat → Nat → Nat} {st : List ce_V} {n : Nat} {v : ce_V} {as : List ce_V} (h : (st.take (n + 1)).reverse = v :: as) : st.map (ce_val ad) = (as.map (ce_val ad)).reverse ++ ce_val ad v :: (st.drop (n + 1)).map (ce_val ad) := by
  have h1 : st.take (n + 1) = as.reverse ++ [v] := by rw [← List.reverse_reverse (st.take (n + 1)), h, List.reverse_cons]
  have h2 : st.map (ce_val ad) = (st.take (n + 1)).map (ce_val ad) ++ (st.drop (n + 1)).map (ce_val ad) := by rw [← List.map_append, List.take_append_drop]
  rw [h2, h1, List.map_append, ← List.map_reverse]
  simp
theorem ce_alen {st : List ce_V} {n : Nat} {v : ce_V} {as : List ce_V} (h : (st.take (n + 1)).reverse = v :: as) (hn : n + 1 ≤ st.length) : as.length = n := by
  have := congrArg List.length h
  simp at this
  omega
section CEVI
variable {l : Launch} {cc : ByteArray} {own : String} {nL : Nat} {rt : Option FieldType} {d MC MS : Nat} {pcs : List Nat} {i pc : Nat}
theorem ok_virtual {op : ce_Op} {y : MethodName} {n d' mc ms ix p1 p2 p3 p4 t : Nat} {T : u_T} {N : Nat} {F : List ce_V → ce_S → ce_Rs} (hop : ce_isC op (n + 1) mc ms MC MS F) (hp : pcs.getD i 0 = pc) (hp' : pcs.getD (i + 1) 0 = pc + 3) (hd : decode cc pc = .ok (.invokevirtual ix, 3)) (hD : d' < d) (hc : ce_callee l y n d' mc ms F) (hso : ce_so t = 0) (hcl : ∀ j, vwCl[ce_ci t j]? = some (y.cls, T, N)) (hrec : ∀ a S res, F a S = some res → ∃ j as, a = .inr (.inl (t, j)) :: as) (g1 : lw_tbl[p1]? = some (Cond.methodLink own ix y)) (g2 : lw_tbl[p2]? = some (Cond.instanceMethod y)) (g3 : lw_tbl[p3]? = some (Cond.selects y.cls y y)) (g4 : lw_tbl[p4]? = some (Cond.initialized y.cls)) : ce_Ok l cc own nL rt d MC MS pcs i op := by
  intro nn ls st S k res h hk p e s m args below meth c D ca b0 ad0 S0 ad H locs rls hC h61 hX hR hT h1 h2
  obtain ⟨hx, hb, hml, hown, ⟨w0, hts⟩, hr, hlk, hG⟩ := id hC
  obtain ⟨a1, a2, a3, a4, r, S', hF, hk2⟩ := hop i nn ls st S k res h
  obtain ⟨cc', nL', rt', hctr, hcode, hnl, hm1, hm2, hlen⟩ := hc
  obtain ⟨j, as, hje⟩ := hrec _ _ _ hF
  have hTa : ce_okT S (st.take (n + 1)).reverse := fun v hv => hT v (List.mem_of_mem_take (List.mem_reverse.mp hv))
  have hTr : ce_okT S (st.drop (n + 1)) := fun v hv => hT v (List.mem_of_mem_drop hv)
  rw [hp]
  rw [hje] at hF hTa
  have hM := hctr D ca b0 ad S _ _ hF hR.2.2.2.1 hTa (ce_h61 hR.2.2.2.2.2 h61)
  have hst := ce_stk (ad := ad) hje
  refine ce_after hp' hk hC h61 hX hR hTr a1 a2 hk2 (va_runV (As := as.map (ce_val ad)) (b := ad t j) ⟨hx, hb, hml, hown, hts⟩ hM (cwV (C := y.cls) n hts (ce_gIn (ex := [.methodLink own ix y, .instanceMethod y, .selects y.cls y y, .initialized y.cls]) hcode (by
      intro w hw
      rcases List.mem_cons.mp hw with e | hw
      · subst e; exact ce_tw_at g1 rfl
      rcases List.mem_cons.mp hw with e | hw
      · subst e; exact ce_tw_at g2 rfl
      rcases List.mem_cons.mp hw with e | hw
      · subst e; exact ce_tw_at g3 rfl
      rcases List.mem_cons.mp hw with e | hw
      · subst e; exact ce_tw_at g4 rfl
      · cases hw)) rfl rfl rfl ⟨rfl, hm1, hm2, hlen⟩ ⟨hD, by show 8 + (nL' + 11) + 60 * d' ≤ 60 * d; omega⟩) ⟨ce_blind, ce_recv hG hR.1 (ce_okT_hd hTa) hso (hcl j), fun U hU hW => ⟨rfl, ce_pre hG h61 hX hR U hU hW⟩⟩ rfl (by rw [List.length_map]; exact ce_alen hje a4) hR.2.2.1.1 hst (lv_room (ce_cat8 a3)) hd ⟨a1, a2⟩)
theorem ok_nest {op : ce_Op} {y : MethodName} {host : String} {n d' mc ms ix p2 p3 : Nat} {F : List ce_V → ce_S → ce_Rs} (hop : ce_isC op n mc ms MC MS F) (hp : pcs.getD i 0 = pc) (hp' : pcs.getD (i + 1) 0 = pc + 3) (hd : decode cc pc = .ok (.invokestatic ix, 3)) (hD : d' < d) (hc : ce_callee l y n d' mc ms F) (g1 : ∀ (D : va_G) (ca : Nat → ClassId) (U : State), ce_G D ca U → va_Nw (Cond.methodLinkNest own ix y host) U) (g2 : lw_tbl[p2]? = some (Cond.static y)) (g3 : lw_tbl[p3]? = some (Cond.initialized y.cls)) : ce_Ok l cc own nL rt d MC MS pcs i op := by
  intro nn ls st S k res h hk p e s m args below meth c D ca b0 ad0 S0 ad H locs rls hC h61 hX hR hT h1 h2
  obtain ⟨hx, hb, hml, hown, ⟨w0, hts⟩, hr, hlk, hG⟩ := id hC
  obtain ⟨a1, a2, a3, a4, r, S', hF, hk2⟩ := hop i nn ls st S k res h
  obtain ⟨cc', nL', rt', hctr, hcode, hnl, hm1, hm2, hlen⟩ := hc
  have hTa : ce_okT S (st.take n).reverse := fun v hv => hT v (List.mem_of_mem_take (List.mem_reverse.mp hv))
  have hTr : ce_okT S (st.drop n) := fun v hv => hT v (List.mem_of_mem_drop hv)
  have hM := hctr D ca b0 ad S _ _ hF hR.2.2.2.1 hTa (ce_h61 hR.2.2.2.2.2 h61)
  rw [hp]
  have hst : st.map (ce_val ad) = ((st.take n).reverse.map (ce_val ad)).reverse ++ (st.drop n).map (ce_val ad) := by
    rw [← List.map_reverse, List.reverse_reverse, ← List.map_append, List.take_append_drop]
  have hgi := ce_gIn (w0 := w0) (ex := []) hcode (by intro w hw; cases hw)
  exact ce_after hp' hk hC h61 hX hR hTr a1 a2 hk2 (va_runSN (As := (st.take n).reverse.map (ce_val ad)) ⟨hx, hb, hml, hown, hts⟩ hM ⟨va_cnB n hts hgi rfl rfl rfl (g1 D ca s hG) (ce_wIn hts g3 rfl) ⟨hm1, hm2, hlen⟩ ⟨hD, by show 8 + (nL' + 11) + 60 * d' ≤ 60 * d; omega⟩, ce_wIn hts g2 rfl, trivial⟩ ⟨ce_blind, fun U hU hW => ⟨rfl, ce_pre hG h61 hX hR U hU hW⟩⟩ rfl (by simp; omega) hR.2.2.1.1 hst (lv_room (ce_cat8 a3)) hd ⟨a1, a2⟩)
/-- a method of the kinds: which one is run goes by the kind -/
theorem ok_kind {op : ce_Op} {x : MethodName} {n ix p1 p2 p3 p4 m0 : Nat} {b1 : ByteArray} {r0 : Option FieldType} {F : List ce_V → ce_S → ce_Rs} (hop : ce_isC op (n + 1) 0 0 MC MS F) (hp : pcs.getD i 0 = pc) (hp' : pcs.getD (i + 1) 0 = pc + 3) (hd : decode cc pc = .ok (.invokevirtual ix, 3)) (hD : 3 < d) (hrec : ∀ a S res, F a S = some res → ∃ j as, a = .inr (.inl (10, j)) :: as) (hxc : x.cls = RX3) (hlx : (parseMethodDescriptor x.desc).map (fun d => d.parameters.length) = some n)
    (hy : ∀ j, ∃ (y : MethodName) (q1 q2 q3 d' : Nat) (Fy : List ce_V → ce_S → ce_Rs), d' ≤ 3 ∧ ce_callee l y n d' 0 0 Fy ∧ lw_tbl[q1]? = some (Cond.selects (ce_kn j) x y) ∧ lw_tbl[q2]? = some (Cond.instanceMethod y) ∧ lw_tbl[q3]? = some (Cond.initialized y.cls) ∧ ∀ as S, F (.inr (.inl (10, j)) :: as) S = Fy (.inr (.inl (10, j)) :: as) S)
    (g1 : lw_tbl[p1]? = some (Cond.methodLink own ix x)) (g2 : lw_tbl[p2]? = some (Cond.sameMethod RX3 RX3 x.name x.desc)) (g3 : lw_tbl[p3]? = some (Cond.instanceMethod x)) (g4 : lw_tbl[p4]? = some (Cond.code x b1 m0 r0)) : ce_Ok l cc own nL rt d MC MS pcs i op := by
  intro nn ls st S k res h hk p e s m args below meth c D ca b0 ad0 S0 ad H locs rls hC h61 hX hR hT h1 h2
  obtain ⟨hx, hb, hml, hown, ⟨w0, hts⟩, hr, hlk, hG⟩ := id hC
  obtain ⟨a1, a2, a3, a4, r, S', hF, hk2⟩ := hop i nn ls st S k res h
  obtain ⟨j, as, hje⟩ := hrec _ _ _ hF
  obtain ⟨y, q1, q2, q3, d', Fy, hd3, ⟨cc', nL', rt', hctr, hcode, hnl, hm1, hm2, hlen⟩, s1, s2, s3, hFy⟩ := hy j
  have hTa : ce_okT S (st.take (n + 1)).reverse := fun v hv => hT v (List.mem_of_mem_take (List.mem_reverse.mp hv))
  have hTr : ce_okT S (st.drop (n + 1)) := fun v hv => hT v (List.mem_of_mem_drop hv)
  rw [hp]
  rw [hje] at hF hTa
  rw [hFy] at hF
  have hM := hctr D ca b0 ad S _ _ hF hR.2.2.2.1 hTa (ce_h61 hR.2.2.2.2.2 h61)
  have hst := ce_stk (ad := ad) hje
  obtain ⟨T, hT2⟩ := ce_kn_ci j
  have hgi := ce_gIn (w0 := w0) (ex := []) hcode (by intro w hw; cases hw)
  have hxe : (⟨RX3, x.name, x.desc⟩ : MethodName) = x := by rw [← hxc]
  have cw : va_CU (ce_rm d MC MS) s args own (ce_kn j) RX3 ix x y cc' nL' rt' (Cond.code y cc' nL' rt' :: ce_tw) (ce_rm d' 0 0) 0 0 n := by
    refine ⟨⟨rfl, rfl, by show d' + 1 ≤ d; omega, by show 8 + (nL' + 11) + 60 * d' ≤ 60 * d; omega, pay_in hts hgi, List.mem_cons_self⟩, hts _ (List.mem_cons_of_mem _ hcode), ce_wIn hts s3 rfl, ⟨by decide +kernel, by decide +kernel⟩, fun sig h => ?_, ce_wIn hts g1 rfl, ?_, ?_, ce_wIn hts s1 rfl, ce_wIn hts s2 rfl⟩
    · rw [h] at hlx
      exact (Option.some.inj hlx).symm
    · rw [hxc]; exact ce_wIn hts g2 rfl
    · rw [hxe]; exact va_Decl.of (ce_wIn (P := fun w => w.before args s = true) hts g3 rfl) (ce_wIn (P := fun w => w.before args s = true) hts g4 rfl)
  exact ce_after hp' hk hC h61 hX hR hTr a1 a2 hk2 (va_runU (As := as.map (ce_val ad)) (b := ad 10 j) ⟨hx, hb, hml, hown, hts⟩ hM cw ⟨ce_blind, ce_recv hG hR.1 (ce_okT_hd hTa) rfl hT2, fun U hU hW => ⟨rfl, ce_pre hG h61 hX hR U hU hW⟩⟩ rfl (by rw [List.length_map]; exact ce_alen hje a4) hR.2.2.1.1 hst (lv_room (ce_cat8 a3)) hd ⟨a1, a2⟩)
end CEVI
end
section
/-! super.m(..), where the named one may have it from its own -/
theorem ce_sub {vm : Vm} {a b : ClassId} {k : Class} (h : vm.classes[a]? = some k) (hs : k.super = some b) : vm.isSubclass a b = true := by
  have hlt : a < vm.classes.size := (Array.getElem?_eq_some_iff.mp h).1
  unfold Vm.isSubclass
  obtain ⟨n, hn⟩ : ∃ n, vm.classes.size = n + 1 := ⟨vm.classes.size - 1, (Nat.succ_pred_eq_of_pos (Nat.lt_of_le_of_lt (Nat.zero_le _) hlt)).symm⟩
  rw [hn]
  simp [Vm.isSubclassAux, h, hs]
section CESU
variable {p : Program} {l : Launch} {e : Env} {R : Room} {s : State} {m : MethodId} {args : Array Value} {below : List Frame} {meth : Method} {c : Code} {H : Heap} {locs : List Loc} {cells slots : Nat}
theorem ce_runSU {x y : MethodName} {bytes cc : ByteArray} {maxL nL mc ms n index : Nat} {ret : Option FieldType} {ws : List Cond} {rm : Room} {Pc : Array Value → State → Prop} {Qc : Array Value → State → Outcome → State → Prop} {free : Addr → Prop} {Ts : List Cond} {own C : String} {cC : ClassId} {b : Addr} {As rest : List Value} {g : JFrame}
    (hat : ClassAt s C cC) (S : CallFix p m c cc nL s args Ts own) (hM : Met l y ws rm Pc Qc mc ms free)
    (hback : rm.cells = mc ∧ rm.slots = ms ∧ rm.frames + 1 ≤ R.frames ∧ 8 + (maxL + 11) + rm.locals ≤ R.locals ∧ (∀ w ∈ ws, ∀ (a' : Array Value) (U : State), s.WarmedH U.vm → w.before a' U = true) ∧ Cond.code y bytes maxL ret ∈ ws)
    (hlink : (Cond.methodLink own index x).before args s = true) (hsame : (Cond.sameMethod x.cls y.cls x.name x.desc).before args s = true) (hyx : y = ⟨y.cls, x.name, x.desc⟩) (hsup : (Cond.superclass own x.cls).before args s = true) (hsub : x.cls = y.cls ∨ (Cond.superclass x.cls y.cls).before args s = true)
    (hinst : (Cond.instanceMethod y).before args s = true) (hini : (Cond.initialized y.cls).before args s = true) (hcode : (Cond.code y bytes maxL ret).before args s = true) (hno : x.name ≠ "<init>") (hlen : ∀ sig, parseMethodDescriptor y.desc = some sig → n = sig.parameters.length) (hp : PreV s H C b Pc As)
    (hg : g.method = m) (hn : As.length = n) (hsize : g.locals.size = nL) (hstack : g.stack = As.reverse ++ .ref b :: rest) (hW : 2 * g.monitorRoom + (rest.map fun v => v.category).sum ≤ 8) (hdg : decode cc g.pc = .ok (.invokespecial index, 3)) (hf : cells + mc ≤ R.cells ∧ slots + ms ≤ R.slots) :
    va_Run p l e R s m args below meth c H locs cells slots mc ms g rest (Qc (Value.ref b :: As).toArray) (free) := by
  obtain ⟨hrc, hrs, hfr, hlo, hws, hcw⟩ := hback
  have hK : Back l R p e below s args y 3 8 (PreOf R mc ms Pc) (PostOf Qc mc ms free) := back_of (bytes := bytes) (maxL := maxL) (ret := ret) hM hp.1 hrc hrs hfr hlo hws hcw (fun a' U hW => word_at hW (Or.inl (by first | rfl | simp [Cond.onTables, Cond.keeps, Cond.steady])) hini)
  obtain ⟨hx, hb, hml, ho, -⟩ := S
  obtain ⟨-, ⟨cellB, hcB, hoB, hclB⟩, hPc⟩ := hp
  obtain ⟨hfc, kB, hkB, -⟩ := hat
  cases hfc.symm.trans hclB
  intro T hT X
  obtain ⟨mk, methM, hnamed, hmethM, hstM, habM⟩ := Cond.instanceMethod_spec hinst
  obtain ⟨methM', cM, hmethM', -, -, -, -, -, -, hsigM⟩ := Cond.code_spec hnamed hcode
  cases hmethM.symm.trans hmethM'
  obtain ⟨ps, dk, kp, hps, hdk, hkp, hsuper, -, -, hnid⟩ := Cond.superclass_spec ho hsup
  have hn0 : s.methodNamed? ⟨y.cls, x.name, x.desc⟩ = some mk := by rw [← hyx]; exact hnamed
  have hsubc : s.vm.isSubclass ps mk.cls = true := by
    rcases hsub with e | e
    · have hpm : ps = mk.cls := Option.some.inj (hps.symm.trans (by rw [e]; exact findClass_of_methodNamed hnamed))
      rw [hpm]; simp [Vm.isSubclass, Vm.isSubclassAux]
    · obtain ⟨ps2, dk2, kp2, hps2, hdk2, hkp2, hsuper2, -, -, -⟩ := Cond.superclass_spec hps e
      have hpm : ps2 = mk.cls := Option.some.inj (hps2.symm.trans (findClass_of_methodNamed hnamed))
      rw [← hpm]
      exact ce_sub hdk2 hsuper2
  obtain ⟨vm₁, X₁, hstep₁⟩ := X.invokespecialUp hx ho hlink hsame hn0 hmethM hstM habM hno hdk hnid hps hsuper hsubc (a := b) (cell := cellB) (by rw [hT]; exact hcB)
    (fun z h => by rw [h] at hoB; cases hoB) hkB (g := g) hg (argsL := As) (rest := rest) (hn.trans (hlen _ hsigM)) hstack (by rw [hb]; exact hdg)
  obtain ⟨v, ⟨U', l2, c2, s2⟩, X', ⟨g', mk', t, L, e1, e2, hq, h1, hL, h2, h3⟩, hsteps⟩ := hK m meth c ⟨T.setVm vm₁, locs, cells, slots⟩ { g with stack := rest } (.invokespecial index) mk (Value.ref b :: As).toArray X₁ hg (hsize.trans hml.symm) (by rw [hb]; exact hdg) hW (X₁.named hnamed) ⟨hf.1, hf.2, hPc (T.setVm vm₁) hT X₁.warmed⟩
  dsimp only [Pt.U, Pt.locs, Pt.cells, Pt.slots] at X' e1 e2 h1 h2 h3 hsteps
  subst h1; subst h2; subst h3
  exact ⟨v, (T.setVm vm₁).calling g' mk' (Value.ref b :: As).toArray, t, U', L, hT, X', hL, e1, e2, hq, fun target h => hstep₁ _ (by rw [doInvoke_state]; exact hsteps.trans h)⟩
end CESU
section CESV
variable {l : Launch} {cc : ByteArray} {own : String} {nL : Nat} {rt : Option FieldType} {d MC MS : Nat} {pcs : List Nat} {i pc : Nat}
theorem ok_super {op : ce_Op} {x y : MethodName} {n d' ix p1 p2 p3 p4 p5 : Nat} {F : List ce_V → ce_S → ce_Rs} (hop : ce_isC op (n + 1) 0 0 MC MS F) (hp : pcs.getD i 0 = pc) (hp' : pcs.getD (i + 1) 0 = pc + 3) (hd : decode cc pc = .ok (.invokespecial ix, 3)) (hD : d' < d) (hc : ce_callee l y n d' 0 0 F) (hrec : ∀ a S res, F a S = some res → ∃ j as, a = .inr (.inl (10, j)) :: as) (hyx : y = ⟨y.cls, x.name, x.desc⟩) (hno : x.name ≠ "<init>")
    (g1 : lw_tbl[p1]? = some (Cond.methodLink own ix x)) (g2 : lw_tbl[p2]? = some (Cond.sameMethod x.cls y.cls x.name x.desc)) (g3 : lw_tbl[p3]? = some (Cond.superclass own x.cls)) (g4 : lw_tbl[p4]? = some (Cond.instanceMethod y)) (g5 : lw_tbl[p5]? = some (Cond.initialized y.cls)) (g6 : x.cls = y.cls ∨ ∃ p6 : Nat, lw_tbl[p6]? = some (Cond.superclass x.cls y.cls)) : ce_Ok l cc own nL rt d MC MS pcs i op := by
  intro nn ls st S k res h hk p e s m args below meth c D ca b0 ad0 S0 ad H locs rls hC h61 hX hR hT h1 h2
  obtain ⟨hx, hb, hml, hown, ⟨w0, hts⟩, hr, hlk, hG⟩ := id hC
  obtain ⟨a1, a2, a3, a4, r, S', hF, hk2⟩ := hop i nn ls st S k res h
  obtain ⟨cc', nL', rt', hctr, hcode, hnl, hm1, hm2, hlen⟩ := hc
  obtain ⟨j, as, hje⟩ := hrec _ _ _ hF
  have hTa : ce_okT S (st.take (n + 1)).reverse := fun v hv => hT v (List.mem_of_mem_take (List.mem_reverse.mp hv))
  have hTr : ce_okT S (st.drop (n + 1)) := fun v hv => hT v (List.mem_of_mem_drop hv)
  rw [hp]
  rw [hje] at hF hTa
  have hM := hctr D ca b0 ad S _ _ hF hR.2.2.2.1 hTa (ce_h61 hR.2.2.2.2.2 h61)
  have hst := ce_stk (ad := ad) hje
  obtain ⟨T, hT2⟩ := ce_kn_ci j
  have hgi := ce_gIn (w0 := w0) (ex := []) hcode (by intro w hw; cases hw)
  exact ce_after hp' hk hC h61 hX hR hTr a1 a2 hk2 (ce_runSU (x := x) (As := as.map (ce_val ad)) (b := ad 10 j) (hG.1.1 _ _ hT2).2 ⟨hx, hb, hml, hown, hts⟩ hM ⟨rfl, rfl, hD, by show 8 + (nL' + 11) + 60 * d' ≤ 60 * d; omega, pay_in hts hgi, List.mem_cons_self⟩ (ce_wIn hts g1 rfl) (ce_wIn hts g2 rfl) hyx (ce_wIn hts g3 rfl) (g6.imp id (fun z => by obtain ⟨p6, g6⟩ := z; exact ce_wIn (P := fun w => w.before args s = true) hts g6 rfl)) (ce_wIn hts g4 rfl) (ce_wIn hts g5 rfl) (hts _ (List.mem_cons_of_mem _ hcode)) hno (fun sig h => by rw [h] at hlen; exact (Option.some.inj hlen).symm) ⟨ce_blind, ce_recv hG hR.1 (ce_okT_hd hTa) rfl hT2, fun U hU hW => ⟨rfl, ce_pre hG h61 hX hR U hU hW⟩⟩ rfl (by rw [List.length_map]; exact ce_alen hje a4) hR.2.2.1.1 hst (lv_room (ce_cat8 a3)) hd ⟨a1, a2⟩)
end CESV
end
section
/-! a step ends the method, or goes on at one place -/
def ce_Tail (op : ce_Op) : Prop := ∀ (i : Nat) (nn : Nat × Nat) (ls : List (Option ce_V)) (st : List ce_V) (S : ce_S) (k : ce_K) (res : Option ce_V × ce_S), op i nn ls st S k = some res →
  (∀ k', op i nn ls st S k' = some res) ∨ ∃ (i' : Nat) (nn' : Nat × Nat) (ls' : List (Option ce_V)) (st' : List ce_V) (S' : ce_S), k i' nn' ls' st' S' = some res ∧ ∀ k' : ce_K, k' i' nn' ls' st' S' = some res → op i nn ls st S k' = some res
theorem ce_ta1 {op : ce_Op} {i : Nat} {nn : Nat × Nat} {ls : List (Option ce_V)} {st : List ce_V} {S : ce_S} {k : ce_K} {res : Option ce_V × ce_S} (i' : Nat) (nn' : Nat × Nat) (ls' : List (Option ce_V)) (st' : List ce_V) (S' : ce_S) (e : ∀ k', op i nn ls st S k' = k' i' nn' ls' st' S') (h : op i nn ls st S k = some res) : (∀ k', op i nn ls st S k' = some res) ∨ ∃ (i' : Nat) (nn' : Nat × Nat) (ls' : List (Option ce_V)) (st' : List ce_V) (S' : ce_S), k i' nn' ls' st' S' = some res ∧ ∀ k' : ce_K, k' i' nn' ls' st' S' = some res → op i nn ls st S k' = some res := Or.inr ⟨i', nn', ls', st', S', (e k) ▸ h, fun k' q => (e k').trans q⟩
theorem ce_ta0 {op : ce_Op} {i : Nat} {nn : Nat × Nat} {ls : List (Option ce_V)} {st : List ce_V} {S : ce_S} {k : ce_K} {res : Option ce_V × ce_S} {r : ce_Rs} (e : ∀ k', op i nn ls st S k' = r) (h : op i nn ls st S k = some res) : (∀ k', op i nn ls st S k' = some res) ∨ ∃ (i' : Nat) (nn' : Nat × Nat) (ls' : List (Option ce_V)) (st' : List ce_V) (S' : ce_S), k i' nn' ls' st' S' = some res ∧ ∀ k' : ce_K, k' i' nn' ls' st' S' = some res → op i nn ls st S k' = some res := Or.inl fun k' => (e k').trans ((e k).symm.trans h)
theorem ta_int {v : Int32} : ce_Tail (o_int v) := fun _ _ _ _ _ _ _ h => ce_ta1 _ _ _ _ _ (fun _ => rfl) h
theorem ta_long {v : Int64} : ce_Tail (o_long v) := fun _ _ _ _ _ _ _ h => ce_ta1 _ _ _ _ _ (fun _ => rfl) h
theorem ta_goto {t : Nat} : ce_Tail (o_goto t) := fun _ _ _ _ _ _ _ h => ce_ta1 _ _ _ _ _ (fun _ => rfl) h
theorem ta_istore {j : Nat} : ce_Tail (o_istore j) := by
  intro i nn ls st S k res h
  unfold o_istore at h ⊢
  split at h
  · exact Or.inr ⟨_, _, _, _, _, h, fun k' q => q⟩
  · cases h
theorem ta_astore {j : Nat} : ce_Tail (o_astore j) := by
  intro i nn ls st S k res h
  unfold o_astore at h ⊢
  split at h
  · exact Or.inr ⟨_, _, _, _, _, h, fun k' q => q⟩
  · cases h
theorem ta_bin {f : Int32 → Int32 → Int32} : ce_Tail (o_bin f) := by
  intro i nn ls st S k res h
  unfold o_bin at h ⊢
  split at h
  · exact Or.inr ⟨_, _, _, _, _, h, fun k' q => q⟩
  · cases h
theorem ta_un {f : Int32 → Int32} : ce_Tail (o_un f) := by
  intro i nn ls st S k res h
  unfold o_un at h ⊢
  split at h
  · exact Or.inr ⟨_, _, _, _, _, h, fun k' q => q⟩
  · cases h
theorem ta_i2l : ce_Tail (o_i2l) := by
  intro i nn ls st S k res h
  unfold o_i2l at h ⊢
  split at h
  · exact Or.inr ⟨_, _, _, _, _, h, fun k' q => q⟩
  · cases h
theorem ta_lcmp : ce_Tail (o_lcmp) := by
  intro i nn ls st S k res h
  unfold o_lcmp at h ⊢
  split at h
  · exact Or.inr ⟨_, _, _, _, _, h, fun k' q => q⟩
  · cases h
theorem ta_dup2 : ce_Tail (o_dup2) := by
  intro i nn ls st S k res h
  unfold o_dup2 at h ⊢
  split at h
  · exact Or.inr ⟨_, _, _, _, _, h, fun k' q => q⟩
  · cases h
theorem ta_pop : ce_Tail (o_pop) := by
  intro i nn ls st S k res h
  unfold o_pop at h ⊢
  split at h
  · exact Or.inr ⟨_, _, _, _, _, h, fun k' q => q⟩
  · cases h
theorem ta_iload {j : Nat} : ce_Tail (o_iload j) := by
  intro i nn ls st S k res h
  unfold o_iload at h ⊢
  split at h
  · exact Or.inr ⟨_, _, _, _, _, h, fun k' q => q⟩
  · cases h
theorem ta_aload {j : Nat} : ce_Tail (o_aload j) := by
  intro i nn ls st S k res h
  unfold o_aload at h ⊢
  split at h
  · exact Or.inr ⟨_, _, _, _, _, h, fun k' q => q⟩
  · cases h
theorem ta_iinc {j : Nat} {d : Int32} : ce_Tail (o_iinc j d) := by
  intro i nn ls st S k res h
  unfold o_iinc at h ⊢
  split at h
  · exact Or.inr ⟨_, _, _, _, _, h, fun k' q => q⟩
  · cases h
theorem ta_dup : ce_Tail o_dup := by
  intro i nn ls st S k res h
  unfold o_dup at h ⊢
  split at h
  · exact Or.inr ⟨_, _, _, _, _, h, fun k' q => q⟩
  · exact Or.inr ⟨_, _, _, _, _, h, fun k' q => q⟩
  · cases h
theorem ta_ifeq {t : Nat} : ce_Tail (o_ifeq t) := by
  intro i nn ls st S k res h
  unfold o_ifeq at h ⊢
  try simp only [ce_bt, ce_bl] at h ⊢
  split at h
  · split at h
    · rename_i hc
      simp only [if_pos hc]
      first | cases h | exact Or.inr ⟨_, _, _, _, _, h, fun k' q => q⟩
    · rename_i hc
      simp only [if_neg hc]
      first | cases h | exact Or.inr ⟨_, _, _, _, _, h, fun k' q => q⟩
  · cases h
theorem ta_cmpeq {t : Nat} : ce_Tail (o_cmpeq t) := by
  intro i nn ls st S k res h
  unfold o_cmpeq at h ⊢
  try simp only [ce_bt, ce_bl] at h ⊢
  split at h
  · split at h
    · rename_i hc
      simp only [if_pos hc]
      first | cases h | exact Or.inr ⟨_, _, _, _, _, h, fun k' q => q⟩
    · rename_i hc
      simp only [if_neg hc]
      first | cases h | exact Or.inr ⟨_, _, _, _, _, h, fun k' q => q⟩
  · cases h
theorem ta_ifne {t : Nat} : ce_Tail (o_ifne t) := by
  intro i nn ls st S k res h
  unfold o_ifne at h ⊢
  try simp only [ce_bt, ce_bl] at h ⊢
  split at h
  · split at h
    · rename_i hc
      simp only [if_pos hc]
      first | cases h | exact Or.inr ⟨_, _, _, _, _, h, fun k' q => q⟩
    · rename_i hc
      simp only [if_neg hc]
      first | cases h | exact Or.inr ⟨_, _, _, _, _, h, fun k' q => q⟩
  · cases h
theorem ta_cmpne {t : Nat} : ce_Tail (o_cmpne t) := by
  intro i nn ls st S k res h
  unfold o_cmpne at h ⊢
  try simp only [ce_bt, ce_bl] at h ⊢
  split at h
  · split at h
    · rename_i hc
      simp only [if_pos hc]
      first | cases h | exact Or.inr ⟨_, _, _, _, _, h, fun k' q => q⟩
    · rename_i hc
      simp only [if_neg hc]
      first | cases h | exact Or.inr ⟨_, _, _, _, _, h, fun k' q => q⟩
  · cases h
theorem ta_iflt {t : Nat} : ce_Tail (o_iflt t) := by
  intro i nn ls st S k res h
  unfold o_iflt at h ⊢
  try simp only [ce_bt, ce_bl] at h ⊢
  split at h
  · split at h
    · rename_i hc
      simp only [if_pos hc]
      first | cases h | exact Or.inr ⟨_, _, _, _, _, h, fun k' q => q⟩
    · rename_i hc
      simp only [if_neg hc]
      first | cases h | exact Or.inr ⟨_, _, _, _, _, h, fun k' q => q⟩
  · cases h
theorem ta_cmplt {t : Nat} : ce_Tail (o_cmplt t) := by
  intro i nn ls st S k res h
  unfold o_cmplt at h ⊢
  try simp only [ce_bt, ce_bl] at h ⊢
  split at h
  · split at h
    · rename_i hc
      simp only [if_pos hc]
      first | cases h | exact Or.inr ⟨_, _, _, _, _, h, fun k' q => q⟩
    · rename_i hc
      simp only [if_neg hc]
      first | cases h | exact Or.inr ⟨_, _, _, _, _, h, fun k' q => q⟩
  · cases h
theorem ta_ifge {t : Nat} : ce_Tail (o_ifge t) := by
  intro i nn ls st S k res h
  unfold o_ifge at h ⊢
  try simp only [ce_bt, ce_bl] at h ⊢
  split at h
  · split at h
    · rename_i hc
      simp only [if_pos hc]
      first | cases h | exact Or.inr ⟨_, _, _, _, _, h, fun k' q => q⟩
    · rename_i hc
      simp only [if_neg hc]
      first | cases h | exact Or.inr ⟨_, _, _, _, _, h, fun k' q => q⟩
  · cases h
theorem ta_cmpge {t : Nat} : ce_Tail (o_cmpge t) := by
  intro i nn ls st S k res h
  unfold o_cmpge at h ⊢
  try simp only [ce_bt, ce_bl] at h ⊢
  split at h
  · split at h
    · rename_i hc
      simp only [if_pos hc]
      first | cases h | exact Or.inr ⟨_, _, _, _, _, h, fun k' q => q⟩
    · rename_i hc
      simp only [if_neg hc]
      first | cases h | exact Or.inr ⟨_, _, _, _, _, h, fun k' q => q⟩
  · cases h
theorem ta_ifgt {t : Nat} : ce_Tail (o_ifgt t) := by
  intro i nn ls st S k res h
  unfold o_ifgt at h ⊢
  try simp only [ce_bt, ce_bl] at h ⊢
  split at h
  · split at h
    · rename_i hc
      simp only [if_pos hc]
      first | cases h | exact Or.inr ⟨_, _, _, _, _, h, fun k' q => q⟩
    · rename_i hc
      simp only [if_neg hc]
      first | cases h | exact Or.inr ⟨_, _, _, _, _, h, fun k' q => q⟩
  · cases h
theorem ta_cmpgt {t : Nat} : ce_Tail (o_cmpgt t) := by
  intro i nn ls st S k res h
  unfold o_cmpgt at h ⊢
  try simp only [ce_bt, ce_bl] at h ⊢
  split at h
  · split at h
    · rename_i hc
      simp only [if_pos hc]
      first | cases h | exact Or.inr ⟨_, _, _, _, _, h, fun k' q => q⟩
    · rename_i hc
      simp only [if_neg hc]
      first | cases h | exact Or.inr ⟨_, _, _, _, _, h, fun k' q => q⟩
  · cases h
theorem ta_ifle {t : Nat} : ce_Tail (o_ifle t) := by
  intro i nn ls st S k res h
  unfold o_ifle at h ⊢
  try simp only [ce_bt, ce_bl] at h ⊢
  split at h
  · split at h
    · rename_i hc
      simp only [if_pos hc]
      first | cases h | exact Or.inr ⟨_, _, _, _, _, h, fun k' q => q⟩
    · rename_i hc
      simp only [if_neg hc]
      first | cases h | exact Or.inr ⟨_, _, _, _, _, h, fun k' q => q⟩
  · cases h
theorem ta_cmple {t : Nat} : ce_Tail (o_cmple t) := by
  intro i nn ls st S k res h
  unfold o_cmple at h ⊢
  try simp only [ce_bt, ce_bl] at h ⊢
  split at h
  · split at h
    · rename_i hc
      simp only [if_pos hc]
      first | cases h | exact Or.inr ⟨_, _, _, _, _, h, fun k' q => q⟩
    · rename_i hc
      simp only [if_neg hc]
      first | cases h | exact Or.inr ⟨_, _, _, _, _, h, fun k' q => q⟩
  · cases h
theorem ta_div : ce_Tail (o_div) := by
  intro i nn ls st S k res h
  unfold o_div at h ⊢
  try simp only [ce_bt, ce_bl] at h ⊢
  split at h
  · split at h
    · rename_i hc
      simp only [if_pos hc]
      first | cases h | exact Or.inr ⟨_, _, _, _, _, h, fun k' q => q⟩
    · rename_i hc
      simp only [if_neg hc]
      first | cases h | exact Or.inr ⟨_, _, _, _, _, h, fun k' q => q⟩
  · cases h
theorem ta_rem : ce_Tail (o_rem) := by
  intro i nn ls st S k res h
  unfold o_rem at h ⊢
  try simp only [ce_bt, ce_bl] at h ⊢
  split at h
  · split at h
    · rename_i hc
      simp only [if_pos hc]
      first | cases h | exact Or.inr ⟨_, _, _, _, _, h, fun k' q => q⟩
    · rename_i hc
      simp only [if_neg hc]
      first | cases h | exact Or.inr ⟨_, _, _, _, _, h, fun k' q => q⟩
  · cases h
theorem ta_getI {t f : Nat} : ce_Tail (o_getI t f) := by
  intro i nn ls st S k res h
  unfold o_getI at h ⊢
  try simp only [ce_bt, ce_bl] at h ⊢
  split at h
  · split at h
    · rename_i hc
      simp only [if_pos hc]
      first | cases h | exact Or.inr ⟨_, _, _, _, _, h, fun k' q => q⟩
    · rename_i hc
      simp only [if_neg hc]
      first | cases h | exact Or.inr ⟨_, _, _, _, _, h, fun k' q => q⟩
  · cases h
theorem ta_getS {t t' : Nat} {g : Nat → Nat} : ce_Tail (o_getS t t' g) := by
  intro i nn ls st S k res h
  unfold o_getS at h ⊢
  try simp only [ce_bt, ce_bl] at h ⊢
  split at h
  · split at h
    · rename_i hc
      simp only [if_pos hc]
      first | cases h | exact Or.inr ⟨_, _, _, _, _, h, fun k' q => q⟩
    · rename_i hc
      simp only [if_neg hc]
      first | cases h | exact Or.inr ⟨_, _, _, _, _, h, fun k' q => q⟩
  · cases h
theorem ta_getM {t f t' : Nat} : ce_Tail (o_getM t f t') := by
  intro i nn ls st S k res h
  unfold o_getM at h ⊢
  try simp only [ce_bt, ce_bl] at h ⊢
  split at h
  · split at h
    · rename_i hc
      simp only [if_pos hc]
      first | cases h | exact Or.inr ⟨_, _, _, _, _, h, fun k' q => q⟩
    · rename_i hc
      simp only [if_neg hc]
      first | cases h | exact Or.inr ⟨_, _, _, _, _, h, fun k' q => q⟩
  · cases h
theorem ta_putI {t f : Nat} : ce_Tail (o_putI t f) := by
  intro i nn ls st S k res h
  unfold o_putI at h ⊢
  try simp only [ce_bt, ce_bl] at h ⊢
  split at h
  · split at h
    · rename_i hc
      simp only [if_pos hc]
      first | cases h | exact Or.inr ⟨_, _, _, _, _, h, fun k' q => q⟩
    · rename_i hc
      simp only [if_neg hc]
      first | cases h | exact Or.inr ⟨_, _, _, _, _, h, fun k' q => q⟩
  · cases h
theorem ta_alen {t : Nat} : ce_Tail (o_alen t) := by
  intro i nn ls st S k res h
  unfold o_alen at h ⊢
  try simp only [ce_bt, ce_bl] at h ⊢
  split at h
  · split at h
    · rename_i hc
      simp only [if_pos hc]
      first | cases h | exact Or.inr ⟨_, _, _, _, _, h, fun k' q => q⟩
    · rename_i hc
      simp only [if_neg hc]
      first | cases h | exact Or.inr ⟨_, _, _, _, _, h, fun k' q => q⟩
  · cases h
theorem ta_mmax : ce_Tail (o_mmax) := by
  intro i nn ls st S k res h
  unfold o_mmax at h ⊢
  try simp only [ce_bt, ce_bl] at h ⊢
  split at h
  · split at h
    · rename_i hc
      simp only [if_pos hc]
      first | cases h | exact Or.inr ⟨_, _, _, _, _, h, fun k' q => q⟩
    · rename_i hc
      simp only [if_neg hc]
      first | cases h | exact Or.inr ⟨_, _, _, _, _, h, fun k' q => q⟩
  · cases h
theorem ta_mmin : ce_Tail (o_mmin) := by
  intro i nn ls st S k res h
  unfold o_mmin at h ⊢
  try simp only [ce_bt, ce_bl] at h ⊢
  split at h
  · split at h
    · rename_i hc
      simp only [if_pos hc]
      first | cases h | exact Or.inr ⟨_, _, _, _, _, h, fun k' q => q⟩
    · rename_i hc
      simp only [if_neg hc]
      first | cases h | exact Or.inr ⟨_, _, _, _, _, h, fun k' q => q⟩
  · cases h
theorem ta_inst {f : Nat → Int32} : ce_Tail (o_inst f) := by
  intro i nn ls st S k res h
  unfold o_inst at h ⊢
  try simp only [ce_bt, ce_bl] at h ⊢
  split at h
  · split at h
    · rename_i hc
      simp only [if_pos hc]
      first | cases h | exact Or.inr ⟨_, _, _, _, _, h, fun k' q => q⟩
    · rename_i hc
      simp only [if_neg hc]
      first | cases h | exact Or.inr ⟨_, _, _, _, _, h, fun k' q => q⟩
  · cases h
theorem ta_putZ {t f : Nat} : ce_Tail (o_putZ t f) := by
  intro i nn ls st S k res h
  unfold o_putZ at h ⊢
  simp only [ce_bt] at h ⊢
  split at h
  · split at h
    · rename_i hc
      simp only [if_pos hc]
      split at h
      · rename_i hc2
        simp only [if_pos hc2]
        first | cases h | exact Or.inr ⟨_, _, _, _, _, h, fun k' q => q⟩
      · rename_i hc2
        simp only [if_neg hc2]
        first | cases h | exact Or.inr ⟨_, _, _, _, _, h, fun k' q => q⟩
    · cases h
  · cases h
theorem ta_putM {t f t' : Nat} : ce_Tail (o_putM t f t') := by
  intro i nn ls st S k res h
  unfold o_putM at h ⊢
  simp only [ce_bt] at h ⊢
  split at h
  · split at h
    · rename_i hc
      simp only [if_pos hc]
      split at h
      · rename_i hc2
        simp only [if_pos hc2]
        first | cases h | exact Or.inr ⟨_, _, _, _, _, h, fun k' q => q⟩
      · rename_i hc2
        simp only [if_neg hc2]
        first | cases h | exact Or.inr ⟨_, _, _, _, _, h, fun k' q => q⟩
    · cases h
  · cases h
theorem ta_ild {t : Nat} : ce_Tail (o_ild t) := by
  intro i nn ls st S k res h
  unfold o_ild at h ⊢
  simp only [ce_bt] at h ⊢
  split at h
  · split at h
    · rename_i hc
      simp only [if_pos hc]
      split at h
      · rename_i hc2
        simp only [if_pos hc2]
        first | cases h | exact Or.inr ⟨_, _, _, _, _, h, fun k' q => q⟩
      · rename_i hc2
        simp only [if_neg hc2]
        first | cases h | exact Or.inr ⟨_, _, _, _, _, h, fun k' q => q⟩
    · cases h
  · cases h
theorem ta_ist {t : Nat} : ce_Tail (o_ist t) := by
  intro i nn ls st S k res h
  unfold o_ist at h ⊢
  simp only [ce_bt] at h ⊢
  split at h
  · split at h
    · rename_i hc
      simp only [if_pos hc]
      split at h
      · rename_i hc2
        simp only [if_pos hc2]
        first | cases h | exact Or.inr ⟨_, _, _, _, _, h, fun k' q => q⟩
      · rename_i hc2
        simp only [if_neg hc2]
        first | cases h | exact Or.inr ⟨_, _, _, _, _, h, fun k' q => q⟩
    · cases h
  · cases h
theorem ta_ald {t t' : Nat} {g : Nat → Nat} : ce_Tail (o_ald t t' g) := by
  intro i nn ls st S k res h
  unfold o_ald at h ⊢
  simp only [ce_bt] at h ⊢
  split at h
  · split at h
    · rename_i hc
      simp only [if_pos hc]
      split at h
      · rename_i hc2
        simp only [if_pos hc2]
        first | cases h | exact Or.inr ⟨_, _, _, _, _, h, fun k' q => q⟩
      · rename_i hc2
        simp only [if_neg hc2]
        first | cases h | exact Or.inr ⟨_, _, _, _, _, h, fun k' q => q⟩
    · cases h
  · cases h
theorem ta_aldQ : ce_Tail o_aldQ := by
  intro i nn ls st S k res h
  unfold o_aldQ at h ⊢
  simp only [ce_bt] at h ⊢
  split at h
  · rename_i j q r
    split at h
    · rename_i hc
      simp only [if_pos hc]
      split at h
      · cases h
      · rename_i hc2
        simp only [if_neg hc2]
        cases hQ : ce_Q S j.toNatClampNeg with
        | none => rw [hQ] at h; cases h
        | some x => rw [hQ] at h; exact Or.inr ⟨_, _, _, _, _, h, fun k' q => q⟩
    · cases h
  · cases h
theorem ta_cv {n mc ms MC MS : Nat} {F : List ce_V → ce_S → Option ce_S} : ce_Tail (o_cv n F mc ms MC MS) := by
  intro i nn ls st S k res h
  unfold o_cv at h ⊢
  simp only [ce_bc] at h ⊢
  split at h
  · rename_i hc
    simp only [if_pos hc]
    cases hF : F (st.take n).reverse S with
    | none => rw [hF] at h; cases h
    | some q => rw [hF] at h; exact Or.inr ⟨_, _, _, _, _, h, fun k' q => q⟩
  · cases h
theorem ta_ci {n mc ms MC MS : Nat} {F : List ce_V → ce_S → Option (Int32 × ce_S)} : ce_Tail (o_ci n F mc ms MC MS) := by
  intro i nn ls st S k res h
  unfold o_ci at h ⊢
  simp only [ce_bc] at h ⊢
  split at h
  · rename_i hc
    simp only [if_pos hc]
    cases hF : F (st.take n).reverse S with
    | none => rw [hF] at h; cases h
    | some q => rw [hF] at h; exact Or.inr ⟨_, _, _, _, _, h, fun k' q => q⟩
  · cases h
theorem ta_cl {n mc ms MC MS : Nat} {F : List ce_V → ce_S → Option (Int64 × ce_S)} : ce_Tail (o_cl n F mc ms MC MS) := by
  intro i nn ls st S k res h
  unfold o_cl at h ⊢
  simp only [ce_bc] at h ⊢
  split at h
  · rename_i hc
    simp only [if_pos hc]
    cases hF : F (st.take n).reverse S with
    | none => rw [hF] at h; cases h
    | some q => rw [hF] at h; exact Or.inr ⟨_, _, _, _, _, h, fun k' q => q⟩
  · cases h
theorem ta_cr {n t mc ms MC MS : Nat} {F : List ce_V → ce_S → Option (Nat × ce_S)} : ce_Tail (o_cr n t F mc ms MC MS) := by
  intro i nn ls st S k res h
  unfold o_cr at h ⊢
  simp only [ce_bc] at h ⊢
  split at h
  · rename_i hc
    simp only [if_pos hc]
    cases hF : F (st.take n).reverse S with
    | none => rw [hF] at h; cases h
    | some q => rw [hF] at h; exact Or.inr ⟨_, _, _, _, _, h, fun k' q => q⟩
  · cases h
theorem ta_iret : ce_Tail o_iret := fun _ _ _ _ _ _ _ h => ce_ta0 (fun _ => rfl) h
theorem ta_lret : ce_Tail o_lret := fun _ _ _ _ _ _ _ h => ce_ta0 (fun _ => rfl) h
theorem ta_aret : ce_Tail o_aret := fun _ _ _ _ _ _ _ h => ce_ta0 (fun _ => rfl) h
theorem ta_vret : ce_Tail o_vret := fun _ _ _ _ _ _ _ h => ce_ta0 (fun _ => rfl) h
theorem ta_zret : ce_Tail o_zret := fun _ _ _ _ _ _ _ h => ce_ta0 (fun _ => rfl) h
theorem ta_sw {ks : List (Int32 × Nat)} {d : Nat} : ce_Tail (o_sw ks d) := by
  intro i nn ls st S k res h
  unfold o_sw at h ⊢
  split at h
  · rename_i x r
    have key : ∀ (ks : List (Int32 × Nat)), ∃ t, ∀ kk : Nat → ce_Rs, ce_sw x ks d kk = kk t := by
      intro ks
      induction ks with
      | nil => exact ⟨d, fun _ => rfl⟩
      | cons q l ih =>
        by_cases e : x = q.1
        · exact ⟨q.2, fun kk => by unfold ce_sw; rw [if_pos e]⟩
        · obtain ⟨t, ht⟩ := ih
          exact ⟨t, fun kk => by unfold ce_sw; rw [if_neg e]; exact ht kk⟩
    obtain ⟨t, ht⟩ := key ks
    rw [ht] at h
    exact Or.inr ⟨t, nn, ls, r, S, h, fun k' q => (ht _).trans q⟩
  · cases h
def ce_TL : List ce_Op → Prop
  | [] => True
  | o :: r => ce_Tail o ∧ ce_TL r
theorem ce_TL.at : ∀ (tb : List ce_Op), ce_TL tb → ∀ i, ce_Tail (tb.getD i ce_bad) := by
  intro tb
  induction tb with
  | nil => intro _ i _ _ _ _ _ _ _ h; cases h
  | cons o r ih =>
    intro h i
    cases i with
    | zero => exact h.1
    | succ i => exact ih h.2 i
theorem ce_mono {tb : List ce_Op} (hT : ce_TL tb) : ∀ (n : Nat) (i : Nat) (nn : Nat × Nat) (ls : List (Option ce_V)) (st : List ce_V) (S : ce_S) (res : Option ce_V × ce_S), ce_run tb n i nn ls st S = some res → ce_run tb (n + 1) i nn ls st S = some res := by
  intro n
  induction n with
  | zero => intro i nn ls st S res h; cases h
  | succ n ih =>
    intro i nn ls st S res h
    have h : (tb.getD i ce_bad) i nn ls st S (ce_run tb n) = some res := h
    show (tb.getD i ce_bad) i nn ls st S (ce_run tb (n + 1)) = some res
    rcases hT.at tb i i nn ls st S _ res h with q | ⟨i', nn', ls', st', S', h1, h2⟩
    · exact q _
    · exact h2 _ (ih _ _ _ _ _ _ h1)
theorem ce_monoLe {tb : List ce_Op} (hT : ce_TL tb) {n m : Nat} (hnm : n ≤ m) {i : Nat} {nn : Nat × Nat} {ls : List (Option ce_V)} {st : List ce_V} {S : ce_S} {res : Option ce_V × ce_S} (h : ce_run tb n i nn ls st S = some res) : ce_run tb m i nn ls st S = some res := by
  induction m with
  | zero => rw [Nat.le_zero.mp hnm] at h; exact h
  | succ m ih =>
    rcases Nat.lt_or_ge n (m + 1) with q | q
    · exact ce_mono hT m _ _ _ _ _ _ (ih (by omega))
    · rw [show m + 1 = n by omega]; exact h
def ce_Ev (tb : List ce_Op) (i : Nat) (nn : Nat × Nat) (ls : List (Option ce_V)) (st : List ce_V) (S : ce_S) (res : Option ce_V × ce_S) : Prop := ∃ n, ce_run tb n i nn ls st S = some res
theorem ce_Ev.uniq {tb : List ce_Op} (hT : ce_TL tb) {i : Nat} {nn : Nat × Nat} {ls : List (Option ce_V)} {st : List ce_V} {S : ce_S} {r1 r2 : Option ce_V × ce_S} (h1 : ce_Ev tb i nn ls st S r1) (h2 : ce_Ev tb i nn ls st S r2) : r1 = r2 := by
  obtain ⟨n1, h1⟩ := h1
  obtain ⟨n2, h2⟩ := h2
  have a := ce_monoLe hT (Nat.le_max_left n1 n2) h1
  have b := ce_monoLe hT (Nat.le_max_right n1 n2) h2
  exact Option.some.inj (a.symm.trans b)
theorem ce_Ev.step {tb : List ce_Op} (hT : ce_TL tb) {i : Nat} {nn : Nat × Nat} {ls : List (Option ce_V)} {st : List ce_V} {S : ce_S} {k : ce_K} {res : Option ce_V × ce_S} (h : (tb.getD i ce_bad) i nn ls st S k = some res) (hk : ∀ i' nn' ls' st' S', k i' nn' ls' st' S' = some res → ce_Ev tb i' nn' ls' st' S' res) : ce_Ev tb i nn ls st S res := by
  rcases hT.at tb i i nn ls st S _ res h with q | ⟨i', nn', ls', st', S', h1, h2⟩
  · exact ⟨1, q _⟩
  · obtain ⟨n, hn⟩ := hk _ _ _ _ _ h1
    exact ⟨n + 1, h2 _ hn⟩
/-- a stretch: at most K steps, up to a place of 'cut' -/
noncomputable def ce_sg (tb : List ce_Op) (cut : List Nat) (K : Nat) (kk : ce_K) : ce_K := Nat.rec (motive := fun _ => ce_K) (fun _ _ _ _ _ => none) (fun _ ih i nn ls st S => (tb.getD i ce_bad) i nn ls st S (fun i' nn' ls' st' S' => Bool.rec (motive := fun _ => ce_Rs) (ih i' nn' ls' st' S') (kk i' nn' ls' st' S') (cut.elem i'))) K
theorem ce_Ev.sg {tb : List ce_Op} (hT : ce_TL tb) {cut : List Nat} {kk : ce_K} {res : Option ce_V × ce_S} (hk : ∀ i' nn' ls' st' S', kk i' nn' ls' st' S' = some res → ce_Ev tb i' nn' ls' st' S' res) : ∀ (K i : Nat) (nn : Nat × Nat) (ls : List (Option ce_V)) (st : List ce_V) (S : ce_S), ce_sg tb cut K kk i nn ls st S = some res → ce_Ev tb i nn ls st S res := by
  intro K
  induction K with
  | zero => intro i nn ls st S h; cases h
  | succ K ih =>
    intro i nn ls st S h
    refine ce_Ev.step hT (k := fun i' nn' ls' st' S' => Bool.rec (motive := fun _ => ce_Rs) (ce_sg tb cut K kk i' nn' ls' st' S') (kk i' nn' ls' st' S') (cut.elem i')) h (fun i' nn' ls' st' S' h2 => ?_)
    cases hc : cut.elem i' with
    | true => rw [hc] at h2; exact hk _ _ _ _ _ h2
    | false => rw [hc] at h2; exact ih _ _ _ _ _ h2
noncomputable def ce_kk (tb : List ce_Op) (res : Option ce_V × ce_S) : ce_K := fun i nn ls st S => (Classical.propDecidable (ce_Ev tb i nn ls st S res)).casesOn (fun _ => none) (fun _ => some res)
theorem ce_kk_of {tb : List ce_Op} {res : Option ce_V × ce_S} {i : Nat} {nn : Nat × Nat} {ls : List (Option ce_V)} {st : List ce_V} {S : ce_S} (h : ce_Ev tb i nn ls st S res) : ce_kk tb res i nn ls st S = some res := by
  unfold ce_kk
  cases Classical.propDecidable (ce_Ev tb i nn ls st S res) with
  | isTrue _ => rfl
  | isFalse q => exact absurd h q
theorem ce_of_kk {tb : List ce_Op} {res : Option ce_V × ce_S} {i : Nat} {nn : Nat × Nat} {ls : List (Option ce_V)} {st : List ce_V} {S : ce_S} (h : ce_kk tb res i nn ls st S = some res) : ce_Ev tb i nn ls st S res := by
  unfold ce_kk at h
  cases hq : Classical.propDecidable (ce_Ev tb i nn ls st S res) with
  | isTrue q => exact q
  | isFalse q => rw [hq] at h; cases h
/-- by a stretch whose meaning is known -/
theorem ce_by {tb : List ce_Op} (hT : ce_TL tb) {cut : List Nat} {K i : Nat} {nn : Nat × Nat} {ls : List (Option ce_V)} {st : List ce_V} {S : ce_S} {E : ce_K → ce_Rs} {res : Option ce_V × ce_S} (hE : ∀ kk, ce_sg tb cut K kk i nn ls st S = E kk) (h : E (ce_kk tb res) = some res) : ce_Ev tb i nn ls st S res := ce_Ev.sg hT (fun _ _ _ _ _ q => ce_of_kk q) K i nn ls st S ((hE _).trans h)
/-! a method's function: what its steps come to -/
def ce_gd (t : Option Nat) (nL : Nat) (a : List ce_V) : Prop := a.length ≤ nL ∧ (∀ v ∈ a, ∀ x, v ≠ .inr (.inr x)) ∧ (∀ t', t = some t' → ∃ j as, a = .inr (.inl (t', j)) :: as)
def ce_ls (nL : Nat) (a : List ce_V) : List (Option ce_V) := a.map some ++ List.replicate (nL - a.length) none
theorem ce_pickOf {α : Type} (P : α → Prop) (c : Prop) : ∃ f : Option α, (∀ x, f = some x → c ∧ P x) ∧ ((c ∧ ∃ x, P x) → ∃ x, f = some x) := by
  rcases Classical.em (c ∧ ∃ x, P x) with ⟨h0, x, h⟩ | h
  · exact ⟨some x, fun y e => by cases e; exact ⟨h0, h⟩, fun _ => ⟨x, rfl⟩⟩
  · exact ⟨none, (fun y e => by cases e), fun q => absurd q h⟩
noncomputable def ce_pick {α : Type} (P : α → Prop) (c : Prop) : Option α := Classical.choose (ce_pickOf P c)
theorem ce_pick_of {α : Type} {P : α → Prop} {c : Prop} {x : α} (h : ce_pick P c = some x) : c ∧ P x := (Classical.choose_spec (ce_pickOf P c)).1 x h
theorem ce_pick_eq {α : Type} {P : α → Prop} {c : Prop} {x : α} (hc : c) (h : P x) (hu : ∀ y, P y → y = x) : ce_pick P c = some x := by
  obtain ⟨y, hy⟩ := (Classical.choose_spec (ce_pickOf P c)).2 ⟨hc, x, h⟩
  have hy : ce_pick P c = some y := hy
  rw [hy, hu y (ce_pick_of hy).2]
noncomputable def ce_fV (tb : List ce_Op) (nL : Nat) (t : Option Nat) : List ce_V → ce_S → Option ce_S := fun a S => ce_pick (fun S' => ce_Ev tb 0 (0, 0) (ce_ls nL a) [] S (none, S')) (ce_gd t nL a)
noncomputable def ce_fI (tb : List ce_Op) (nL : Nat) (t : Option Nat) : List ce_V → ce_S → Option (Int32 × ce_S) := fun a S => ce_pick (fun q => ce_Ev tb 0 (0, 0) (ce_ls nL a) [] S (some (.inl q.1), q.2)) (ce_gd t nL a)
noncomputable def ce_fL (tb : List ce_Op) (nL : Nat) (t : Option Nat) : List ce_V → ce_S → Option (Int64 × ce_S) := fun a S => ce_pick (fun q => ce_Ev tb 0 (0, 0) (ce_ls nL a) [] S (some (.inr (.inr q.1)), q.2)) (ce_gd t nL a)
noncomputable def ce_fR (tb : List ce_Op) (nL : Nat) (t : Option Nat) (rt : Nat) : List ce_V → ce_S → Option (Nat × ce_S) := fun a S => ce_pick (fun q => ce_Ev tb 0 (0, 0) (ce_ls nL a) [] S (some (.inr (.inl (rt, q.1))), q.2)) (ce_gd t nL a)
theorem ce_fV_eq {tb : List ce_Op} {nL : Nat} {t : Option Nat} {a : List ce_V} {S S' : ce_S} (hT : ce_TL tb) (hg : ce_gd t nL a) (h : ce_Ev tb 0 (0, 0) (ce_ls nL a) [] S (none, S')) : ce_fV tb nL t a S = some S' := ce_pick_eq hg h (fun y hy => by have := hy.uniq hT h; simpa using this)
theorem ce_fI_eq {tb : List ce_Op} {nL : Nat} {t : Option Nat} {a : List ce_V} {S S' : ce_S} {x : Int32} (hT : ce_TL tb) (hg : ce_gd t nL a) (h : ce_Ev tb 0 (0, 0) (ce_ls nL a) [] S (some (.inl x), S')) : ce_fI tb nL t a S = some (x, S') := ce_pick_eq hg h (fun y hy => by have := hy.uniq hT h; obtain ⟨y1, y2⟩ := y; cases this; rfl)
theorem ce_fL_eq {tb : List ce_Op} {nL : Nat} {t : Option Nat} {a : List ce_V} {S S' : ce_S} {x : Int64} (hT : ce_TL tb) (hg : ce_gd t nL a) (h : ce_Ev tb 0 (0, 0) (ce_ls nL a) [] S (some (.inr (.inr x)), S')) : ce_fL tb nL t a S = some (x, S') := ce_pick_eq hg h (fun y hy => by have := hy.uniq hT h; obtain ⟨y1, y2⟩ := y; cases this; rfl)
theorem ce_fR_eq {tb : List ce_Op} {nL : Nat} {t : Option Nat} {a : List ce_V} {S S' : ce_S} {rt x : Nat} (hT : ce_TL tb) (hg : ce_gd t nL a) (h : ce_Ev tb 0 (0, 0) (ce_ls nL a) [] S (some (.inr (.inl (rt, x))), S')) : ce_fR tb nL t rt a S = some (x, S') := ce_pick_eq hg h (fun y hy => by have := hy.uniq hT h; obtain ⟨y1, y2⟩ := y; cases this; rfl)
theorem ce_fV_run {tb : List ce_Op} {nL : Nat} {t : Option Nat} : ∀ (a : List ce_V) (S : ce_S) (res : Option ce_V × ce_S), ce_wV (ce_fV tb nL t) a S = some res → a.length ≤ nL ∧ (∀ v ∈ a, ∀ x, v ≠ .inr (.inr x)) ∧ ∃ n, ce_run tb n 0 (0, 0) (a.map some ++ List.replicate (nL - a.length) none) [] S = some res := by
  intro a S res h
  unfold ce_wV at h
  cases hF : ce_fV tb nL t a S with
  | none => rw [hF] at h; cases h
  | some q => rw [hF] at h; cases h; obtain ⟨h1, h2⟩ := ce_pick_of hF; exact ⟨h1.1, h1.2.1, h2⟩
theorem ce_fI_run {tb : List ce_Op} {nL : Nat} {t : Option Nat} : ∀ (a : List ce_V) (S : ce_S) (res : Option ce_V × ce_S), ce_wI (ce_fI tb nL t) a S = some res → a.length ≤ nL ∧ (∀ v ∈ a, ∀ x, v ≠ .inr (.inr x)) ∧ ∃ n, ce_run tb n 0 (0, 0) (a.map some ++ List.replicate (nL - a.length) none) [] S = some res := by
  intro a S res h
  unfold ce_wI at h
  cases hF : ce_fI tb nL t a S with
  | none => rw [hF] at h; cases h
  | some q => rw [hF] at h; cases h; obtain ⟨h1, h2⟩ := ce_pick_of hF; exact ⟨h1.1, h1.2.1, h2⟩
theorem ce_fL_run {tb : List ce_Op} {nL : Nat} {t : Option Nat} : ∀ (a : List ce_V) (S : ce_S) (res : Option ce_V × ce_S), ce_wL (ce_fL tb nL t) a S = some res → a.length ≤ nL ∧ (∀ v ∈ a, ∀ x, v ≠ .inr (.inr x)) ∧ ∃ n, ce_run tb n 0 (0, 0) (a.map some ++ List.replicate (nL - a.length) none) [] S = some res := by
  intro a S res h
  unfold ce_wL at h
  cases hF : ce_fL tb nL t a S with
  | none => rw [hF] at h; cases h
  | some q => rw [hF] at h; cases h; obtain ⟨h1, h2⟩ := ce_pick_of hF; exact ⟨h1.1, h1.2.1, h2⟩
theorem ce_fR_run {tb : List ce_Op} {nL rt : Nat} {t : Option Nat} : ∀ (a : List ce_V) (S : ce_S) (res : Option ce_V × ce_S), ce_wR rt (ce_fR tb nL t rt) a S = some res → a.length ≤ nL ∧ (∀ v ∈ a, ∀ x, v ≠ .inr (.inr x)) ∧ ∃ n, ce_run tb n 0 (0, 0) (a.map some ++ List.replicate (nL - a.length) none) [] S = some res := by
  intro a S res h
  unfold ce_wR at h
  cases hF : ce_fR tb nL t rt a S with
  | none => rw [hF] at h; cases h
  | some q => rw [hF] at h; cases h; obtain ⟨h1, h2⟩ := ce_pick_of hF; exact ⟨h1.1, h1.2.1, h2⟩
theorem ce_fV_rec {tb : List ce_Op} {nL t : Nat} (a : List ce_V) (S : ce_S) (res : Option ce_V × ce_S) (h : ce_wV (ce_fV tb nL (some t)) a S = some res) : ∃ j as, a = .inr (.inl (t, j)) :: as := by
  unfold ce_wV at h
  cases hF : ce_fV tb nL (some t) a S with
  | none => rw [hF] at h; cases h
  | some q => exact (ce_pick_of hF).1.2.2 t rfl
theorem ce_fI_rec {tb : List ce_Op} {nL t : Nat} (a : List ce_V) (S : ce_S) (res : Option ce_V × ce_S) (h : ce_wI (ce_fI tb nL (some t)) a S = some res) : ∃ j as, a = .inr (.inl (t, j)) :: as := by
  unfold ce_wI at h
  cases hF : ce_fI tb nL (some t) a S with
  | none => rw [hF] at h; cases h
  | some q => exact (ce_pick_of hF).1.2.2 t rfl
theorem ce_fL_rec {tb : List ce_Op} {nL t : Nat} (a : List ce_V) (S : ce_S) (res : Option ce_V × ce_S) (h : ce_wL (ce_fL tb nL (some t)) a S = some res) : ∃ j as, a = .inr (.inl (t, j)) :: as := by
  unfold ce_wL at h
  cases hF : ce_fL tb nL (some t) a S with
  | none => rw [hF] at h; cases h
  | some q => exact (ce_pick_of hF).1.2.2 t rfl
theorem ce_fR_rec {tb : List ce_Op} {nL t rt : Nat} (a : List ce_V) (S : ce_S) (res : Option ce_V × ce_S) (h : ce_wR rt (ce_fR tb nL (some t) rt) a S = some res) : ∃ j as, a = .inr (.inl (t, j)) :: as := by
  unfold ce_wR at h
  cases hF : ce_fR tb nL (some t) rt a S with
  | none => rw [hF] at h; cases h
  | some q => exact (ce_pick_of hF).1.2.2 t rfl
end
section
/-! System.arraycopy, and that nothing else changes -/
section CECP
variable {p : Program} {l : Launch} {e : Env} {R : Room} {s : State} {m : MethodId} {args : Array Value} {below : List Frame} {meth : Method} {c : Code} {H : Heap} {locs : List Loc} {cells slots : Nat} {Q : State → Prop}
variable {cc : ByteArray} {pc : Nat} {ls : Array Slot} {rest : List Value} {a : Nat}
theorem ce_copy {cc : ByteArray} (hexec : p.tables.exec = Jvm.exec) (hb : c.code = cc) (hml : c.maxLocals = ls.size) {own : String} {index : Nat} (hown : s.vm.findClass own = some m.cls) (hlink : (Cond.methodLink own index arraycopyName).before args s = true) (hnat : (Cond.native arraycopyName).before args s = true) (hstat : (Cond.static arraycopyName).before args s = true) (hini : (Cond.initialized "java/lang/System").before args s = true)
    {a0 : Nat} {c0 : ClassId} {n0 n1 : Nat} {f g : Nat → Int32} (hA : ArrOfT s c0 .int) (hc0 : H[a0]? = some (vp_cell c0 (n0, .inl f))) (hc1 : H[a]? = some (vp_cell c0 (n1, .inl g)))
    {sp dp n : Int32} (h1 : ¬ sp < 0) (h2 : ¬ dp < 0) (h3 : ¬ n < 0) (h4 : sp.toNatClampNeg + n.toNatClampNeg ≤ n0) (h5 : dp.toNatClampNeg + n.toNatClampNeg ≤ n1)
    (hframes : 1 ≤ R.frames) (hlocals : (rest.map fun v => v.category).sum + (nativeFrameWords "java/lang/System" "arraycopy" 5 + 11) ≤ R.locals) (hdg : decode cc pc = .ok (.invokestatic index, 3))
    (kk : ∀ (H1 : Heap) (L : List Loc), (∀ q ∈ L, q.base = a) → H1[a]? = some (vp_cell c0 (n1, .inl (va_cpy f g sp.toNatClampNeg dp.toNatClampNeg n.toNatClampNeg))) → H1.size = H.size → (∀ q : Nat, q ≠ a → H1[q]? = H[q]?) → W p l e R s m args below meth c H1 (locs ++ L) cells slots Q (F0 m (pc + 3) ls rest)) : W p l e R s m args below meth c H locs cells slots Q (F0 m pc ls (.int n :: .int dp :: .ref a :: .int sp :: .ref a0 :: rest)) := by
  have nn : ∀ z : Int32, ¬ z < 0 → z.toInt = (z.toNatClampNeg : Int) := by
    intro z hz
    have hz0 : (0 : Int) ≤ z.toInt := by
      have := Int32.not_lt.mp hz
      simpa using Int32.le_iff_toInt_le.mp this
    show z.toInt = ((z.toInt.toNat : Nat) : Int)
    omega
  intro T hT X
  obtain ⟨-, k0, hk0, cm0, hkk0⟩ := hA n0 (fun j => .int (f j))
  obtain ⟨-, k1, hk1, cm1, hkk1⟩ := hA n1 (fun j => .int (g j))
  obtain ⟨vm', X', step⟩ := X.arraycopy hexec hown hlink hnat hstat hini (src := a0) (dst := a) (cs := vp_cell c0 (n0, .inl f)) (cd := vp_cell c0 (n1, .inl g)) (srcPos := sp) (destPos := dp) (n := n) (by rw [hT]; exact hc0) (by rw [hT]; exact hc1)
    (fun _ h => by cases h) (fun _ h => by cases h) (fun h => by cases h) (fun h => by cases h) hk0 hk1 hkk0 hkk1 (by simp [refKind]) h1 h2 h3
    (by rw [nn sp h1, nn n h3]; show ¬ _ > ((arrV c0 n0 (fun j => .int (f j))).slots.size : Int); rw [arrV_size]; omega)
    (by rw [nn dp h2, nn n h3]; show ¬ _ > ((arrV c0 n1 (fun j => .int (g j))).slots.size : Int); rw [arrV_size]; omega)
    (fun vm₁ _ i hi => by
      have e : (vp_cell c0 (n0, .inl f)).slots.getD (sp.toNatClampNeg + i) .null = .int (f (sp.toNatClampNeg + i)) := by
        show (arrV c0 n0 (fun j => .int (f j))).slots.getD _ _ = _
        rw [Array.getD_eq_getD_getElem?, arrV_read _ _ (by omega)]
        rfl
      refine ⟨?_, ?_⟩
      · rw [e]
        rfl
      · rw [e]
        exact trivial)
    (g := F0 m pc ls (.int n :: .int dp :: .ref a :: .int sp :: .ref a0 :: rest)) rfl (by rw [hml]) (rest := rest) rfl (by rw [hb]; exact hdg) hframes (by show 2 * 0 + _ + _ ≤ _; omega)
  have e1 : copied (vp_cell c0 (n0, .inl f)) (vp_cell c0 (n1, .inl g)) sp dp n = vp_cell c0 (n1, .inl (va_cpy f g sp.toNatClampNeg dp.toNatClampNeg n.toNatClampNeg)) := va_copied (fun z => .int z) c0 c0 f g h4
  rw [e1] at X' step
  have hl : a < H.size := (Array.getElem?_eq_some_iff.mp hc1).1
  have hheap : ((T.setVm vm').setCell a (vp_cell c0 (n1, .inl (va_cpy f g sp.toNatClampNeg dp.toNatClampNeg n.toNatClampNeg)))).heap = H.setIfInBounds a (vp_cell c0 (n1, .inl (va_cpy f g sp.toNatClampNeg dp.toNatClampNeg n.toNatClampNeg))) := by rw [← hT]; rfl
  have oq : ∀ q : Nat, q ≠ a → (H.setIfInBounds a (vp_cell c0 (n1, .inl (va_cpy f g sp.toNatClampNeg dp.toNatClampNeg n.toNatClampNeg))))[q]? = H[q]? := fun q hq => by simp [Array.getElem?_setIfInBounds, Ne.symm hq]
  obtain ⟨t, a1, b1⟩ := kk _ _ (fun q hq => by
      obtain ⟨z, -, hz⟩ := List.mem_map.mp hq
      rw [← hz]) (show (H.setIfInBounds a _)[a]? = some _ by simp [Array.getElem?_setIfInBounds, hl]) (by simp) oq _ hheap X'
  exact ⟨t, step t a1, b1⟩
end CECP
def o_copy (t t' : Nat) : ce_Op := fun i nn ls st S k => match st with
  | .inl n :: .inl dp :: .inr (.inl q') :: .inl sp :: .inr (.inl q) :: r => if q.1 = t ∧ q'.1 = t' ∧ ¬ sp < 0 ∧ ¬ dp < 0 ∧ ¬ n < 0 ∧ sp.toNatClampNeg + n.toNatClampNeg ≤ ce_len S t q.2 ∧ dp.toNatClampNeg + n.toNatClampNeg ≤ ce_len S t' q'.2 ∧ r.length ≤ 4 then k (i + 1) nn ls r (ce_sF S t' q'.2 (va_cpy (ce_A S t q.2) (ce_A S t' q'.2) sp.toNatClampNeg dp.toNatClampNeg n.toNatClampNeg)) else none
  | _ => none
theorem ta_copy {t t' : Nat} : ce_Tail (o_copy t t') := by
  intro i nn ls st S k res h
  unfold o_copy at h ⊢
  split at h
  · split at h
    · rename_i hc
      simp only [if_pos hc]
      exact Or.inr ⟨_, _, _, _, _, h, fun k' q => q⟩
    · cases h
  · cases h
theorem ce_sF_A {S : ce_S} {t j : Nat} {f : Nat → Int32} : ce_A (ce_sF S t j f) t j = f := by
  show (if t = t then (if j = j then f else _) else _) = f
  rw [if_pos rfl, if_pos rfl]
theorem ce_sF_ne {S : ce_S} {t j t' j' : Nat} {f : Nat → Int32} (h : ¬ (t' = t ∧ j' = j)) : ce_A (ce_sF S t j f) t' j' = ce_A S t' j' := by
  show (if t' = t then (if j' = j then f else S.2.2.1 t' j') else S.2.2.1 t' j') = S.2.2.1 t' j'
  by_cases h1 : t' = t
  · rw [if_pos h1, if_neg (fun q => h ⟨h1, q⟩)]
  · rw [if_neg h1]
section CECO
variable {l : Launch} {cc : ByteArray} {own : String} {nL : Nat} {rt : Option FieldType} {d MC MS : Nat} {pcs : List Nat} {i pc : Nat}
theorem ok_copy {t t' ix p1 p2 p3 p4 : Nat} (hp : pcs.getD i 0 = pc) (hp' : pcs.getD (i + 1) 0 = pc + 3) (hd : decode cc pc = .ok (.invokestatic ix, 3)) (hD : 2 ≤ d) (hso : ce_so t = 1) (hso' : ce_so t' = 1) (g1 : lw_tbl[p1]? = some (Cond.methodLink own ix arraycopyName)) (g2 : lw_tbl[p2]? = some (Cond.native arraycopyName)) (g3 : lw_tbl[p3]? = some (Cond.static arraycopyName)) (g4 : lw_tbl[p4]? = some (Cond.initialized "java/lang/System")) : ce_Ok l cc own nL rt d MC MS pcs i (o_copy t t') := by
  intro nn ls st S k res h hk p e s m args below meth c D ca b0 ad0 S0 ad H locs rls hC h61 hX hR hT h1 h2
  obtain ⟨hx, hb, hml, hown, ⟨w0, hts⟩, hr, hlk, hG⟩ := id hC
  unfold o_copy at h
  split at h
  · rename_i n dp q' sp q r
    by_cases hq : q.1 = t ∧ q'.1 = t' ∧ ¬ sp < 0 ∧ ¬ dp < 0 ∧ ¬ n < 0 ∧ sp.toNatClampNeg + n.toNatClampNeg ≤ ce_len S t q.2 ∧ dp.toNatClampNeg + n.toNatClampNeg ≤ ce_len S t' q'.2 ∧ r.length ≤ 4
    · rw [if_pos hq] at h
      obtain ⟨e1, e2, k1, k2, k3, k4, k5, k6⟩ := hq
      rw [hp]
      have hv : q.2 < ce_C S t := by have := ce_okT_hd (ce_okT_tl (ce_okT_tl (ce_okT_tl (ce_okT_tl hT)))); rw [← e1]; exact this
      have hv' : q'.2 < ce_C S t' := by have := ce_okT_hd (ce_okT_tl (ce_okT_tl hT)); rw [← e2]; exact this
      obtain ⟨⟨-, ho, -⟩, -, -⟩ := hR.1.1 t q.2 hv (by rw [hso]; decide)
      obtain ⟨⟨-, ho', -⟩, hb0, -⟩ := hR.1.1 t' q'.2 hv' (by rw [hso']; decide)
      have hq2 : ce_val ad (.inr (.inl q)) = .ref (ad t q.2) := by rw [← e1]; rfl
      have hq2' : ce_val ad (.inr (.inl q')) = .ref (ad t' q'.2) := by rw [← e2]; rfl
      rw [List.map_cons, List.map_cons, List.map_cons, List.map_cons, List.map_cons, hq2, hq2']
      have h8 := ce_cat8 (ad := ad) k6
      have h80 : nativeFrameWords "java/lang/System" "arraycopy" 5 ≤ 80 := by decide +kernel
      have hfr : 1 ≤ (ce_rm d MC MS).frames := by show 1 ≤ d; omega
      have hlo : ((r.map (ce_val ad)).map fun v => v.category).sum + (nativeFrameWords "java/lang/System" "arraycopy" 5 + 11) ≤ (ce_rm d MC MS).locals := by
        show _ ≤ 60 * d
        omega
      refine ce_copy hx hb (hml.trans hR.2.2.1.1.symm) hown (ce_wIn hts g1 rfl) (ce_wIn hts g2 (by decide +kernel)) (ce_wIn hts g3 rfl) (ce_wIn hts g4 rfl) (hG.1.2 0 _ rfl).1 (ho hso) (ho' hso') k1 k2 k3 k4 k5 hfr hlo hd (fun H1 L hL c1 c2 c3 => ?_)
      have hSS : va_S (fun q => b0 q) s.heap H1 (locs ++ L) := by
        refine ⟨by rw [c2]; exact hR.2.1.1, fun z g1 g2 => ?_, fun z hz => ?_⟩
        · rw [c3 z (fun e => g2 (by rw [e]; exact hb0))]
          exact hR.2.1.2.1 z g1 g2
        · rcases List.mem_append.mp hz with g | g
          · exact hR.2.1.2.2 z g
          · show b0 z.base
            rw [hL z g]; exact hb0
      have w := hk _ _ _ _ _ h p e s m args below meth c D ca b0 ad0 S0 ad H1 (locs ++ L) rls hC h61 hX ⟨hR.1.putA hv' hso' (by rw [ce_sF_A]; exact c1) c2 c3 rfl rfl rfl (fun t1 i1 hne e => by rw [ce_sF_ne hne]), hSS, hR.2.2.1, hR.2.2.2.1, ce_okL_kept (fun _ => rfl) hR.2.2.2.2.1, ce_ag_kept (fun _ => rfl) hR.2.2.2.2.2⟩ (ce_okT_kept (fun _ => rfl) (ce_okT_tl (ce_okT_tl (ce_okT_tl (ce_okT_tl (ce_okT_tl hT)))))) h1 h2
      rw [hp'] at w
      exact w
    · rw [if_neg hq] at h; cases h
  · cases h
end CECO
end
section
/-! text constants: steps of String's own members -/
def o_ldcS (j : Nat) : ce_Op := fun i nn ls st S k => k (i + 1) nn ls (.inr (.inl (61, j)) :: st) S
def o_sval : ce_Op := fun i nn ls st S k => match st with
  | .inr (.inl q) :: r => if q.1 = 61 ∧ q.2 < 13 then k (i + 1) nn ls (.inr (.inl (62, q.2)) :: r) S else none
  | _ => none
def o_scod : ce_Op := fun i nn ls st S k => match st with
  | .inr (.inl q) :: r => if q.1 = 61 ∧ q.2 < 13 then k (i + 1) nn ls (.inl 0 :: r) S else none
  | _ => none
def o_blen : ce_Op := fun i nn ls st S k => match st with
  | .inr (.inl q) :: r => if q.1 = 62 ∧ q.2 < 13 then k (i + 1) nn ls (.inl (nI (ce_sN.getD q.2 0)) :: r) S else none
  | _ => none
def o_bld : ce_Op := fun i nn ls st S k => match st with
  | .inl x :: .inr (.inl q) :: r => if q.1 = 62 ∧ q.2 < 13 ∧ ¬ (x < 0 ∨ ce_sN.getD q.2 0 ≤ x.toNatClampNeg) then k (i + 1) nn ls (.inl ((ce_sB.getD q.2 []).getD x.toNatClampNeg 0) :: r) S else none
  | _ => none
def o_bret : ce_Op := fun _ _ _ st S _ => match st with
  | [.inl x] => if x = 0 then some (some (.inl x), S) else none
  | _ => none
def o_cret : ce_Op := fun _ _ _ st S _ => match st with
  | [.inl x] => if (x.toUInt32 % 65536).toInt32 = x then some (some (.inl x), S) else none
  | _ => none
theorem ta_ldcS {j : Nat} : ce_Tail (o_ldcS j) := fun _ _ _ _ _ _ _ h => ce_ta1 _ _ _ _ _ (fun _ => rfl) h
theorem ta_sval : ce_Tail o_sval := by
  intro i nn ls st S k res h
  unfold o_sval at h ⊢
  split at h
  · split at h
    · rename_i hc
      simp only [if_pos hc]
      exact Or.inr ⟨_, _, _, _, _, h, fun k' q => q⟩
    · cases h
  · cases h
theorem ta_scod : ce_Tail o_scod := by
  intro i nn ls st S k res h
  unfold o_scod at h ⊢
  split at h
  · split at h
    · rename_i hc
      simp only [if_pos hc]
      exact Or.inr ⟨_, _, _, _, _, h, fun k' q => q⟩
    · cases h
  · cases h
theorem ta_blen : ce_Tail o_blen := by
  intro i nn ls st S k res h
  unfold o_blen at h ⊢
  split at h
  · split at h
    · rename_i hc
      simp only [if_pos hc]
      exact Or.inr ⟨_, _, _, _, _, h, fun k' q => q⟩
    · cases h
  · cases h
theorem ta_bld : ce_Tail o_bld := by
  intro i nn ls st S k res h
  unfold o_bld at h ⊢
  split at h
  · split at h
    · rename_i hc
      simp only [if_pos hc]
      exact Or.inr ⟨_, _, _, _, _, h, fun k' q => q⟩
    · cases h
  · cases h
theorem ta_bret : ce_Tail o_bret := fun _ _ _ _ _ _ _ h => ce_ta0 (fun _ => rfl) h
theorem ta_cret : ce_Tail o_cret := fun _ _ _ _ _ _ _ h => ce_ta0 (fun _ => rfl) h
section CEJ
variable {l : Launch} {cc : ByteArray} {own : String} {nL : Nat} {rt : Option FieldType} {d MC MS : Nat} {pcs : List Nat} {i pc : Nat}
theorem ok_ldcS {j ix : Nat} {tx : String} (hp : pcs.getD i 0 = pc) (hp' : pcs.getD (i + 1) 0 = pc + 2) (hd : decode cc pc = .ok (.ldc ix, 2)) (hj : ce_tR[j]? = some (own, ix, tx)) : ce_Ok l cc own nL rt d MC MS pcs i (o_ldcS j) := by
  intro nn ls st S k res h hk p e s m args below meth c D ca b0 ad0 S0 ad H locs rls hC h61 hX hR hT h1 h2
  obtain ⟨hx, hb, hml, hown, ⟨w0, hts⟩, hr, hlk, hG⟩ := id hC
  have hj13 : j < 13 := (List.getElem?_eq_some_iff.mp hj).1
  obtain ⟨a1, a2⟩ := hR.2.2.2.2.2 61 j (Nat.lt_of_lt_of_le hj13 h61.1)
  have w := hk _ _ _ _ _ h p e s m args below meth c D ca b0 ad0 S0 ad H locs rls hC h61 hX hR (ce_okT_cons a2 hT) h1 h2
  rw [hp'] at w
  rw [hp]
  refine va_ldcS hx hb hown (hX.2.1 j _ hj) hd ?_
  rw [← a1]
  exact w
theorem ok_sval {ix wp : Nat} (hp : pcs.getD i 0 = pc) (hp' : pcs.getD (i + 1) 0 = pc + 3) (hd : decode cc pc = .ok (.getfield ix, 3)) (hw : lw_tbl[wp]? = some (Cond.fieldLink own ix "java/lang/String" "value" "[B")) : ce_Ok l cc own nL rt d MC MS pcs i o_sval := by
  intro nn ls st S k res h hk p e s m args below meth c D ca b0 ad0 S0 ad H locs rls hC h61 hX hR hT h1 h2
  obtain ⟨hx, hb, hml, hown, ⟨w0, hts⟩, hr, hlk, hG⟩ := id hC
  unfold o_sval at h
  split at h
  · rename_i q r
    by_cases hq : q.1 = 61 ∧ q.2 < 13
    · rw [if_pos hq] at h
      obtain ⟨q1, q13⟩ := hq
      obtain ⟨a1, a2⟩ := hR.2.2.2.2.2 61 q.2 (Nat.lt_of_lt_of_le q13 h61.1)
      obtain ⟨c1, c2⟩ := hR.2.2.2.2.2 62 q.2 (Nat.lt_of_lt_of_le q13 h61.2)
      have w := hk _ _ _ _ _ h p e s m args below meth c D ca b0 ad0 S0 ad H locs rls hC h61 hX hR (ce_okT_cons c2 (ce_okT_tl hT)) h1 h2
      rw [hp'] at w
      rw [hp]
      have hq2 : ce_val ad (.inr (.inl q)) = .ref (ad0 61 q.2) := by rw [← a1, ← q1]; rfl
      rw [List.map_cons, hq2]
      refine vk_getf hx hb (hX.1.1 q.2 q13).2.2.1 hR.2.1 hown (ce_wIn hts hw rfl) (fun _ z => z) hd ?_
      rw [← c1]
      exact w
    · rw [if_neg hq] at h; cases h
  · cases h
theorem ok_scod {ix wp : Nat} (hp : pcs.getD i 0 = pc) (hp' : pcs.getD (i + 1) 0 = pc + 3) (hd : decode cc pc = .ok (.getfield ix, 3)) (hw : lw_tbl[wp]? = some (Cond.fieldLink own ix "java/lang/String" "coder" "B")) : ce_Ok l cc own nL rt d MC MS pcs i o_scod := by
  intro nn ls st S k res h hk p e s m args below meth c D ca b0 ad0 S0 ad H locs rls hC h61 hX hR hT h1 h2
  obtain ⟨hx, hb, hml, hown, ⟨w0, hts⟩, hr, hlk, hG⟩ := id hC
  unfold o_scod at h
  split at h
  · rename_i q r
    by_cases hq : q.1 = 61 ∧ q.2 < 13
    · rw [if_pos hq] at h
      obtain ⟨q1, q13⟩ := hq
      obtain ⟨a1, a2⟩ := hR.2.2.2.2.2 61 q.2 (Nat.lt_of_lt_of_le q13 h61.1)
      have w := hk _ _ _ _ _ h p e s m args below meth c D ca b0 ad0 S0 ad H locs rls hC h61 hX hR (ce_okT_cons trivial (ce_okT_tl hT)) h1 h2
      rw [hp'] at w
      rw [hp]
      have hq2 : ce_val ad (.inr (.inl q)) = .ref (ad0 61 q.2) := by rw [← a1, ← q1]; rfl
      rw [List.map_cons, hq2]
      exact vk_getf hx hb (hX.1.1 q.2 q13).2.1 hR.2.1 hown (ce_wIn hts hw rfl) (fun _ z => z) hd w
    · rw [if_neg hq] at h; cases h
  · cases h
theorem ok_blen (hp : pcs.getD i 0 = pc) (hp' : pcs.getD (i + 1) 0 = pc + 1) (hd : decode cc pc = .ok (.arraylength, 1)) : ce_Ok l cc own nL rt d MC MS pcs i o_blen := by
  intro nn ls st S k res h hk p e s m args below meth c D ca b0 ad0 S0 ad H locs rls hC h61 hX hR hT h1 h2
  obtain ⟨hx, hb, hml, hown, ⟨w0, hts⟩, hr, hlk, hG⟩ := id hC
  unfold o_blen at h
  split at h
  · rename_i q r
    by_cases hq : q.1 = 62 ∧ q.2 < 13
    · rw [if_pos hq] at h
      obtain ⟨q1, q13⟩ := hq
      obtain ⟨a1, a2⟩ := hR.2.2.2.2.2 62 q.2 (Nat.lt_of_lt_of_le q13 h61.2)
      have w := hk _ _ _ _ _ h p e s m args below meth c D ca b0 ad0 S0 ad H locs rls hC h61 hX hR (ce_okT_cons trivial (ce_okT_tl hT)) h1 h2
      rw [hp'] at w
      rw [hp]
      have hq2 : ce_val ad (.inr (.inl q)) = .ref (ad0 62 q.2) := by rw [← a1, ← q1]; rfl
      rw [List.map_cons, hq2]
      exact va_tlen hx hb (hX.1.1 q.2 q13).2.2.2 hR.2.1 rfl hd w
    · rw [if_neg hq] at h; cases h
  · cases h
theorem ok_bld (hp : pcs.getD i 0 = pc) (hp' : pcs.getD (i + 1) 0 = pc + 1) (hd : decode cc pc = .ok (.baload, 1)) : ce_Ok l cc own nL rt d MC MS pcs i o_bld := by
  intro nn ls st S k res h hk p e s m args below meth c D ca b0 ad0 S0 ad H locs rls hC h61 hX hR hT h1 h2
  obtain ⟨hx, hb, hml, hown, ⟨w0, hts⟩, hr, hlk, hG⟩ := id hC
  unfold o_bld at h
  split at h
  · rename_i x q r
    by_cases hq : q.1 = 62 ∧ q.2 < 13 ∧ ¬ (x < 0 ∨ ce_sN.getD q.2 0 ≤ x.toNatClampNeg)
    · rw [if_pos hq] at h
      obtain ⟨q1, q13, hin⟩ := hq
      obtain ⟨a1, a2⟩ := hR.2.2.2.2.2 62 q.2 (Nat.lt_of_lt_of_le q13 h61.2)
      have w := hk _ _ _ _ _ h p e s m args below meth c D ca b0 ad0 S0 ad H locs rls hC h61 hX hR (ce_okT_cons trivial (ce_okT_tl (ce_okT_tl hT))) h1 h2
      rw [hp'] at w
      rw [hp]
      have hq2 : ce_val ad (.inr (.inl q)) = .ref (ad0 62 q.2) := by rw [← a1, ← q1]; rfl
      rw [List.map_cons, List.map_cons, hq2]
      exact va_tb hx hb (hX.1.1 q.2 q13).2.2.2 hR.2.1 hin rfl hd w
    · rw [if_neg hq] at h; cases h
  · cases h
theorem ok_gst {ix wp : Nat} (hp : pcs.getD i 0 = pc) (hp' : pcs.getD (i + 1) 0 = pc + 3) (hd : decode cc pc = .ok (.getstatic ix, 3)) (hw : lw_tbl[wp]? = some (Cond.fieldLink own ix "java/lang/String" "COMPACT_STRINGS" "Z")) : ce_Ok l cc own nL rt d MC MS pcs i (o_int 1) := by
  intro nn ls st S k res h hk p e s m args below meth c D ca b0 ad0 S0 ad H locs rls hC h61 hX hR hT h1 h2
  obtain ⟨hx, hb, hml, hown, ⟨w0, hts⟩, hr, hlk, hG⟩ := id hC
  have w := hk _ _ _ _ _ h p e s m args below meth c D ca b0 ad0 S0 ad H locs rls hC h61 hX hR (ce_okT_cons trivial hT) h1 h2
  rw [hp'] at w
  rw [hp]
  exact va_gets hx hb hX.2.2.1 hR.2.1 hown (ce_wIn hts hw rfl) (fun _ z => z) hd w
theorem ok_ishr (hp : pcs.getD i 0 = pc) (hp' : pcs.getD (i + 1) 0 = pc + 1) (hd : decode cc pc = .ok (.ishr, 1)) : ce_Ok l cc own nL rt d MC MS pcs i (o_bin (fun x y => x >>> (y &&& 31))) := by
  intro nn ls st S k res h hk p e s m args below meth c D ca b0 ad0 S0 ad H locs rls hC h61 hX hR hT h1 h2
  obtain ⟨hx, hb, hml, hown, ⟨w0, hts⟩, hr, hlk, hG⟩ := id hC
  unfold o_bin at h
  split at h
  · rename_i y x r
    have w := hk _ _ _ _ _ h p e s m args below meth c D ca b0 ad0 S0 ad H locs rls hC h61 hX hR (ce_okT_cons trivial (ce_okT_tl (ce_okT_tl hT))) h1 h2
    rw [hp'] at w
    rw [hp]
    exact lv_ishr hx hb hd w
  · cases h
theorem ok_i2c (hp : pcs.getD i 0 = pc) (hp' : pcs.getD (i + 1) 0 = pc + 1) (hd : decode cc pc = .ok (.i2c, 1)) : ce_Ok l cc own nL rt d MC MS pcs i (o_un (fun x => (x.toUInt32 % 65536).toInt32)) := by
  intro nn ls st S k res h hk p e s m args below meth c D ca b0 ad0 S0 ad H locs rls hC h61 hX hR hT h1 h2
  obtain ⟨hx, hb, hml, hown, ⟨w0, hts⟩, hr, hlk, hG⟩ := id hC
  unfold o_un at h
  split at h
  · rename_i x r
    have w := hk _ _ _ _ _ h p e s m args below meth c D ca b0 ad0 S0 ad H locs rls hC h61 hX hR (ce_okT_cons trivial (ce_okT_tl hT)) h1 h2
    rw [hp'] at w
    rw [hp]
    exact lv_i2c hx hb hd rfl w
  · cases h
theorem ok_bret (hp : pcs.getD i 0 = pc) (hd : decode cc pc = .ok (.ireturn, 1)) (hrt : rt = some .byte) : ce_Ok l cc own nL rt d MC MS pcs i o_bret := by
  intro nn ls st S k res h hk p e s m args below meth c D ca b0 ad0 S0 ad H locs rls hC h61 hX hR hT h1 h2
  obtain ⟨hx, hb, hml, hown, ⟨w0, hts⟩, hr, hlk, hG⟩ := id hC
  unfold o_bret at h
  split at h
  · rename_i x
    by_cases hz : x = 0
    · rw [if_pos hz] at h
      cases h
      rw [hp]
      refine W.widen h1 h2 ?_
      exact W.zret hx hb (hr.trans hrt) (by rw [hz]; decide) (fun t ht hW => ⟨ad, hR.2.2.2.2.2, rfl, hR.2.2.2.1, fun v hv => by cases hv; trivial, by rw [ht]; exact hR.1, hR.2.1.F ht⟩) hR.2.1.2.2 hd
    · rw [if_neg hz] at h
      cases h
  · cases h
theorem ok_cret (hp : pcs.getD i 0 = pc) (hd : decode cc pc = .ok (.ireturn, 1)) (hrt : rt = some .char) : ce_Ok l cc own nL rt d MC MS pcs i o_cret := by
  intro nn ls st S k res h hk p e s m args below meth c D ca b0 ad0 S0 ad H locs rls hC h61 hX hR hT h1 h2
  obtain ⟨hx, hb, hml, hown, ⟨w0, hts⟩, hr, hlk, hG⟩ := id hC
  unfold o_cret at h
  split at h
  · rename_i x
    by_cases hz : (x.toUInt32 % 65536).toInt32 = x
    · rw [if_pos hz] at h
      cases h
      rw [hp]
      refine W.widen h1 h2 ?_
      exact W.zret hx hb (hr.trans hrt) (by rw [← hz]; exact pk_nc x) (fun t ht hW => ⟨ad, hR.2.2.2.2.2, rfl, hR.2.2.2.1, fun v hv => by cases hv; trivial, by rw [ht]; exact hR.1, hR.2.1.F ht⟩) hR.2.1.2.2 hd
    · rw [if_neg hz] at h
      cases h
  · cases h
/-- a member of a text constant -/
theorem ok_strV {op : ce_Op} {y : MethodName} {n d' ix p1 p2 p3 p4 : Nat} {F : List ce_V → ce_S → ce_Rs} (hop : ce_isC op (n + 1) 0 0 MC MS F) (hp : pcs.getD i 0 = pc) (hp' : pcs.getD (i + 1) 0 = pc + 3) (hd : decode cc pc = .ok (.invokevirtual ix, 3)) (hD : d' < d) (hc : ce_callee l y n d' 0 0 F) (hcl : y.cls = "java/lang/String") (hrec : ∀ a S res, F a S = some res → ∃ j as, j < 13 ∧ a = .inr (.inl (61, j)) :: as) (g1 : lw_tbl[p1]? = some (Cond.methodLink own ix y)) (g2 : lw_tbl[p2]? = some (Cond.instanceMethod y)) (g3 : lw_tbl[p3]? = some (Cond.selects y.cls y y)) (g4 : lw_tbl[p4]? = some (Cond.initialized y.cls)) : ce_Ok l cc own nL rt d MC MS pcs i op := by
  intro nn ls st S k res h hk p e s m args below meth c D ca b0 ad0 S0 ad H locs rls hC h61 hX hR hT h1 h2
  obtain ⟨hx, hb, hml, hown, ⟨w0, hts⟩, hr, hlk, hG⟩ := id hC
  obtain ⟨a1, a2, a3, a4, r, S', hF, hk2⟩ := hop i nn ls st S k res h
  obtain ⟨cc', nL', rt', hctr, hcode, hnl, hm1, hm2, hlen⟩ := hc
  obtain ⟨j, as, hj13, hje⟩ := hrec _ _ _ hF
  have hTa : ce_okT S (st.take (n + 1)).reverse := fun v hv => hT v (List.mem_of_mem_take (List.mem_reverse.mp hv))
  have hTr : ce_okT S (st.drop (n + 1)) := fun v hv => hT v (List.mem_of_mem_drop hv)
  rw [hp]
  rw [hje] at hF hTa
  have hM := hctr D ca b0 ad S _ _ hF hR.2.2.2.1 hTa (ce_h61 hR.2.2.2.2.2 h61)
  have hst := ce_stk (ad := ad) hje
  have hrv : ∃ cell : Cell, H[ad 61 j]? = some cell ∧ cell.vm.isStatics = false ∧ s.vm.findClass y.cls = some cell.cls := by
    rw [hcl, (hR.2.2.2.2.2 61 j (Nat.lt_of_lt_of_le hj13 h61.1)).1]
    exact vk_recv hX.1 hj13 hR.2.1
  refine ce_after hp' hk hC h61 hX hR hTr a1 a2 hk2 (va_runV (As := as.map (ce_val ad)) (b := ad 61 j) ⟨hx, hb, hml, hown, hts⟩ hM (cwV (C := y.cls) n hts (ce_gIn (ex := [.methodLink own ix y, .instanceMethod y, .selects y.cls y y, .initialized y.cls]) hcode (by
      intro w hw
      rcases List.mem_cons.mp hw with e | hw
      · subst e; exact ce_tw_at g1 rfl
      rcases List.mem_cons.mp hw with e | hw
      · subst e; exact ce_tw_at g2 rfl
      rcases List.mem_cons.mp hw with e | hw
      · subst e; exact ce_tw_at g3 rfl
      rcases List.mem_cons.mp hw with e | hw
      · subst e; exact ce_tw_at g4 rfl
      · cases hw)) rfl rfl rfl ⟨rfl, hm1, hm2, hlen⟩ ⟨hD, by show 8 + (nL' + 11) + 60 * d' ≤ 60 * d; omega⟩) ⟨ce_blind, hrv, fun U hU hW => ⟨rfl, ce_pre hG h61 hX hR U hU hW⟩⟩ rfl (by rw [List.length_map]; exact ce_alen hje a4) hR.2.2.1.1 hst (lv_room (ce_cat8 a3)) hd ⟨a1, a2⟩)
/-- a static method of another of the JDK's classes -/
theorem ok_statJ {op : ce_Op} {y : MethodName} {n d' mc ms ix p1 p2 p3 : Nat} {F : List ce_V → ce_S → ce_Rs} (hop : ce_isC op n mc ms MC MS F) (hp : pcs.getD i 0 = pc) (hp' : pcs.getD (i + 1) 0 = pc + 3) (hd : decode cc pc = .ok (.invokestatic ix, 3)) (hD : d' < d) (hc : ce_callee l y n d' mc ms F) (g1 : lw_tbl[p1]? = some (Cond.methodLink own ix y)) (g2 : lw_tbl[p2]? = some (Cond.static y)) (g3 : lw_tbl[p3]? = some (Cond.initialized y.cls)) : ce_Ok l cc own nL rt d MC MS pcs i op := by
  intro nn ls st S k res h hk p e s m args below meth c D ca b0 ad0 S0 ad H locs rls hC h61 hX hR hT h1 h2
  obtain ⟨hx, hb, hml, hown, ⟨w0, hts⟩, hr, hlk, hG⟩ := id hC
  obtain ⟨a1, a2, a3, a4, r, S', hF, hk2⟩ := hop i nn ls st S k res h
  obtain ⟨cc', nL', rt', hctr, hcode, hnl, hm1, hm2, hlen⟩ := hc
  have hTa : ce_okT S (st.take n).reverse := fun v hv => hT v (List.mem_of_mem_take (List.mem_reverse.mp hv))
  have hTr : ce_okT S (st.drop n) := fun v hv => hT v (List.mem_of_mem_drop hv)
  have hM := hctr D ca b0 ad S _ _ hF hR.2.2.2.1 hTa (ce_h61 hR.2.2.2.2.2 h61)
  rw [hp]
  have hst : st.map (ce_val ad) = ((st.take n).reverse.map (ce_val ad)).reverse ++ (st.drop n).map (ce_val ad) := by
    rw [← List.map_reverse, List.reverse_reverse, ← List.map_append, List.take_append_drop]
  exact ce_after hp' hk hC h61 hX hR hTr a1 a2 hk2 (va_runS (As := (st.take n).reverse.map (ce_val ad)) ⟨hx, hb, hml, hown, hts⟩ hM (va_cwS n hts (ce_gIn (ex := [.methodLink own ix y, .static y, .initialized y.cls]) hcode (by
      intro w hw
      rcases List.mem_cons.mp hw with e | hw
      · subst e; exact ce_tw_at g1 rfl
      rcases List.mem_cons.mp hw with e | hw
      · subst e; exact ce_tw_at g2 rfl
      rcases List.mem_cons.mp hw with e | hw
      · subst e; exact ce_tw_at g3 rfl
      · cases hw)) rfl rfl rfl ⟨hm1, hm2, hlen⟩ ⟨hD, by show 8 + (nL' + 11) + 60 * d' ≤ 60 * d; omega⟩) ⟨ce_blind, fun U hU hW => ⟨rfl, ce_pre hG h61 hX hR U hU hW⟩⟩ rfl (by simp; omega) hR.2.2.1.1 hst (lv_room (ce_cat8 a3)) hd ⟨a1, a2⟩)
end CEJ
end
section
/-! String.checkIndex, where it does not throw -/
theorem ce_pcheck (l : Launch) (x n : Int32) (v : Value) (hv : v = .null ∨ ∃ a, v = .ref a) (h0 : ¬ x < 0) (h1 : x < n) : Met l yJ3_checkIndex_8e157 (Cond.code yJ3_checkIndex_8e157 cJ3_checkIndex_8e157 3 (some .int) :: ce_tw) (ce_rm 1 0 0) (va_Pc [.int x, .int n, v] (fun _ => True)) (QcRead x) 0 0 (fun _ => False) := by
  refine Met.ofW (cc := cJ3_checkIndex_8e157) (maxL := 3) (ret := some .int) (by decide +kernel) rfl ?_
  intro p e s m args below meth c s₁ B hml hP
  obtain ⟨rfl, -⟩ := hP
  have hx := B.exec
  have hb := B.bytes
  have hr := B.returns
  have hlocks := B.notSynchronized
  have hcat : v.category = 1 := by rcases hv with rfl | ⟨a, rfl⟩ <;> rfl
  have hsl : lg_sl [.int x, .int n, v] = [.val (.int x), .val (.int n), .val v] := by
    rcases hv with rfl | ⟨a, rfl⟩ <;> rfl
  have hl := lv_entry ([.int x, .int n, v]) (n := 3) (by rw [hsl]; exact Nat.le_refl 3)
  rw [lg_entry_eq]
  generalize (lg_sl ([.int x, .int n, v]) ++ List.replicate (3 - (lg_sl ([.int x, .int n, v])).length) Slot.unset).toArray = ls at hl ⊢
  refine lv_iload_n (k := 0) (i := 0) hx hb (by decide +kernel) rfl (lv_at hl 0 rfl) ?_
  refine lv_if_lt (off := 8) (tgt := 9) hx hb (by decide +kernel) (by decide) (fun q => absurd q h0) (fun _ => ?_)
  refine lv_iload_n (k := 0) (i := 0) hx hb (by decide +kernel) rfl (lv_at hl 0 rfl) ?_
  refine lv_iload_n (k := 1) (i := 1) hx hb (by decide +kernel) rfl (lv_at hl 1 rfl) ?_
  refine lv_icmp_lt (off := 10) (tgt := 16) hx hb (by decide +kernel) (by decide) (fun _ => ?_) (fun q => absurd h1 q)
  refine lv_iload_n (k := 0) (i := 0) hx hb (by decide +kernel) rfl (lv_at hl 0 rfl) ?_
  exact W.iret (v := x) hx hb hr (fun t ht hW => ⟨rfl, ht⟩) (fun q hq => by cases hq) (by decide +kernel)
def F_J0_check : List ce_V → ce_S → Option ce_S := fun a S => match a with
  | [.inl x, .inl n] => if x < 0 ∨ n ≤ x then none else some S
  | _ => none
theorem ct_J0_check (l : Launch) : ce_callee l yJ0_checkIndex_df160 2 2 0 0 (ce_wV F_J0_check) := by
  refine ⟨cJ0_checkIndex_df160, 2, none, ?_, ce_tw_at wd_258 rfl, by decide, by decide +kernel, by decide +kernel, by decide +kernel⟩
  intro D ca b0 ad S a res hF hS hT h61
  unfold ce_wV F_J0_check at hF
  split at hF
  · rename_i x n
    by_cases hc : x < 0 ∨ n ≤ x
    · rw [if_pos hc] at hF; cases hF
    · rw [if_neg hc] at hF
      cases hF
      have h0 : ¬ x < 0 := fun q => hc (Or.inl q)
      have h1 : x < n := Int32.not_le.mp (fun q => hc (Or.inr q))
      refine Met.ofW (cc := cJ0_checkIndex_df160) (maxL := 2) (ret := none) (by decide +kernel) rfl ?_
      intro p e s m args below meth c s₁ B hml hP
      obtain ⟨rfl, hG, hX, hH⟩ := hP
      have hx := B.exec
      have hb := B.bytes
      have hr := B.returns
      have hlocks := B.notSynchronized
      have hts := atoms_spec (ws := Cond.code yJ0_checkIndex_df160 cJ0_checkIndex_df160 2 none :: ce_tw) B.pre
      have hown : s.vm.findClass yJ0_checkIndex_df160.cls = some m.cls := findClass_of_methodNamed B.named
      have hl := lv_entry ([.int x, .int n]) (n := 2) (Nat.le_refl 2)
      show W _ _ _ _ _ _ _ _ _ _ _ _ _ _ _ (entryFrame m ([Value.int x, Value.int n] : List Value).toArray 2)
      rw [lg_entry_eq]
      generalize (lg_sl ([.int x, .int n]) ++ List.replicate (2 - (lg_sl ([.int x, .int n])).length) Slot.unset).toArray = ls at hl ⊢
      have hl : lv_has ls 2 [(0, .int x), (1, .int n)] := hl
      refine lv_iload_n (k := 0) (i := 0) hx hb (by decide +kernel) rfl (lv_at hl 0 rfl) ?_
      refine lv_iload_n (k := 1) (i := 1) hx hb (by decide +kernel) rfl (lv_at hl 1 rfl) ?_
      have key : ∀ v : Value, (v = .null ∨ ∃ a, v = .ref a) → va_Z "jdk/internal/util/Preconditions" "SIOOBE_FORMATTER" "Ljava/util/function/BiFunction;" v (fun q => b0 q) s s.heap → W p l e (headSpec (Cond.code yJ0_checkIndex_df160 cJ0_checkIndex_df160 2 none :: ce_tw) (ce_rm 2 0 0)).room s m ([Value.int x, Value.int n] : List Value).toArray below meth c s.heap [] 0 0 (MQ below (ce_Po D ca b0 ad S (none, S)) ([Value.int x, Value.int n] : List Value).toArray s 0 0 (fun q => b0 q)) (F0 m 2 ls [.int n, .int x]) := by
        intro v hv hz
        refine va_gets (index := 1053) (ref := "jdk/internal/util/Preconditions") hx hb hz va_S.rf hown (ce_wIn hts wd_259 rfl) (fun _ z => z) (by decide +kernel) ?_
        refine W.callR (r := x) (va_runS (As := [.int x, .int n, v]) (rest := []) ⟨hx, hb, hml, hown, hts⟩ (ce_pcheck l x n v hv h0 h1) (va_cwS 3 hts (ce_gIn (ex := [.methodLink yJ0_checkIndex_df160.cls 1059 yJ3_checkIndex_8e157, .static yJ3_checkIndex_8e157, .initialized yJ3_checkIndex_8e157.cls]) (ce_tw_at wd_263 rfl) (by
            intro w hw
            rcases List.mem_cons.mp hw with e | hw
            · subst e; exact ce_tw_at wd_261 rfl
            rcases List.mem_cons.mp hw with e | hw
            · subst e; exact ce_tw_at wd_262 rfl
            rcases List.mem_cons.mp hw with e | hw
            · subst e; exact ce_tw_at wd_69 rfl
            · cases hw)) rfl rfl rfl ⟨by decide +kernel, by decide +kernel, by decide +kernel⟩ ⟨by decide, by decide⟩) ⟨fun _ _ _ _ q => q, fun U hU hW => ⟨rfl, trivial⟩⟩ rfl rfl hl.1 rfl (lv_room (by decide)) (show decode cJ0_checkIndex_df160 5 = .ok (.invokestatic 1059, 3) by decide +kernel) ⟨Nat.zero_le _, Nat.zero_le _⟩).run ?_
        refine W.eq (g2 := F0 m 8 ls [.int x]) rfl ?_
        refine lv_pop hx hb (by decide +kernel) rfl ?_
        exact W.vret hx hb hr (fun t ht hW => ⟨ad, ce_ag.refl, rfl, hS, (fun v hv => by cases hv), by rw [ht]; exact hH, va_S.rf.F ht⟩) (fun q hq => by cases hq) (by decide +kernel)
      rcases hX.2.2.2.1 with hz | ⟨t, hz⟩
      · exact key _ (Or.inl rfl) hz
      · exact key _ (Or.inr ⟨t, rfl⟩) hz
  · cases hF
end
