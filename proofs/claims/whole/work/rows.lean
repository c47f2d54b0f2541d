section
-- ===== PART A: goes FIRST, ahead of the names: the tables' words, and 'selects' of the private methods out of them =====
/-- a private method of a class that the tables say can be made, by its rows of tables_1 -/
def lw_okq (q : MethodName × Nat) : Prop := (q.1.cls ≠ "java/lang/invoke/MethodHandle" ∧ q.1.cls ≠ "java/lang/invoke/VarHandle") ∧ Cond.instantiable q.1.cls q.2 ∈ tables_1 ∧ Cond.privateMethod q.1 ∈ tables_1 ∧ Cond.instanceMethod q.1 ∈ tables_1
theorem lw_p0 : lw_okq (⟨"CarpetEleven$Tape", "advance", "()V"⟩, 11) := ⟨⟨by decide +kernel, by decide +kernel⟩, List.mem_of_getElem? (i := 35) (by decide +kernel), List.mem_of_getElem? (i := 236) (by decide +kernel), List.mem_of_getElem? (i := 237) (by decide +kernel)⟩
theorem lw_p1 : lw_okq (⟨"CarpetEleven$Tape", "wordToken", "()I"⟩, 11) := ⟨⟨by decide +kernel, by decide +kernel⟩, List.mem_of_getElem? (i := 35) (by decide +kernel), List.mem_of_getElem? (i := 246) (by decide +kernel), List.mem_of_getElem? (i := 247) (by decide +kernel)⟩
theorem lw_p2 : lw_okq (⟨"CarpetEleven$Tape", "spells", "(Ljava/lang/String;)Z"⟩, 11) := ⟨⟨by decide +kernel, by decide +kernel⟩, List.mem_of_getElem? (i := 35) (by decide +kernel), List.mem_of_getElem? (i := 251) (by decide +kernel), List.mem_of_getElem? (i := 252) (by decide +kernel)⟩
theorem lw_p3 : lw_okq (⟨"CarpetEleven$Tape", "numberToken", "()I"⟩, 11) := ⟨⟨by decide +kernel, by decide +kernel⟩, List.mem_of_getElem? (i := 35) (by decide +kernel), List.mem_of_getElem? (i := 271) (by decide +kernel), List.mem_of_getElem? (i := 272) (by decide +kernel)⟩
theorem lw_p4 : lw_okq (⟨"CarpetEleven$Tape", "part", "(I)V"⟩, 11) := ⟨⟨by decide +kernel, by decide +kernel⟩, List.mem_of_getElem? (i := 35) (by decide +kernel), List.mem_of_getElem? (i := 278) (by decide +kernel), List.mem_of_getElem? (i := 279) (by decide +kernel)⟩
theorem lw_p5 : lw_okq (⟨"CarpetEleven$Tape", "expect", "(I)V"⟩, 11) := ⟨⟨by decide +kernel, by decide +kernel⟩, List.mem_of_getElem? (i := 35) (by decide +kernel), List.mem_of_getElem? (i := 282) (by decide +kernel), List.mem_of_getElem? (i := 283) (by decide +kernel)⟩
theorem lw_p6 : lw_okq (⟨"CarpetEleven$Tape", "fail", "()V"⟩, 11) := ⟨⟨by decide +kernel, by decide +kernel⟩, List.mem_of_getElem? (i := 35) (by decide +kernel), List.mem_of_getElem? (i := 286) (by decide +kernel), List.mem_of_getElem? (i := 287) (by decide +kernel)⟩
theorem lw_p7 : lw_okq (⟨"CarpetEleven$Tape", "either", "(I)V"⟩, 11) := ⟨⟨by decide +kernel, by decide +kernel⟩, List.mem_of_getElem? (i := 35) (by decide +kernel), List.mem_of_getElem? (i := 290) (by decide +kernel), List.mem_of_getElem? (i := 291) (by decide +kernel)⟩
theorem lw_p8 : lw_okq (⟨"CarpetEleven$Tape", "both", "(I)V"⟩, 11) := ⟨⟨by decide +kernel, by decide +kernel⟩, List.mem_of_getElem? (i := 35) (by decide +kernel), List.mem_of_getElem? (i := 294) (by decide +kernel), List.mem_of_getElem? (i := 295) (by decide +kernel)⟩
theorem lw_p9 : lw_okq (⟨"CarpetEleven$Tape", "denied", "(I)V"⟩, 11) := ⟨⟨by decide +kernel, by decide +kernel⟩, List.mem_of_getElem? (i := 35) (by decide +kernel), List.mem_of_getElem? (i := 298) (by decide +kernel), List.mem_of_getElem? (i := 299) (by decide +kernel)⟩
theorem lw_p10 : lw_okq (⟨"CarpetEleven$Tape", "emit", "(I)V"⟩, 11) := ⟨⟨by decide +kernel, by decide +kernel⟩, List.mem_of_getElem? (i := 35) (by decide +kernel), List.mem_of_getElem? (i := 302) (by decide +kernel), List.mem_of_getElem? (i := 303) (by decide +kernel)⟩
theorem lw_p11 : lw_okq (⟨"CarpetEleven$Tape", "sum", "(I)V"⟩, 11) := ⟨⟨by decide +kernel, by decide +kernel⟩, List.mem_of_getElem? (i := 35) (by decide +kernel), List.mem_of_getElem? (i := 306) (by decide +kernel), List.mem_of_getElem? (i := 307) (by decide +kernel)⟩
theorem lw_p12 : lw_okq (⟨"CarpetEleven$Tape", "term", "(I)V"⟩, 11) := ⟨⟨by decide +kernel, by decide +kernel⟩, List.mem_of_getElem? (i := 35) (by decide +kernel), List.mem_of_getElem? (i := 310) (by decide +kernel), List.mem_of_getElem? (i := 311) (by decide +kernel)⟩
theorem lw_p13 : lw_okq (⟨"CarpetEleven$Tape", "one", "(I)V"⟩, 11) := ⟨⟨by decide +kernel, by decide +kernel⟩, List.mem_of_getElem? (i := 35) (by decide +kernel), List.mem_of_getElem? (i := 314) (by decide +kernel), List.mem_of_getElem? (i := 315) (by decide +kernel)⟩
theorem lw_p14 : lw_okq (⟨"CarpetEleven", "comes", "(II)I"⟩, 14) := ⟨⟨by decide +kernel, by decide +kernel⟩, List.mem_of_getElem? (i := 21) (by decide +kernel), List.mem_of_getElem? (i := 435) (by decide +kernel), List.mem_of_getElem? (i := 436) (by decide +kernel)⟩
theorem lw_p15 : lw_okq (⟨"CarpetEleven", "setCost", "(II)I"⟩, 14) := ⟨⟨by decide +kernel, by decide +kernel⟩, List.mem_of_getElem? (i := 21) (by decide +kernel), List.mem_of_getElem? (i := 467) (by decide +kernel), List.mem_of_getElem? (i := 468) (by decide +kernel)⟩
def lw_privs_1 : List (MethodName × Nat) := [(⟨"CarpetEleven$Tape", "advance", "()V"⟩, 11), (⟨"CarpetEleven$Tape", "wordToken", "()I"⟩, 11), (⟨"CarpetEleven$Tape", "spells", "(Ljava/lang/String;)Z"⟩, 11), (⟨"CarpetEleven$Tape", "numberToken", "()I"⟩, 11), (⟨"CarpetEleven$Tape", "part", "(I)V"⟩, 11), (⟨"CarpetEleven$Tape", "expect", "(I)V"⟩, 11), (⟨"CarpetEleven$Tape", "fail", "()V"⟩, 11), (⟨"CarpetEleven$Tape", "either", "(I)V"⟩, 11), (⟨"CarpetEleven$Tape", "both", "(I)V"⟩, 11), (⟨"CarpetEleven$Tape", "denied", "(I)V"⟩, 11), (⟨"CarpetEleven$Tape", "emit", "(I)V"⟩, 11), (⟨"CarpetEleven$Tape", "sum", "(I)V"⟩, 11), (⟨"CarpetEleven$Tape", "term", "(I)V"⟩, 11), (⟨"CarpetEleven$Tape", "one", "(I)V"⟩, 11), (⟨"CarpetEleven", "comes", "(II)I"⟩, 14), (⟨"CarpetEleven", "setCost", "(II)I"⟩, 14)]
theorem lw_r1 : ∀ q ∈ lw_privs_1, lw_okq q := List.forall_mem_cons.mpr ⟨lw_p0, List.forall_mem_cons.mpr ⟨lw_p1, List.forall_mem_cons.mpr ⟨lw_p2, List.forall_mem_cons.mpr ⟨lw_p3, List.forall_mem_cons.mpr ⟨lw_p4, List.forall_mem_cons.mpr ⟨lw_p5, List.forall_mem_cons.mpr ⟨lw_p6, List.forall_mem_cons.mpr ⟨lw_p7, List.forall_mem_cons.mpr ⟨lw_p8, List.forall_mem_cons.mpr ⟨lw_p9, List.forall_mem_cons.mpr ⟨lw_p10, List.forall_mem_cons.mpr ⟨lw_p11, List.forall_mem_cons.mpr ⟨lw_p12, List.forall_mem_cons.mpr ⟨lw_p13, List.forall_mem_cons.mpr ⟨lw_p14, List.forall_mem_cons.mpr ⟨lw_p15, fun _ h => absurd h List.not_mem_nil⟩⟩⟩⟩⟩⟩⟩⟩⟩⟩⟩⟩⟩⟩⟩⟩
theorem lw_p16 : lw_okq (⟨"CarpetEleven", "isSeller", "(I)Z"⟩, 14) := ⟨⟨by decide +kernel, by decide +kernel⟩, List.mem_of_getElem? (i := 21) (by decide +kernel), List.mem_of_getElem? (i := 471) (by decide +kernel), List.mem_of_getElem? (i := 472) (by decide +kernel)⟩
theorem lw_p17 : lw_okq (⟨"CarpetEleven", "endByRule", "(III)LCarpetEleven$Seller;"⟩, 14) := ⟨⟨by decide +kernel, by decide +kernel⟩, List.mem_of_getElem? (i := 21) (by decide +kernel), List.mem_of_getElem? (i := 600) (by decide +kernel), List.mem_of_getElem? (i := 601) (by decide +kernel)⟩
theorem lw_p18 : lw_okq (⟨"CarpetEleven", "saysSo", "(IILCarpetEleven$Sheet;)Z"⟩, 14) := ⟨⟨by decide +kernel, by decide +kernel⟩, List.mem_of_getElem? (i := 21) (by decide +kernel), List.mem_of_getElem? (i := 648) (by decide +kernel), List.mem_of_getElem? (i := 649) (by decide +kernel)⟩
theorem lw_p19 : lw_okq (⟨"CarpetEleven", "crowdHasHope", "()Z"⟩, 14) := ⟨⟨by decide +kernel, by decide +kernel⟩, List.mem_of_getElem? (i := 21) (by decide +kernel), List.mem_of_getElem? (i := 669) (by decide +kernel), List.mem_of_getElem? (i := 670) (by decide +kernel)⟩
theorem lw_p20 : lw_okq (⟨"CarpetEleven", "crowdSells", "(II)I"⟩, 14) := ⟨⟨by decide +kernel, by decide +kernel⟩, List.mem_of_getElem? (i := 21) (by decide +kernel), List.mem_of_getElem? (i := 673) (by decide +kernel), List.mem_of_getElem? (i := 674) (by decide +kernel)⟩
theorem lw_p21 : lw_okq (⟨"CarpetEleven", "standsBySeed", "(II)I"⟩, 14) := ⟨⟨by decide +kernel, by decide +kernel⟩, List.mem_of_getElem? (i := 21) (by decide +kernel), List.mem_of_getElem? (i := 685) (by decide +kernel), List.mem_of_getElem? (i := 686) (by decide +kernel)⟩
theorem lw_p22 : lw_okq (⟨"CarpetEleven", "howMany", "(I)I"⟩, 14) := ⟨⟨by decide +kernel, by decide +kernel⟩, List.mem_of_getElem? (i := 21) (by decide +kernel), List.mem_of_getElem? (i := 702) (by decide +kernel), List.mem_of_getElem? (i := 703) (by decide +kernel)⟩
theorem lw_p23 : lw_okq (⟨"CarpetElevenModel", "firstRule", "()V"⟩, 45) := ⟨⟨by decide +kernel, by decide +kernel⟩, List.mem_of_getElem? (i := 753) (by decide +kernel), List.mem_of_getElem? (i := 761) (by decide +kernel), List.mem_of_getElem? (i := 762) (by decide +kernel)⟩
theorem lw_p24 : lw_okq (⟨"CarpetElevenModel", "writes", "(I)V"⟩, 45) := ⟨⟨by decide +kernel, by decide +kernel⟩, List.mem_of_getElem? (i := 753) (by decide +kernel), List.mem_of_getElem? (i := 765) (by decide +kernel), List.mem_of_getElem? (i := 766) (by decide +kernel)⟩
theorem lw_p25 : lw_okq (⟨"CarpetElevenModel", "reads", "()V"⟩, 45) := ⟨⟨by decide +kernel, by decide +kernel⟩, List.mem_of_getElem? (i := 753) (by decide +kernel), List.mem_of_getElem? (i := 916) (by decide +kernel), List.mem_of_getElem? (i := 917) (by decide +kernel)⟩
theorem lw_p26 : lw_okq (⟨"CarpetElevenModel", "isAt", "(II)Z"⟩, 45) := ⟨⟨by decide +kernel, by decide +kernel⟩, List.mem_of_getElem? (i := 753) (by decide +kernel), List.mem_of_getElem? (i := 920) (by decide +kernel), List.mem_of_getElem? (i := 921) (by decide +kernel)⟩
theorem lw_p27 : lw_okq (⟨"CarpetElevenModel", "isWord", "([I)Z"⟩, 45) := ⟨⟨by decide +kernel, by decide +kernel⟩, List.mem_of_getElem? (i := 753) (by decide +kernel), List.mem_of_getElem? (i := 924) (by decide +kernel), List.mem_of_getElem? (i := 925) (by decide +kernel)⟩
theorem lw_p28 : lw_okq (⟨"CarpetElevenModel", "readsRow", "()Z"⟩, 45) := ⟨⟨by decide +kernel, by decide +kernel⟩, List.mem_of_getElem? (i := 753) (by decide +kernel), List.mem_of_getElem? (i := 931) (by decide +kernel), List.mem_of_getElem? (i := 932) (by decide +kernel)⟩
theorem lw_p29 : lw_okq (⟨"CarpetElevenModel", "ahead", "()I"⟩, 45) := ⟨⟨by decide +kernel, by decide +kernel⟩, List.mem_of_getElem? (i := 753) (by decide +kernel), List.mem_of_getElem? (i := 935) (by decide +kernel), List.mem_of_getElem? (i := 936) (by decide +kernel)⟩
theorem lw_p30 : lw_okq (⟨"CarpetElevenModel", "mayNot", "()Z"⟩, 45) := ⟨⟨by decide +kernel, by decide +kernel⟩, List.mem_of_getElem? (i := 753) (by decide +kernel), List.mem_of_getElem? (i := 939) (by decide +kernel), List.mem_of_getElem? (i := 940) (by decide +kernel)⟩
theorem lw_p31 : lw_okq (⟨"CarpetElevenModel", "top", "()I"⟩, 45) := ⟨⟨by decide +kernel, by decide +kernel⟩, List.mem_of_getElem? (i := 753) (by decide +kernel), List.mem_of_getElem? (i := 943) (by decide +kernel), List.mem_of_getElem? (i := 944) (by decide +kernel)⟩
def lw_privs_2 : List (MethodName × Nat) := [(⟨"CarpetEleven", "isSeller", "(I)Z"⟩, 14), (⟨"CarpetEleven", "endByRule", "(III)LCarpetEleven$Seller;"⟩, 14), (⟨"CarpetEleven", "saysSo", "(IILCarpetEleven$Sheet;)Z"⟩, 14), (⟨"CarpetEleven", "crowdHasHope", "()Z"⟩, 14), (⟨"CarpetEleven", "crowdSells", "(II)I"⟩, 14), (⟨"CarpetEleven", "standsBySeed", "(II)I"⟩, 14), (⟨"CarpetEleven", "howMany", "(I)I"⟩, 14), (⟨"CarpetElevenModel", "firstRule", "()V"⟩, 45), (⟨"CarpetElevenModel", "writes", "(I)V"⟩, 45), (⟨"CarpetElevenModel", "reads", "()V"⟩, 45), (⟨"CarpetElevenModel", "isAt", "(II)Z"⟩, 45), (⟨"CarpetElevenModel", "isWord", "([I)Z"⟩, 45), (⟨"CarpetElevenModel", "readsRow", "()Z"⟩, 45), (⟨"CarpetElevenModel", "ahead", "()I"⟩, 45), (⟨"CarpetElevenModel", "mayNot", "()Z"⟩, 45), (⟨"CarpetElevenModel", "top", "()I"⟩, 45)]
theorem lw_r2 : ∀ q ∈ lw_privs_2, lw_okq q := List.forall_mem_cons.mpr ⟨lw_p16, List.forall_mem_cons.mpr ⟨lw_p17, List.forall_mem_cons.mpr ⟨lw_p18, List.forall_mem_cons.mpr ⟨lw_p19, List.forall_mem_cons.mpr ⟨lw_p20, List.forall_mem_cons.mpr ⟨lw_p21, List.forall_mem_cons.mpr ⟨lw_p22, List.forall_mem_cons.mpr ⟨lw_p23, List.forall_mem_cons.mpr ⟨lw_p24, List.forall_mem_cons.mpr ⟨lw_p25, List.forall_mem_cons.mpr ⟨lw_p26, List.forall_mem_cons.mpr ⟨lw_p27, List.forall_mem_cons.mpr ⟨lw_p28, List.forall_mem_cons.mpr ⟨lw_p29, List.forall_mem_cons.mpr ⟨lw_p30, List.forall_mem_cons.mpr ⟨lw_p31, fun _ h => absurd h List.not_mem_nil⟩⟩⟩⟩⟩⟩⟩⟩⟩⟩⟩⟩⟩⟩⟩⟩
theorem lw_p32 : lw_okq (⟨"CarpetElevenModel", "holds", "(I)V"⟩, 45) := ⟨⟨by decide +kernel, by decide +kernel⟩, List.mem_of_getElem? (i := 753) (by decide +kernel), List.mem_of_getElem? (i := 947) (by decide +kernel), List.mem_of_getElem? (i := 948) (by decide +kernel)⟩
theorem lw_p33 : lw_okq (⟨"CarpetElevenModel", "behind", "()I"⟩, 45) := ⟨⟨by decide +kernel, by decide +kernel⟩, List.mem_of_getElem? (i := 753) (by decide +kernel), List.mem_of_getElem? (i := 951) (by decide +kernel), List.mem_of_getElem? (i := 952) (by decide +kernel)⟩
theorem lw_p34 : lw_okq (⟨"CarpetElevenModel", "letsFrom", "(I)V"⟩, 45) := ⟨⟨by decide +kernel, by decide +kernel⟩, List.mem_of_getElem? (i := 753) (by decide +kernel), List.mem_of_getElem? (i := 955) (by decide +kernel), List.mem_of_getElem? (i := 956) (by decide +kernel)⟩
theorem lw_p35 : lw_okq (⟨"CarpetElevenModel", "lets", "()V"⟩, 45) := ⟨⟨by decide +kernel, by decide +kernel⟩, List.mem_of_getElem? (i := 753) (by decide +kernel), List.mem_of_getElem? (i := 962) (by decide +kernel), List.mem_of_getElem? (i := 963) (by decide +kernel)⟩
theorem lw_p36 : lw_okq (⟨"CarpetElevenModel", "comes", "(II)I"⟩, 45) := ⟨⟨by decide +kernel, by decide +kernel⟩, List.mem_of_getElem? (i := 753) (by decide +kernel), List.mem_of_getElem? (i := 977) (by decide +kernel), List.mem_of_getElem? (i := 978) (by decide +kernel)⟩
theorem lw_p37 : lw_okq (⟨"CarpetElevenModel", "begins", "(I)V"⟩, 45) := ⟨⟨by decide +kernel, by decide +kernel⟩, List.mem_of_getElem? (i := 753) (by decide +kernel), List.mem_of_getElem? (i := 981) (by decide +kernel), List.mem_of_getElem? (i := 982) (by decide +kernel)⟩
theorem lw_p38 : lw_okq (⟨"CarpetElevenModel", "says", "(IIII)I"⟩, 45) := ⟨⟨by decide +kernel, by decide +kernel⟩, List.mem_of_getElem? (i := 753) (by decide +kernel), List.mem_of_getElem? (i := 985) (by decide +kernel), List.mem_of_getElem? (i := 986) (by decide +kernel)⟩
theorem lw_p39 : lw_okq (⟨"CarpetElevenModel", "named", "(IIII)I"⟩, 45) := ⟨⟨by decide +kernel, by decide +kernel⟩, List.mem_of_getElem? (i := 753) (by decide +kernel), List.mem_of_getElem? (i := 989) (by decide +kernel), List.mem_of_getElem? (i := 990) (by decide +kernel)⟩
theorem lw_p40 : lw_okq (⟨"CarpetElevenModel", "leastOf", "(III)I"⟩, 45) := ⟨⟨by decide +kernel, by decide +kernel⟩, List.mem_of_getElem? (i := 753) (by decide +kernel), List.mem_of_getElem? (i := 996) (by decide +kernel), List.mem_of_getElem? (i := 997) (by decide +kernel)⟩
theorem lw_p41 : lw_okq (⟨"CarpetElevenModel", "isSeller", "(I)Z"⟩, 45) := ⟨⟨by decide +kernel, by decide +kernel⟩, List.mem_of_getElem? (i := 753) (by decide +kernel), List.mem_of_getElem? (i := 1007) (by decide +kernel), List.mem_of_getElem? (i := 1008) (by decide +kernel)⟩
theorem lw_p42 : lw_okq (⟨"CarpetElevenModel", "staysOf", "(I)I"⟩, 45) := ⟨⟨by decide +kernel, by decide +kernel⟩, List.mem_of_getElem? (i := 753) (by decide +kernel), List.mem_of_getElem? (i := 1019) (by decide +kernel), List.mem_of_getElem? (i := 1020) (by decide +kernel)⟩
theorem lw_p43 : lw_okq (⟨"CarpetElevenModel", "speaks", "(II)I"⟩, 45) := ⟨⟨by decide +kernel, by decide +kernel⟩, List.mem_of_getElem? (i := 753) (by decide +kernel), List.mem_of_getElem? (i := 1037) (by decide +kernel), List.mem_of_getElem? (i := 1038) (by decide +kernel)⟩
theorem lw_p44 : lw_okq (⟨"CarpetElevenModel", "stepsOf", "(II)I"⟩, 45) := ⟨⟨by decide +kernel, by decide +kernel⟩, List.mem_of_getElem? (i := 753) (by decide +kernel), List.mem_of_getElem? (i := 1041) (by decide +kernel), List.mem_of_getElem? (i := 1042) (by decide +kernel)⟩
theorem lw_p45 : lw_okq (⟨"CarpetElevenModel", "doesTake", "(IIII)Z"⟩, 45) := ⟨⟨by decide +kernel, by decide +kernel⟩, List.mem_of_getElem? (i := 753) (by decide +kernel), List.mem_of_getElem? (i := 1045) (by decide +kernel), List.mem_of_getElem? (i := 1046) (by decide +kernel)⟩
theorem lw_p46 : lw_okq (⟨"CarpetElevenModel", "agrees", "(I)I"⟩, 45) := ⟨⟨by decide +kernel, by decide +kernel⟩, List.mem_of_getElem? (i := 753) (by decide +kernel), List.mem_of_getElem? (i := 1053) (by decide +kernel), List.mem_of_getElem? (i := 1054) (by decide +kernel)⟩
theorem lw_p47 : lw_okq (⟨"CarpetElevenModel", "keeps", "(I)V"⟩, 45) := ⟨⟨by decide +kernel, by decide +kernel⟩, List.mem_of_getElem? (i := 753) (by decide +kernel), List.mem_of_getElem? (i := 1061) (by decide +kernel), List.mem_of_getElem? (i := 1062) (by decide +kernel)⟩
def lw_privs_3 : List (MethodName × Nat) := [(⟨"CarpetElevenModel", "holds", "(I)V"⟩, 45), (⟨"CarpetElevenModel", "behind", "()I"⟩, 45), (⟨"CarpetElevenModel", "letsFrom", "(I)V"⟩, 45), (⟨"CarpetElevenModel", "lets", "()V"⟩, 45), (⟨"CarpetElevenModel", "comes", "(II)I"⟩, 45), (⟨"CarpetElevenModel", "begins", "(I)V"⟩, 45), (⟨"CarpetElevenModel", "says", "(IIII)I"⟩, 45), (⟨"CarpetElevenModel", "named", "(IIII)I"⟩, 45), (⟨"CarpetElevenModel", "leastOf", "(III)I"⟩, 45), (⟨"CarpetElevenModel", "isSeller", "(I)Z"⟩, 45), (⟨"CarpetElevenModel", "staysOf", "(I)I"⟩, 45), (⟨"CarpetElevenModel", "speaks", "(II)I"⟩, 45), (⟨"CarpetElevenModel", "stepsOf", "(II)I"⟩, 45), (⟨"CarpetElevenModel", "doesTake", "(IIII)Z"⟩, 45), (⟨"CarpetElevenModel", "agrees", "(I)I"⟩, 45), (⟨"CarpetElevenModel", "keeps", "(I)V"⟩, 45)]
theorem lw_r3 : ∀ q ∈ lw_privs_3, lw_okq q := List.forall_mem_cons.mpr ⟨lw_p32, List.forall_mem_cons.mpr ⟨lw_p33, List.forall_mem_cons.mpr ⟨lw_p34, List.forall_mem_cons.mpr ⟨lw_p35, List.forall_mem_cons.mpr ⟨lw_p36, List.forall_mem_cons.mpr ⟨lw_p37, List.forall_mem_cons.mpr ⟨lw_p38, List.forall_mem_cons.mpr ⟨lw_p39, List.forall_mem_cons.mpr ⟨lw_p40, List.forall_mem_cons.mpr ⟨lw_p41, List.forall_mem_cons.mpr ⟨lw_p42, List.forall_mem_cons.mpr ⟨lw_p43, List.forall_mem_cons.mpr ⟨lw_p44, List.forall_mem_cons.mpr ⟨lw_p45, List.forall_mem_cons.mpr ⟨lw_p46, List.forall_mem_cons.mpr ⟨lw_p47, fun _ h => absurd h List.not_mem_nil⟩⟩⟩⟩⟩⟩⟩⟩⟩⟩⟩⟩⟩⟩⟩⟩
theorem lw_p48 : lw_okq (⟨"CarpetElevenModel", "standing", "(I)I"⟩, 45) := ⟨⟨by decide +kernel, by decide +kernel⟩, List.mem_of_getElem? (i := 753) (by decide +kernel), List.mem_of_getElem? (i := 1065) (by decide +kernel), List.mem_of_getElem? (i := 1066) (by decide +kernel)⟩
theorem lw_p49 : lw_okq (⟨"CarpetElevenModel", "putsBack", "(II)V"⟩, 45) := ⟨⟨by decide +kernel, by decide +kernel⟩, List.mem_of_getElem? (i := 753) (by decide +kernel), List.mem_of_getElem? (i := 1073) (by decide +kernel), List.mem_of_getElem? (i := 1074) (by decide +kernel)⟩
theorem lw_p50 : lw_okq (⟨"CarpetElevenModel", "thinks", "(IIIZ)I"⟩, 45) := ⟨⟨by decide +kernel, by decide +kernel⟩, List.mem_of_getElem? (i := 753) (by decide +kernel), List.mem_of_getElem? (i := 1084) (by decide +kernel), List.mem_of_getElem? (i := 1085) (by decide +kernel)⟩
theorem lw_p51 : lw_okq (⟨"CarpetElevenModel", "bids", "(IIII)V"⟩, 45) := ⟨⟨by decide +kernel, by decide +kernel⟩, List.mem_of_getElem? (i := 753) (by decide +kernel), List.mem_of_getElem? (i := 1088) (by decide +kernel), List.mem_of_getElem? (i := 1089) (by decide +kernel)⟩
theorem lw_p52 : lw_okq (⟨"CarpetElevenModel", "isJustSo", "(II)Z"⟩, 45) := ⟨⟨by decide +kernel, by decide +kernel⟩, List.mem_of_getElem? (i := 753) (by decide +kernel), List.mem_of_getElem? (i := 1115) (by decide +kernel), List.mem_of_getElem? (i := 1116) (by decide +kernel)⟩
theorem lw_p53 : lw_okq (⟨"CarpetElevenModel", "goesBuyer", "(III)V"⟩, 45) := ⟨⟨by decide +kernel, by decide +kernel⟩, List.mem_of_getElem? (i := 753) (by decide +kernel), List.mem_of_getElem? (i := 1127) (by decide +kernel), List.mem_of_getElem? (i := 1128) (by decide +kernel)⟩
theorem lw_p54 : lw_okq (⟨"CarpetElevenModel", "drawnBy", "(II)I"⟩, 45) := ⟨⟨by decide +kernel, by decide +kernel⟩, List.mem_of_getElem? (i := 753) (by decide +kernel), List.mem_of_getElem? (i := 1139) (by decide +kernel), List.mem_of_getElem? (i := 1140) (by decide +kernel)⟩
theorem lw_p55 : lw_okq (⟨"CarpetElevenModel", "hasCells", "(III)Z"⟩, 45) := ⟨⟨by decide +kernel, by decide +kernel⟩, List.mem_of_getElem? (i := 753) (by decide +kernel), List.mem_of_getElem? (i := 1168) (by decide +kernel), List.mem_of_getElem? (i := 1169) (by decide +kernel)⟩
def lw_privs_4 : List (MethodName × Nat) := [(⟨"CarpetElevenModel", "standing", "(I)I"⟩, 45), (⟨"CarpetElevenModel", "putsBack", "(II)V"⟩, 45), (⟨"CarpetElevenModel", "thinks", "(IIIZ)I"⟩, 45), (⟨"CarpetElevenModel", "bids", "(IIII)V"⟩, 45), (⟨"CarpetElevenModel", "isJustSo", "(II)Z"⟩, 45), (⟨"CarpetElevenModel", "goesBuyer", "(III)V"⟩, 45), (⟨"CarpetElevenModel", "drawnBy", "(II)I"⟩, 45), (⟨"CarpetElevenModel", "hasCells", "(III)Z"⟩, 45)]
theorem lw_r4 : ∀ q ∈ lw_privs_4, lw_okq q := List.forall_mem_cons.mpr ⟨lw_p48, List.forall_mem_cons.mpr ⟨lw_p49, List.forall_mem_cons.mpr ⟨lw_p50, List.forall_mem_cons.mpr ⟨lw_p51, List.forall_mem_cons.mpr ⟨lw_p52, List.forall_mem_cons.mpr ⟨lw_p53, List.forall_mem_cons.mpr ⟨lw_p54, List.forall_mem_cons.mpr ⟨lw_p55, fun _ h => absurd h List.not_mem_nil⟩⟩⟩⟩⟩⟩⟩⟩
def lw_privs : List (MethodName × Nat) := lw_privs_1 ++ (lw_privs_2 ++ (lw_privs_3 ++ (lw_privs_4)))
def lw_tbl : List Cond := k2_sels lw_privs ++ tables_1
theorem lw_privs_ok : ∀ q ∈ lw_privs, lw_okq q := by
  show ∀ q ∈ lw_privs_1 ++ (lw_privs_2 ++ (lw_privs_3 ++ (lw_privs_4))), lw_okq q
  exact List.forall_mem_append.mpr ⟨lw_r1, List.forall_mem_append.mpr ⟨lw_r2, List.forall_mem_append.mpr ⟨lw_r3, lw_r4⟩⟩⟩
-- ===== end of PART A; then your names; then what follows =====
/-! ===== BEGIN words of one list among another's, by their places ===== -/
theorem goodIn_r {big : List Cond} (ws : List Cond) (ps : List Nat) (hp : ws = ps.filterMap (fun i => big[i]?)) (h : ws.all goodWord = true) : GoodIn big ws := by
  intro w hw
  have h1 := List.all_eq_true.mp h w hw
  rw [hp] at hw
  obtain ⟨i, -, hi⟩ := List.mem_filterMap.mp hw
  have hm : w ∈ big := by first | exact List.mem_of_getElem? hi | exact List.getElem?_mem hi
  exact ⟨hm, good_of_word h1⟩
theorem goodIn_app {big a b : List Cond} (ha : GoodIn big a) (hb : GoodIn big b) : GoodIn big (a ++ b) := fun w h => (List.mem_append.mp h).elim (ha w) (hb w)
theorem goodIn_ca {big a b : List Cond} {c : Cond} (ha : GoodIn big (c :: a)) (hb : GoodIn big b) : GoodIn big (c :: (a ++ b)) := fun w h => (List.mem_cons.mp h).elim (fun e => ha w (List.mem_cons.mpr (Or.inl e))) (fun h => (List.mem_append.mp h).elim (fun h => ha w (List.mem_cons.mpr (Or.inr h))) (hb w))
theorem goodIn_sub {big ws : List Cond} (hm : ∀ w ∈ ws, w ∈ big) (h : ws.all goodWord = true) : GoodIn big ws := fun w hw => ⟨hm w hw, good_of_word (List.all_eq_true.mp h w hw)⟩
/-! ===== END ===== -/

/-! ===== BEGIN printed: names, fields, word lists, decode rows ===== -/
def RX0 : String := "CarpetEleven$Brother"
def TX0 : u_T := fun k => match k with
  | _ => ("", "", "", false)
def tyX0 : Nat → FieldType := fun k => match k with
  | _ => .int
abbrev wsX00 : List Cond := u_ws RX0 TX0 0
theorem nmX0 : ∀ a, a < 0 → ∀ b, b < 0 → a ≠ b → (TX0 a).2.1 ≠ (TX0 b).2.1 := by decide +kernel
theorem tyX0_ok : ∀ k, k < 0 → parseFieldDescriptor (TX0 k).2.2.1 = some (tyX0 k) := by decide +kernel
abbrev cX0_init : ByteArray := prog_2_method_1_code
def yX0_init : MethodName := ⟨RX0, "<init>", "()V"⟩
abbrev cX0_steps : ByteArray := prog_2_method_2_code
def yX0_steps : MethodName := ⟨RX0, "steps", "(IIIII)I"⟩
abbrev cX0_takes : ByteArray := prog_2_method_3_code
def yX0_takes : MethodName := ⟨RX0, "takes", "(IIIII)Z"⟩
def RX1 : String := "CarpetEleven$Eager"
def TX1 : u_T := fun k => match k with
  | _ => ("", "", "", false)
def tyX1 : Nat → FieldType := fun k => match k with
  | _ => .int
abbrev wsX10 : List Cond := u_ws RX1 TX1 0
theorem nmX1 : ∀ a, a < 0 → ∀ b, b < 0 → a ≠ b → (TX1 a).2.1 ≠ (TX1 b).2.1 := by decide +kernel
theorem tyX1_ok : ∀ k, k < 0 → parseFieldDescriptor (TX1 k).2.2.1 = some (tyX1 k) := by decide +kernel
abbrev cX1_init : ByteArray := prog_3_method_1_code
def yX1_init : MethodName := ⟨RX1, "<init>", "()V"⟩
abbrev cX1_steps : ByteArray := prog_3_method_2_code
def yX1_steps : MethodName := ⟨RX1, "steps", "(IIIII)I"⟩
abbrev cX1_takes : ByteArray := prog_3_method_3_code
def yX1_takes : MethodName := ⟨RX1, "takes", "(IIIII)Z"⟩
abbrev cX1_stays : ByteArray := prog_3_method_4_code
def yX1_stays : MethodName := ⟨RX1, "stays", "(I)I"⟩
def RX2 : String := "CarpetEleven$Halver"
def TX2 : u_T := fun k => match k with
  | _ => ("", "", "", false)
def tyX2 : Nat → FieldType := fun k => match k with
  | _ => .int
abbrev wsX20 : List Cond := u_ws RX2 TX2 0
theorem nmX2 : ∀ a, a < 0 → ∀ b, b < 0 → a ≠ b → (TX2 a).2.1 ≠ (TX2 b).2.1 := by decide +kernel
theorem tyX2_ok : ∀ k, k < 0 → parseFieldDescriptor (TX2 k).2.2.1 = some (tyX2 k) := by decide +kernel
abbrev cX2_init : ByteArray := prog_4_method_1_code
def yX2_init : MethodName := ⟨RX2, "<init>", "()V"⟩
abbrev cX2_steps : ByteArray := prog_4_method_2_code
def yX2_steps : MethodName := ⟨RX2, "steps", "(IIIII)I"⟩
abbrev cX2_stays : ByteArray := prog_4_method_3_code
def yX2_stays : MethodName := ⟨RX2, "stays", "(I)I"⟩
def RX3 : String := "CarpetEleven$Kind"
def TX3 : u_T := fun k => match k with
  | _ => ("", "", "", false)
def tyX3 : Nat → FieldType := fun k => match k with
  | _ => .int
abbrev wsX30 : List Cond := u_ws RX3 TX3 0
theorem nmX3 : ∀ a, a < 0 → ∀ b, b < 0 → a ≠ b → (TX3 a).2.1 ≠ (TX3 b).2.1 := by decide +kernel
theorem tyX3_ok : ∀ k, k < 0 → parseFieldDescriptor (TX3 k).2.2.1 = some (tyX3 k) := by decide +kernel
abbrev cX3_init : ByteArray := prog_5_method_1_code
def yX3_init : MethodName := ⟨RX3, "<init>", "()V"⟩
abbrev cX3_steps : ByteArray := prog_5_method_2_code
def yX3_steps : MethodName := ⟨RX3, "steps", "(IIIII)I"⟩
abbrev cX3_takes : ByteArray := prog_5_method_3_code
def yX3_takes : MethodName := ⟨RX3, "takes", "(IIIII)Z"⟩
abbrev cX3_stays : ByteArray := prog_5_method_4_code
def yX3_stays : MethodName := ⟨RX3, "stays", "(I)I"⟩
def RX4 : String := "CarpetEleven$Scene"
def TX4 : u_T := fun k => match k with
  | 0 => ("CarpetEleven$Scene", "shoes", "I", false)
  | 1 => ("CarpetEleven$Scene", "hour", "I", false)
  | 2 => ("CarpetEleven$Scene", "limit", "I", false)
  | 3 => ("CarpetEleven$Scene", "textNumber", "I", false)
  | _ => ("CarpetEleven$Scene", "text", "LCarpetEleven$Text;", false)
def tyX4 : Nat → FieldType := fun k => match k with
  | 0 => .int
  | 1 => .int
  | 2 => .int
  | 3 => .int
  | _ => .object "CarpetEleven$Text"
abbrev wsX40 : List Cond := u_ws RX4 TX4 5
theorem nmX4 : ∀ a, a < 5 → ∀ b, b < 5 → a ≠ b → (TX4 a).2.1 ≠ (TX4 b).2.1 := by decide +kernel
theorem tyX4_ok : ∀ k, k < 5 → parseFieldDescriptor (TX4 k).2.2.1 = some (tyX4 k) := by decide +kernel
abbrev cX4_init : ByteArray := prog_6_method_1_code
def yX4_init : MethodName := ⟨RX4, "<init>", "(LCarpetEleven$Text;)V"⟩
abbrev cX4_take : ByteArray := prog_6_method_2_code
def yX4_take : MethodName := ⟨RX4, "take", "(LCarpetEleven$Scene;)V"⟩
abbrev cX4_least : ByteArray := prog_6_method_3_code
def yX4_least : MethodName := ⟨RX4, "least", "(LCarpetEleven$Seller;I)I"⟩
abbrev cX4_first : ByteArray := prog_6_method_4_code
def yX4_first : MethodName := ⟨RX4, "first", "(LCarpetEleven$Seller;)I"⟩
abbrev cX4_pull : ByteArray := prog_6_method_5_code
def yX4_pull : MethodName := ⟨RX4, "pull", "(LCarpetEleven$Seller;I)I"⟩
def RX5 : String := "CarpetEleven$Seller"
def TX5 : u_T := fun k => match k with
  | 0 => ("CarpetEleven$Seller", "kind", "LCarpetEleven$Kind;", false)
  | 1 => ("CarpetEleven$Seller", "kindNumber", "I", false)
  | 2 => ("CarpetEleven$Seller", "cost", "I", false)
  | 3 => ("CarpetEleven$Seller", "number", "I", false)
  | 4 => ("CarpetEleven$Seller", "said", "I", false)
  | 5 => ("CarpetEleven$Seller", "cups", "I", false)
  | 6 => ("CarpetEleven$Seller", "stands", "I", false)
  | _ => ("CarpetEleven$Seller", "price", "I", false)
def tyX5 : Nat → FieldType := fun k => match k with
  | 0 => .object "CarpetEleven$Kind"
  | 1 => .int
  | 2 => .int
  | 3 => .int
  | 4 => .int
  | 5 => .int
  | 6 => .int
  | _ => .int
abbrev wsX50 : List Cond := u_ws RX5 TX5 8
theorem nmX5 : ∀ a, a < 8 → ∀ b, b < 8 → a ≠ b → (TX5 a).2.1 ≠ (TX5 b).2.1 := by decide +kernel
theorem tyX5_ok : ∀ k, k < 8 → parseFieldDescriptor (TX5 k).2.2.1 = some (tyX5 k) := by decide +kernel
abbrev cX5_init : ByteArray := prog_7_method_1_code
def yX5_init : MethodName := ⟨RX5, "<init>", "(LCarpetEleven$Kind;)V"⟩
abbrev cX5_take : ByteArray := prog_7_method_2_code
def yX5_take : MethodName := ⟨RX5, "take", "(LCarpetEleven$Seller;)V"⟩
abbrev cX5_takeTalk : ByteArray := prog_7_method_3_code
def yX5_takeTalk : MethodName := ⟨RX5, "takeTalk", "(LCarpetEleven$Seller;)V"⟩
abbrev cX5_begin : ByteArray := prog_7_method_4_code
def yX5_begin : MethodName := ⟨RX5, "begin", "(LCarpetEleven$Scene;)V"⟩
abbrev cX5_sellAt : ByteArray := prog_7_method_5_code
def yX5_sellAt : MethodName := ⟨RX5, "sellAt", "(I)V"⟩
abbrev cX5_hear : ByteArray := prog_7_method_6_code
def yX5_hear : MethodName := ⟨RX5, "hear", "(ILCarpetEleven$Scene;)V"⟩
abbrev cX5_goByRule : ByteArray := prog_7_method_7_code
def yX5_goByRule : MethodName := ⟨RX5, "goByRule", "(IILCarpetEleven$Scene;)V"⟩
def RX6 : String := "CarpetEleven$Sheet"
def TX6 : u_T := fun k => match k with
  | 0 => ("CarpetEleven$Sheet", "items", "[I", true)
  | 1 => ("CarpetEleven$Sheet", "sort", "I", false)
  | _ => ("CarpetEleven$Sheet", "size", "I", false)
def tyX6 : Nat → FieldType := fun k => match k with
  | 0 => .array .int
  | 1 => .int
  | _ => .int
abbrev wsX60 : List Cond := u_ws RX6 TX6 3
theorem nmX6 : ∀ a, a < 3 → ∀ b, b < 3 → a ≠ b → (TX6 a).2.1 ≠ (TX6 b).2.1 := by decide +kernel
theorem tyX6_ok : ∀ k, k < 3 → parseFieldDescriptor (TX6 k).2.2.1 = some (tyX6 k) := by decide +kernel
abbrev cX6_init : ByteArray := prog_8_method_1_code
def yX6_init : MethodName := ⟨RX6, "<init>", "()V"⟩
abbrev cX6_isMissing : ByteArray := prog_8_method_2_code
def yX6_isMissing : MethodName := ⟨RX6, "isMissing", "()Z"⟩
abbrev cX6_become : ByteArray := prog_8_method_3_code
def yX6_become : MethodName := ⟨RX6, "become", "(II)V"⟩
abbrev cX6_has : ByteArray := prog_8_method_4_code
def yX6_has : MethodName := ⟨RX6, "has", "(I)Z"⟩
abbrev cX6_hasRun : ByteArray := prog_8_method_5_code
def yX6_hasRun : MethodName := ⟨RX6, "hasRun", "(II)Z"⟩
abbrev cX6_at : ByteArray := prog_8_method_6_code
def yX6_at : MethodName := ⟨RX6, "at", "(I)I"⟩
abbrev cX6_put : ByteArray := prog_8_method_7_code
def yX6_put : MethodName := ⟨RX6, "put", "(II)V"⟩
def RX7 : String := "CarpetEleven$Slip"
def TX7 : u_T := fun k => match k with
  | _ => ("", "", "", false)
def tyX7 : Nat → FieldType := fun k => match k with
  | _ => .int
abbrev wsX70 : List Cond := u_ws RX7 TX7 0
theorem nmX7 : ∀ a, a < 0 → ∀ b, b < 0 → a ≠ b → (TX7 a).2.1 ≠ (TX7 b).2.1 := by decide +kernel
theorem tyX7_ok : ∀ k, k < 0 → parseFieldDescriptor (TX7 k).2.2.1 = some (tyX7 k) := by decide +kernel
abbrev cX7_init : ByteArray := prog_9_method_1_code
def yX7_init : MethodName := ⟨RX7, "<init>", "()V"⟩
abbrev cX7_steps : ByteArray := prog_9_method_2_code
def yX7_steps : MethodName := ⟨RX7, "steps", "(IIIII)I"⟩
abbrev cX7_takes : ByteArray := prog_9_method_3_code
def yX7_takes : MethodName := ⟨RX7, "takes", "(IIIII)Z"⟩
abbrev cX7_stays : ByteArray := prog_9_method_4_code
def yX7_stays : MethodName := ⟨RX7, "stays", "(I)I"⟩
def RX8 : String := "CarpetEleven$Stiff"
def TX8 : u_T := fun k => match k with
  | _ => ("", "", "", false)
def tyX8 : Nat → FieldType := fun k => match k with
  | _ => .int
abbrev wsX80 : List Cond := u_ws RX8 TX8 0
theorem nmX8 : ∀ a, a < 0 → ∀ b, b < 0 → a ≠ b → (TX8 a).2.1 ≠ (TX8 b).2.1 := by decide +kernel
theorem tyX8_ok : ∀ k, k < 0 → parseFieldDescriptor (TX8 k).2.2.1 = some (tyX8 k) := by decide +kernel
abbrev cX8_init : ByteArray := prog_10_method_1_code
def yX8_init : MethodName := ⟨RX8, "<init>", "()V"⟩
abbrev cX8_steps : ByteArray := prog_10_method_2_code
def yX8_steps : MethodName := ⟨RX8, "steps", "(IIIII)I"⟩
abbrev cX8_stays : ByteArray := prog_10_method_3_code
def yX8_stays : MethodName := ⟨RX8, "stays", "(I)I"⟩
def RX9 : String := "CarpetEleven$Tape"
def TX9 : u_T := fun k => match k with
  | 0 => ("CarpetEleven$Tape", "size", "I", false)
  | 1 => ("CarpetEleven$Tape", "letters", "[I", true)
  | 2 => ("CarpetEleven$Tape", "steps", "[I", true)
  | 3 => ("CarpetEleven$Tape", "place", "I", false)
  | 4 => ("CarpetEleven$Tape", "token", "I", false)
  | 5 => ("CarpetEleven$Tape", "tokenPlace", "I", false)
  | 6 => ("CarpetEleven$Tape", "tokenNumber", "I", false)
  | 7 => ("CarpetEleven$Tape", "stepCount", "I", false)
  | 8 => ("CarpetEleven$Tape", "leastEnd", "I", false)
  | 9 => ("CarpetEleven$Tape", "firstEnd", "I", false)
  | _ => ("CarpetEleven$Tape", "fault", "I", false)
def tyX9 : Nat → FieldType := fun k => match k with
  | 0 => .int
  | 1 => .array .int
  | 2 => .array .int
  | 3 => .int
  | 4 => .int
  | 5 => .int
  | 6 => .int
  | 7 => .int
  | 8 => .int
  | 9 => .int
  | _ => .int
abbrev wsX90 : List Cond := u_ws RX9 TX9 11
theorem nmX9 : ∀ a, a < 11 → ∀ b, b < 11 → a ≠ b → (TX9 a).2.1 ≠ (TX9 b).2.1 := by decide +kernel
theorem tyX9_ok : ∀ k, k < 11 → parseFieldDescriptor (TX9 k).2.2.1 = some (tyX9 k) := by decide +kernel
abbrev cX9_init : ByteArray := prog_11_method_1_code
def yX9_init : MethodName := ⟨RX9, "<init>", "()V"⟩
abbrev cX9_add : ByteArray := prog_11_method_2_code
def yX9_add : MethodName := ⟨RX9, "add", "(I)V"⟩
abbrev cX9_read : ByteArray := prog_11_method_3_code
def yX9_read : MethodName := ⟨RX9, "read", "()I"⟩
abbrev cX9_made : ByteArray := prog_11_method_4_code
def yX9_made : MethodName := ⟨RX9, "made", "()LCarpetEleven$Text;"⟩
abbrev cX9_part : ByteArray := prog_11_method_5_code
def yX9_part : MethodName := ⟨RX9, "part", "(I)V"⟩
abbrev cX9_expect : ByteArray := prog_11_method_6_code
def yX9_expect : MethodName := ⟨RX9, "expect", "(I)V"⟩
abbrev cX9_fail : ByteArray := prog_11_method_7_code
def yX9_fail : MethodName := ⟨RX9, "fail", "()V"⟩
abbrev cX9_either : ByteArray := prog_11_method_8_code
def yX9_either : MethodName := ⟨RX9, "either", "(I)V"⟩
abbrev cX9_both : ByteArray := prog_11_method_9_code
def yX9_both : MethodName := ⟨RX9, "both", "(I)V"⟩
abbrev cX9_denied : ByteArray := prog_11_method_10_code
def yX9_denied : MethodName := ⟨RX9, "denied", "(I)V"⟩
abbrev cX9_sum : ByteArray := prog_11_method_11_code
def yX9_sum : MethodName := ⟨RX9, "sum", "(I)V"⟩
abbrev cX9_term : ByteArray := prog_11_method_12_code
def yX9_term : MethodName := ⟨RX9, "term", "(I)V"⟩
abbrev cX9_one : ByteArray := prog_11_method_13_code
def yX9_one : MethodName := ⟨RX9, "one", "(I)V"⟩
abbrev cX9_emit : ByteArray := prog_11_method_14_code
def yX9_emit : MethodName := ⟨RX9, "emit", "(I)V"⟩
abbrev cX9_advance : ByteArray := prog_11_method_15_code
def yX9_advance : MethodName := ⟨RX9, "advance", "()V"⟩
abbrev cX9_numberToken : ByteArray := prog_11_method_16_code
def yX9_numberToken : MethodName := ⟨RX9, "numberToken", "()I"⟩
abbrev cX9_signToken : ByteArray := prog_11_method_17_code
def yX9_signToken : MethodName := ⟨RX9, "signToken", "(I)I"⟩
abbrev cX9_wordToken : ByteArray := prog_11_method_18_code
def yX9_wordToken : MethodName := ⟨RX9, "wordToken", "()I"⟩
abbrev cX9_spells : ByteArray := prog_11_method_19_code
def yX9_spells : MethodName := ⟨RX9, "spells", "(Ljava/lang/String;)Z"⟩
abbrev cX9_isBlank : ByteArray := prog_11_method_20_code
def yX9_isBlank : MethodName := ⟨RX9, "isBlank", "(I)Z"⟩
abbrev cX9_isSmallLetter : ByteArray := prog_11_method_21_code
def yX9_isSmallLetter : MethodName := ⟨RX9, "isSmallLetter", "(I)Z"⟩
abbrev cX9_isDigit : ByteArray := prog_11_method_22_code
def yX9_isDigit : MethodName := ⟨RX9, "isDigit", "(I)Z"⟩
def RX10 : String := "CarpetEleven$Text"
def TX10 : u_T := fun k => match k with
  | 0 => ("CarpetEleven$Text", "code", "[I", true)
  | 1 => ("CarpetEleven$Text", "leastEnd", "I", true)
  | 2 => ("CarpetEleven$Text", "firstEnd", "I", true)
  | _ => ("CarpetEleven$Text", "stack", "[I", true)
def tyX10 : Nat → FieldType := fun k => match k with
  | 0 => .array .int
  | 1 => .int
  | 2 => .int
  | _ => .array .int
abbrev wsX100 : List Cond := u_ws RX10 TX10 4
theorem nmX10 : ∀ a, a < 4 → ∀ b, b < 4 → a ≠ b → (TX10 a).2.1 ≠ (TX10 b).2.1 := by decide +kernel
theorem tyX10_ok : ∀ k, k < 4 → parseFieldDescriptor (TX10 k).2.2.1 = some (tyX10 k) := by decide +kernel
abbrev cX10_init : ByteArray := prog_12_method_1_code
def yX10_init : MethodName := ⟨RX10, "<init>", "([IIII)V"⟩
abbrev cX10_value : ByteArray := prog_12_method_2_code
def yX10_value : MethodName := ⟨RX10, "value", "(IILCarpetEleven$Seller;LCarpetEleven$Scene;I)I"⟩
abbrev cX10_named : ByteArray := prog_12_method_3_code
def yX10_named : MethodName := ⟨RX10, "named", "(ILCarpetEleven$Seller;LCarpetEleven$Scene;I)I"⟩
abbrev cX10_joined : ByteArray := prog_12_method_4_code
def yX10_joined : MethodName := ⟨RX10, "joined", "(III)I"⟩
def RX11 : String := "CarpetEleven"
def TX11 : u_T := fun k => match k with
  | 0 => ("CarpetEleven", "kinds", "[LCarpetEleven$Kind;", true)
  | 1 => ("CarpetEleven", "folk", "[LCarpetEleven$Seller;", true)
  | 2 => ("CarpetEleven", "scene", "LCarpetEleven$Scene;", true)
  | 3 => ("CarpetEleven", "texts", "[LCarpetEleven$Text;", true)
  | 4 => ("CarpetEleven", "tape", "LCarpetEleven$Tape;", true)
  | 5 => ("CarpetEleven", "sheets", "[LCarpetEleven$Sheet;", true)
  | 6 => ("CarpetEleven", "folkCount", "I", false)
  | 7 => ("CarpetEleven", "textCount", "I", false)
  | 8 => ("CarpetEleven", "thought", "LCarpetEleven$Seller;", true)
  | 9 => ("CarpetEleven", "crowd", "[LCarpetEleven$Seller;", true)
  | 10 => ("CarpetEleven", "thoughtScene", "LCarpetEleven$Scene;", true)
  | 11 => ("CarpetEleven", "keptFolk", "[LCarpetEleven$Seller;", true)
  | 12 => ("CarpetEleven", "keptScene", "LCarpetEleven$Scene;", true)
  | _ => ("CarpetEleven", "keptCount", "I", false)
def tyX11 : Nat → FieldType := fun k => match k with
  | 0 => .array (.object "CarpetEleven$Kind")
  | 1 => .array (.object "CarpetEleven$Seller")
  | 2 => .object "CarpetEleven$Scene"
  | 3 => .array (.object "CarpetEleven$Text")
  | 4 => .object "CarpetEleven$Tape"
  | 5 => .array (.object "CarpetEleven$Sheet")
  | 6 => .int
  | 7 => .int
  | 8 => .object "CarpetEleven$Seller"
  | 9 => .array (.object "CarpetEleven$Seller")
  | 10 => .object "CarpetEleven$Scene"
  | 11 => .array (.object "CarpetEleven$Seller")
  | 12 => .object "CarpetEleven$Scene"
  | _ => .int
abbrev wsX110 : List Cond := u_ws RX11 TX11 14
theorem nmX11 : ∀ a, a < 14 → ∀ b, b < 14 → a ≠ b → (TX11 a).2.1 ≠ (TX11 b).2.1 := by decide +kernel
theorem tyX11_ok : ∀ k, k < 14 → parseFieldDescriptor (TX11 k).2.2.1 = some (tyX11 k) := by decide +kernel
abbrev cX11_init : ByteArray := prog_1_method_1_code
def yX11_init : MethodName := ⟨RX11, "<init>", "()V"⟩
abbrev cX11_seller : ByteArray := prog_1_method_2_code
def yX11_seller : MethodName := ⟨RX11, "seller", "(II)I"⟩
abbrev cX11_set : ByteArray := prog_1_method_3_code
def yX11_set : MethodName := ⟨RX11, "set", "(III)I"⟩
abbrev cX11_anew : ByteArray := prog_1_method_4_code
def yX11_anew : MethodName := ⟨RX11, "anew", "(I)I"⟩
abbrev cX11_told : ByteArray := prog_1_method_5_code
def yX11_told : MethodName := ⟨RX11, "told", "(II)I"⟩
abbrev cX11_feed : ByteArray := prog_1_method_6_code
def yX11_feed : MethodName := ⟨RX11, "feed", "(I)I"⟩
abbrev cX11_text : ByteArray := prog_1_method_7_code
def yX11_text : MethodName := ⟨RX11, "text", "()I"⟩
abbrev cX11_force : ByteArray := prog_1_method_8_code
def yX11_force : MethodName := ⟨RX11, "force", "(I)I"⟩
abbrev cX11_word : ByteArray := prog_1_method_9_code
def yX11_word : MethodName := ⟨RX11, "word", "(II)I"⟩
abbrev cX11_agree : ByteArray := prog_1_method_10_code
def yX11_agree : MethodName := ⟨RX11, "agree", "(I)I"⟩
abbrev cX11_rule : ByteArray := prog_1_method_11_code
def yX11_rule : MethodName := ⟨RX11, "rule", "(IIII)I"⟩
abbrev cX11_bestRule : ByteArray := prog_1_method_12_code
def yX11_bestRule : MethodName := ⟨RX11, "bestRule", "(II)I"⟩
abbrev cX11_bestAt : ByteArray := prog_1_method_13_code
def yX11_bestAt : MethodName := ⟨RX11, "bestAt", "(IIII)I"⟩
abbrev cX11_whom : ByteArray := prog_1_method_14_code
def yX11_whom : MethodName := ⟨RX11, "whom", "(II)I"⟩
abbrev cX11_allInTurn : ByteArray := prog_1_method_15_code
def yX11_allInTurn : MethodName := ⟨RX11, "allInTurn", "(III)I"⟩
abbrev cX11_hisCost : ByteArray := prog_1_method_16_code
def yX11_hisCost : MethodName := ⟨RX11, "hisCost", "(III)I"⟩
abbrev cX11_slipped : ByteArray := prog_1_method_17_code
def yX11_slipped : MethodName := ⟨RX11, "slipped", "(III)I"⟩
abbrev cX11_market : ByteArray := prog_1_method_18_code
def yX11_market : MethodName := ⟨RX11, "market", "(IIII)I"⟩
abbrev cX11_judge : ByteArray := prog_1_method_19_code
def yX11_judge : MethodName := ⟨RX11, "judge", "(II)I"⟩
abbrev cX11_drawn : ByteArray := prog_1_method_20_code
def yX11_drawn : MethodName := ⟨RX11, "drawn", "(II)I"⟩
abbrev cX11_odds : ByteArray := prog_1_method_21_code
def yX11_odds : MethodName := ⟨RX11, "odds", "(IIII)J"⟩
abbrev cX11_image : ByteArray := prog_1_method_22_code
def yX11_image : MethodName := ⟨RX11, "image", "()I"⟩
abbrev cX11_back : ByteArray := prog_1_method_23_code
def yX11_back : MethodName := ⟨RX11, "back", "()I"⟩
abbrev cX11_count : ByteArray := prog_1_method_24_code
def yX11_count : MethodName := ⟨RX11, "count", "(I)I"⟩
abbrev cX11_sheet : ByteArray := prog_1_method_25_code
def yX11_sheet : MethodName := ⟨RX11, "sheet", "(III)I"⟩
abbrev cX11_cell : ByteArray := prog_1_method_26_code
def yX11_cell : MethodName := ⟨RX11, "cell", "(III)I"⟩
abbrev cX11_copy : ByteArray := prog_1_method_27_code
def yX11_copy : MethodName := ⟨RX11, "copy", "(IIIII)I"⟩
abbrev cX11_sellers : ByteArray := prog_1_method_28_code
def yX11_sellers : MethodName := ⟨RX11, "sellers", "(IIII)I"⟩
abbrev cX11_taken : ByteArray := prog_1_method_29_code
def yX11_taken : MethodName := ⟨RX11, "taken", "(II)I"⟩
abbrev cX11_isSeller : ByteArray := prog_1_method_30_code
def yX11_isSeller : MethodName := ⟨RX11, "isSeller", "(I)Z"⟩
abbrev cX11_isSheet : ByteArray := prog_1_method_31_code
def yX11_isSheet : MethodName := ⟨RX11, "isSheet", "(I)Z"⟩
abbrev cX11_isBid : ByteArray := prog_1_method_32_code
def yX11_isBid : MethodName := ⟨RX11, "isBid", "(I)Z"⟩
abbrev cX11_isRule : ByteArray := prog_1_method_33_code
def yX11_isRule : MethodName := ⟨RX11, "isRule", "(II)Z"⟩
abbrev cX11_topOf : ByteArray := prog_1_method_34_code
def yX11_topOf : MethodName := ⟨RX11, "topOf", "(I)I"⟩
abbrev cX11_within : ByteArray := prog_1_method_35_code
def yX11_within : MethodName := ⟨RX11, "within", "(III)I"⟩
abbrev cX11_commonDivisor : ByteArray := prog_1_method_36_code
def yX11_commonDivisor : MethodName := ⟨RX11, "commonDivisor", "(II)I"⟩
abbrev cX11_isUnder : ByteArray := prog_1_method_37_code
def yX11_isUnder : MethodName := ⟨RX11, "isUnder", "(LCarpetEleven$Kind;I)Z"⟩
abbrev cX11_comes : ByteArray := prog_1_method_38_code
def yX11_comes : MethodName := ⟨RX11, "comes", "(II)I"⟩
abbrev cX11_setCost : ByteArray := prog_1_method_39_code
def yX11_setCost : MethodName := ⟨RX11, "setCost", "(II)I"⟩
abbrev cX11_howMany : ByteArray := prog_1_method_40_code
def yX11_howMany : MethodName := ⟨RX11, "howMany", "(I)I"⟩
abbrev cX11_endByRule : ByteArray := prog_1_method_41_code
def yX11_endByRule : MethodName := ⟨RX11, "endByRule", "(III)LCarpetEleven$Seller;"⟩
abbrev cX11_saysSo : ByteArray := prog_1_method_42_code
def yX11_saysSo : MethodName := ⟨RX11, "saysSo", "(IILCarpetEleven$Sheet;)Z"⟩
abbrev cX11_crowdHasHope : ByteArray := prog_1_method_43_code
def yX11_crowdHasHope : MethodName := ⟨RX11, "crowdHasHope", "()Z"⟩
abbrev cX11_crowdSells : ByteArray := prog_1_method_44_code
def yX11_crowdSells : MethodName := ⟨RX11, "crowdSells", "(II)I"⟩
abbrev cX11_standsBySeed : ByteArray := prog_1_method_45_code
def yX11_standsBySeed : MethodName := ⟨RX11, "standsBySeed", "(II)I"⟩
def RX12 : String := "CarpetElevenModel"
def TX12 : u_T := fun k => match k with
  | 0 => ("CarpetElevenModel", "kind", "[I", true)
  | 1 => ("CarpetElevenModel", "cost", "[I", true)
  | 2 => ("CarpetElevenModel", "number", "[I", true)
  | 3 => ("CarpetElevenModel", "said", "[I", true)
  | 4 => ("CarpetElevenModel", "cups", "[I", true)
  | 5 => ("CarpetElevenModel", "stands", "[I", true)
  | 6 => ("CarpetElevenModel", "price", "[I", true)
  | 7 => ("CarpetElevenModel", "sellers", "I", false)
  | 8 => ("CarpetElevenModel", "shoes", "I", false)
  | 9 => ("CarpetElevenModel", "hour", "I", false)
  | 10 => ("CarpetElevenModel", "limit", "I", false)
  | 11 => ("CarpetElevenModel", "theRule", "I", false)
  | 12 => ("CarpetElevenModel", "words", "[[I", true)
  | 13 => ("CarpetElevenModel", "tape", "[I", true)
  | 14 => ("CarpetElevenModel", "codes", "[I", true)
  | 15 => ("CarpetElevenModel", "codeLong", "[I", true)
  | 16 => ("CarpetElevenModel", "held", "[I", true)
  | 17 => ("CarpetElevenModel", "stack", "[I", true)
  | 18 => ("CarpetElevenModel", "taped", "I", false)
  | 19 => ("CarpetElevenModel", "texts", "I", false)
  | 20 => ("CarpetElevenModel", "next", "I", false)
  | 21 => ("CarpetElevenModel", "token", "I", false)
  | 22 => ("CarpetElevenModel", "tokenAt", "I", false)
  | 23 => ("CarpetElevenModel", "value", "I", false)
  | 24 => ("CarpetElevenModel", "open", "I", false)
  | 25 => ("CarpetElevenModel", "heldMany", "I", false)
  | 26 => ("CarpetElevenModel", "row", "I", false)
  | 27 => ("CarpetElevenModel", "kept", "[I", true)
  | 28 => ("CarpetElevenModel", "keptMany", "I", false)
  | 29 => ("CarpetElevenModel", "keptShoes", "I", false)
  | 30 => ("CarpetElevenModel", "keptHour", "I", false)
  | 31 => ("CarpetElevenModel", "keptLimit", "I", false)
  | 32 => ("CarpetElevenModel", "keptRule", "I", false)
  | 33 => ("CarpetElevenModel", "hasImage", "Z", false)
  | 34 => ("CarpetElevenModel", "spoken", "I", false)
  | 35 => ("CarpetElevenModel", "thoughtStands", "I", false)
  | 36 => ("CarpetElevenModel", "thoughtPrice", "I", false)
  | 37 => ("CarpetElevenModel", "thoughtCups", "I", false)
  | 38 => ("CarpetElevenModel", "soldMany", "I", false)
  | 39 => ("CarpetElevenModel", "soldSum", "I", false)
  | 40 => ("CarpetElevenModel", "missed", "I", false)
  | 41 => ("CarpetElevenModel", "sort", "[I", true)
  | 42 => ("CarpetElevenModel", "size", "[I", true)
  | 43 => ("CarpetElevenModel", "cells", "[I", true)
  | _ => ("CarpetElevenModel", "moved", "[I", true)
def tyX12 : Nat → FieldType := fun k => match k with
  | 0 => .array .int
  | 1 => .array .int
  | 2 => .array .int
  | 3 => .array .int
  | 4 => .array .int
  | 5 => .array .int
  | 6 => .array .int
  | 7 => .int
  | 8 => .int
  | 9 => .int
  | 10 => .int
  | 11 => .int
  | 12 => .array (.array .int)
  | 13 => .array .int
  | 14 => .array .int
  | 15 => .array .int
  | 16 => .array .int
  | 17 => .array .int
  | 18 => .int
  | 19 => .int
  | 20 => .int
  | 21 => .int
  | 22 => .int
  | 23 => .int
  | 24 => .int
  | 25 => .int
  | 26 => .int
  | 27 => .array .int
  | 28 => .int
  | 29 => .int
  | 30 => .int
  | 31 => .int
  | 32 => .int
  | 33 => .boolean
  | 34 => .int
  | 35 => .int
  | 36 => .int
  | 37 => .int
  | 38 => .int
  | 39 => .int
  | 40 => .int
  | 41 => .array .int
  | 42 => .array .int
  | 43 => .array .int
  | _ => .array .int
abbrev wsX120 : List Cond := u_ws RX12 TX12 45
theorem nmX12 : ∀ a, a < 45 → ∀ b, b < 45 → a ≠ b → (TX12 a).2.1 ≠ (TX12 b).2.1 := by decide +kernel
theorem tyX12_ok : ∀ k, k < 45 → parseFieldDescriptor (TX12 k).2.2.1 = some (tyX12 k) := by decide +kernel
abbrev cX12_init : ByteArray := prog_14_method_1_code
def yX12_init : MethodName := ⟨RX12, "<init>", "()V"⟩
abbrev cX12_isIn : ByteArray := prog_14_method_2_code
def yX12_isIn : MethodName := ⟨RX12, "isIn", "(III)Z"⟩
abbrev cX12_isSeller : ByteArray := prog_14_method_3_code
def yX12_isSeller : MethodName := ⟨RX12, "isSeller", "(I)Z"⟩
abbrev cX12_writes : ByteArray := prog_14_method_4_code
def yX12_writes : MethodName := ⟨RX12, "writes", "(I)V"⟩
abbrev cX12_firstRule : ByteArray := prog_14_method_5_code
def yX12_firstRule : MethodName := ⟨RX12, "firstRule", "()V"⟩
abbrev cX12_feed : ByteArray := prog_14_method_6_code
def yX12_feed : MethodName := ⟨RX12, "feed", "(I)I"⟩
abbrev cX12_isAt : ByteArray := prog_14_method_7_code
def yX12_isAt : MethodName := ⟨RX12, "isAt", "(II)Z"⟩
abbrev cX12_isSign : ByteArray := prog_14_method_8_code
def yX12_isSign : MethodName := ⟨RX12, "isSign", "(I)Z"⟩
abbrev cX12_isWord : ByteArray := prog_14_method_9_code
def yX12_isWord : MethodName := ⟨RX12, "isWord", "([I)Z"⟩
abbrev cX12_reads : ByteArray := prog_14_method_10_code
def yX12_reads : MethodName := ⟨RX12, "reads", "()V"⟩
abbrev cX12_top : ByteArray := prog_14_method_11_code
def yX12_top : MethodName := ⟨RX12, "top", "()I"⟩
abbrev cX12_holds : ByteArray := prog_14_method_12_code
def yX12_holds : MethodName := ⟨RX12, "holds", "(I)V"⟩
abbrev cX12_lets : ByteArray := prog_14_method_13_code
def yX12_lets : MethodName := ⟨RX12, "lets", "()V"⟩
abbrev cX12_letsFrom : ByteArray := prog_14_method_14_code
def yX12_letsFrom : MethodName := ⟨RX12, "letsFrom", "(I)V"⟩
abbrev cX12_heightOf : ByteArray := prog_14_method_15_code
def yX12_heightOf : MethodName := ⟨RX12, "heightOf", "(I)I"⟩
abbrev cX12_mayNot : ByteArray := prog_14_method_16_code
def yX12_mayNot : MethodName := ⟨RX12, "mayNot", "()Z"⟩
abbrev cX12_ahead : ByteArray := prog_14_method_17_code
def yX12_ahead : MethodName := ⟨RX12, "ahead", "()I"⟩
abbrev cX12_deedOf : ByteArray := prog_14_method_18_code
def yX12_deedOf : MethodName := ⟨RX12, "deedOf", "(I)I"⟩
abbrev cX12_behind : ByteArray := prog_14_method_19_code
def yX12_behind : MethodName := ⟨RX12, "behind", "()I"⟩
abbrev cX12_readsRow : ByteArray := prog_14_method_20_code
def yX12_readsRow : MethodName := ⟨RX12, "readsRow", "()Z"⟩
abbrev cX12_text : ByteArray := prog_14_method_21_code
def yX12_text : MethodName := ⟨RX12, "text", "()I"⟩
abbrev cX12_force : ByteArray := prog_14_method_22_code
def yX12_force : MethodName := ⟨RX12, "force", "(I)I"⟩
abbrev cX12_named : ByteArray := prog_14_method_23_code
def yX12_named : MethodName := ⟨RX12, "named", "(IIII)I"⟩
abbrev cX12_done : ByteArray := prog_14_method_24_code
def yX12_done : MethodName := ⟨RX12, "done", "(III)I"⟩
abbrev cX12_says : ByteArray := prog_14_method_25_code
def yX12_says : MethodName := ⟨RX12, "says", "(IIII)I"⟩
abbrev cX12_bounded : ByteArray := prog_14_method_26_code
def yX12_bounded : MethodName := ⟨RX12, "bounded", "(III)I"⟩
abbrev cX12_leastOf : ByteArray := prog_14_method_27_code
def yX12_leastOf : MethodName := ⟨RX12, "leastOf", "(III)I"⟩
abbrev cX12_staysOf : ByteArray := prog_14_method_28_code
def yX12_staysOf : MethodName := ⟨RX12, "staysOf", "(I)I"⟩
abbrev cX12_begins : ByteArray := prog_14_method_29_code
def yX12_begins : MethodName := ⟨RX12, "begins", "(I)V"⟩
abbrev cX12_comes : ByteArray := prog_14_method_30_code
def yX12_comes : MethodName := ⟨RX12, "comes", "(II)I"⟩
abbrev cX12_seller : ByteArray := prog_14_method_31_code
def yX12_seller : MethodName := ⟨RX12, "seller", "(II)I"⟩
abbrev cX12_set : ByteArray := prog_14_method_32_code
def yX12_set : MethodName := ⟨RX12, "set", "(III)I"⟩
abbrev cX12_anew : ByteArray := prog_14_method_33_code
def yX12_anew : MethodName := ⟨RX12, "anew", "(I)I"⟩
abbrev cX12_told : ByteArray := prog_14_method_34_code
def yX12_told : MethodName := ⟨RX12, "told", "(II)I"⟩
abbrev cX12_isUnder : ByteArray := prog_14_method_35_code
def yX12_isUnder : MethodName := ⟨RX12, "isUnder", "(II)Z"⟩
abbrev cX12_taken : ByteArray := prog_14_method_36_code
def yX12_taken : MethodName := ⟨RX12, "taken", "(II)I"⟩
abbrev cX12_stepsOf : ByteArray := prog_14_method_37_code
def yX12_stepsOf : MethodName := ⟨RX12, "stepsOf", "(II)I"⟩
abbrev cX12_doesTake : ByteArray := prog_14_method_38_code
def yX12_doesTake : MethodName := ⟨RX12, "doesTake", "(IIII)Z"⟩
abbrev cX12_speaks : ByteArray := prog_14_method_39_code
def yX12_speaks : MethodName := ⟨RX12, "speaks", "(II)I"⟩
abbrev cX12_isBid : ByteArray := prog_14_method_40_code
def yX12_isBid : MethodName := ⟨RX12, "isBid", "(I)Z"⟩
abbrev cX12_word : ByteArray := prog_14_method_41_code
def yX12_word : MethodName := ⟨RX12, "word", "(II)I"⟩
abbrev cX12_agrees : ByteArray := prog_14_method_42_code
def yX12_agrees : MethodName := ⟨RX12, "agrees", "(I)I"⟩
abbrev cX12_agree : ByteArray := prog_14_method_43_code
def yX12_agree : MethodName := ⟨RX12, "agree", "(I)I"⟩
abbrev cX12_keeps : ByteArray := prog_14_method_44_code
def yX12_keeps : MethodName := ⟨RX12, "keeps", "(I)V"⟩
abbrev cX12_putsBack : ByteArray := prog_14_method_45_code
def yX12_putsBack : MethodName := ⟨RX12, "putsBack", "(II)V"⟩
abbrev cX12_standing : ByteArray := prog_14_method_46_code
def yX12_standing : MethodName := ⟨RX12, "standing", "(I)I"⟩
abbrev cX12_image : ByteArray := prog_14_method_47_code
def yX12_image : MethodName := ⟨RX12, "image", "()I"⟩
abbrev cX12_back : ByteArray := prog_14_method_48_code
def yX12_back : MethodName := ⟨RX12, "back", "()I"⟩
abbrev cX12_bids : ByteArray := prog_14_method_49_code
def yX12_bids : MethodName := ⟨RX12, "bids", "(IIII)V"⟩
abbrev cX12_isRule : ByteArray := prog_14_method_50_code
def yX12_isRule : MethodName := ⟨RX12, "isRule", "(II)Z"⟩
abbrev cX12_thinks : ByteArray := prog_14_method_51_code
def yX12_thinks : MethodName := ⟨RX12, "thinks", "(IIIZ)I"⟩
abbrev cX12_rule : ByteArray := prog_14_method_52_code
def yX12_rule : MethodName := ⟨RX12, "rule", "(IIII)I"⟩
abbrev cX12_bestRule : ByteArray := prog_14_method_53_code
def yX12_bestRule : MethodName := ⟨RX12, "bestRule", "(II)I"⟩
abbrev cX12_bestAt : ByteArray := prog_14_method_54_code
def yX12_bestAt : MethodName := ⟨RX12, "bestAt", "(IIII)I"⟩
abbrev cX12_whom : ByteArray := prog_14_method_55_code
def yX12_whom : MethodName := ⟨RX12, "whom", "(II)I"⟩
abbrev cX12_allInTurn : ByteArray := prog_14_method_56_code
def yX12_allInTurn : MethodName := ⟨RX12, "allInTurn", "(III)I"⟩
abbrev cX12_isJustSo : ByteArray := prog_14_method_57_code
def yX12_isJustSo : MethodName := ⟨RX12, "isJustSo", "(II)Z"⟩
abbrev cX12_hisCost : ByteArray := prog_14_method_58_code
def yX12_hisCost : MethodName := ⟨RX12, "hisCost", "(III)I"⟩
abbrev cX12_slipped : ByteArray := prog_14_method_59_code
def yX12_slipped : MethodName := ⟨RX12, "slipped", "(III)I"⟩
abbrev cX12_goesBuyer : ByteArray := prog_14_method_60_code
def yX12_goesBuyer : MethodName := ⟨RX12, "goesBuyer", "(III)V"⟩
abbrev cX12_market : ByteArray := prog_14_method_61_code
def yX12_market : MethodName := ⟨RX12, "market", "(IIII)I"⟩
abbrev cX12_judge : ByteArray := prog_14_method_62_code
def yX12_judge : MethodName := ⟨RX12, "judge", "(II)I"⟩
abbrev cX12_drawnBy : ByteArray := prog_14_method_63_code
def yX12_drawnBy : MethodName := ⟨RX12, "drawnBy", "(II)I"⟩
abbrev cX12_drawn : ByteArray := prog_14_method_64_code
def yX12_drawn : MethodName := ⟨RX12, "drawn", "(II)I"⟩
abbrev cX12_divisor : ByteArray := prog_14_method_65_code
def yX12_divisor : MethodName := ⟨RX12, "divisor", "(II)I"⟩
abbrev cX12_odds : ByteArray := prog_14_method_66_code
def yX12_odds : MethodName := ⟨RX12, "odds", "(IIII)J"⟩
abbrev cX12_count : ByteArray := prog_14_method_67_code
def yX12_count : MethodName := ⟨RX12, "count", "(I)I"⟩
abbrev cX12_isSheet : ByteArray := prog_14_method_68_code
def yX12_isSheet : MethodName := ⟨RX12, "isSheet", "(I)Z"⟩
abbrev cX12_sheet : ByteArray := prog_14_method_69_code
def yX12_sheet : MethodName := ⟨RX12, "sheet", "(III)I"⟩
abbrev cX12_cell : ByteArray := prog_14_method_70_code
def yX12_cell : MethodName := ⟨RX12, "cell", "(III)I"⟩
abbrev cX12_hasCells : ByteArray := prog_14_method_71_code
def yX12_hasCells : MethodName := ⟨RX12, "hasCells", "(III)Z"⟩
abbrev cX12_copy : ByteArray := prog_14_method_72_code
def yX12_copy : MethodName := ⟨RX12, "copy", "(IIIII)I"⟩
abbrev cX12_sellers : ByteArray := prog_14_method_73_code
def yX12_sellers : MethodName := ⟨RX12, "sellers", "(IIII)I"⟩
def RJ9 : String := "java/lang/Math"
def TJ9 : u_T := fun k => match k with
  | _ => ("", "", "", false)
def tyJ9 : Nat → FieldType := fun k => match k with
  | _ => .int
abbrev wsJ90 : List Cond := u_ws RJ9 TJ9 0
theorem nmJ9 : ∀ a, a < 0 → ∀ b, b < 0 → a ≠ b → (TJ9 a).2.1 ≠ (TJ9 b).2.1 := by decide +kernel
theorem tyJ9_ok : ∀ k, k < 0 → parseFieldDescriptor (TJ9 k).2.2.1 = some (tyJ9 k) := by decide +kernel
abbrev cJ9_max_7cf53 : ByteArray := prog_15_method_65_code
def yJ9_max_7cf53 : MethodName := ⟨RJ9, "max", "(II)I"⟩
abbrev cJ9_min_7cf53 : ByteArray := prog_15_method_69_code
def yJ9_min_7cf53 : MethodName := ⟨RJ9, "min", "(II)I"⟩
def RJ0 : String := "java/lang/String"
def TJ0 : u_T := fun k => match k with
  | _ => ("", "", "", false)
def tyJ0 : Nat → FieldType := fun k => match k with
  | _ => .int
abbrev wsJ00 : List Cond := u_ws RJ0 TJ0 0
theorem nmJ0 : ∀ a, a < 0 → ∀ b, b < 0 → a ≠ b → (TJ0 a).2.1 ≠ (TJ0 b).2.1 := by decide +kernel
theorem tyJ0_ok : ∀ k, k < 0 → parseFieldDescriptor (TJ0 k).2.2.1 = some (tyJ0 k) := by decide +kernel
abbrev cJ0_length_8abf5 : ByteArray := prog_16_method_54_code
def yJ0_length_8abf5 : MethodName := ⟨RJ0, "length", "()I"⟩
abbrev cJ0_charAt_5068e : ByteArray := prog_16_method_56_code
def yJ0_charAt_5068e : MethodName := ⟨RJ0, "charAt", "(I)C"⟩
abbrev cJ0_coder_7d493 : ByteArray := prog_16_method_152_code
def yJ0_coder_7d493 : MethodName := ⟨RJ0, "coder", "()B"⟩
abbrev cJ0_isLatin1_aae02 : ByteArray := prog_16_method_154_code
def yJ0_isLatin1_aae02 : MethodName := ⟨RJ0, "isLatin1", "()Z"⟩
abbrev cJ0_checkIndex_df160 : ByteArray := prog_16_method_155_code
def yJ0_checkIndex_df160 : MethodName := ⟨RJ0, "checkIndex", "(II)V"⟩
def RJ1 : String := "java/lang/StringLatin1"
def TJ1 : u_T := fun k => match k with
  | _ => ("", "", "", false)
def tyJ1 : Nat → FieldType := fun k => match k with
  | _ => .int
abbrev wsJ10 : List Cond := u_ws RJ1 TJ1 0
theorem nmJ1 : ∀ a, a < 0 → ∀ b, b < 0 → a ≠ b → (TJ1 a).2.1 ≠ (TJ1 b).2.1 := by decide +kernel
theorem tyJ1_ok : ∀ k, k < 0 → parseFieldDescriptor (TJ1 k).2.2.1 = some (tyJ1 k) := by decide +kernel
abbrev cJ1_charAt_3b067 : ByteArray := prog_17_method_2_code
def yJ1_charAt_3b067 : MethodName := ⟨RJ1, "charAt", "([BI)C"⟩
def RJ2 : String := "java/lang/StringUTF16"
def TJ2 : u_T := fun k => match k with
  | _ => ("", "", "", false)
def tyJ2 : Nat → FieldType := fun k => match k with
  | _ => .int
abbrev wsJ20 : List Cond := u_ws RJ2 TJ2 0
theorem nmJ2 : ∀ a, a < 0 → ∀ b, b < 0 → a ≠ b → (TJ2 a).2.1 ≠ (TJ2 b).2.1 := by decide +kernel
theorem tyJ2_ok : ∀ k, k < 0 → parseFieldDescriptor (TJ2 k).2.2.1 = some (tyJ2 k) := by decide +kernel
abbrev cJ2_getChar_3b067 : ByteArray := prog_18_method_5_code
def yJ2_getChar_3b067 : MethodName := ⟨RJ2, "getChar", "([BI)C"⟩
abbrev cJ2_length_9d52b : ByteArray := prog_18_method_6_code
def yJ2_length_9d52b : MethodName := ⟨RJ2, "length", "([B)I"⟩
abbrev cJ2_charAt_3b067 : ByteArray := prog_18_method_83_code
def yJ2_charAt_3b067 : MethodName := ⟨RJ2, "charAt", "([BI)C"⟩
abbrev cJ2_checkIndex_2214a : ByteArray := prog_18_method_91_code
def yJ2_checkIndex_2214a : MethodName := ⟨RJ2, "checkIndex", "(I[B)V"⟩
def RJ10 : String := "java/lang/System"
def TJ10 : u_T := fun k => match k with
  | _ => ("", "", "", false)
def tyJ10 : Nat → FieldType := fun k => match k with
  | _ => .int
abbrev wsJ100 : List Cond := u_ws RJ10 TJ10 0
theorem nmJ10 : ∀ a, a < 0 → ∀ b, b < 0 → a ≠ b → (TJ10 a).2.1 ≠ (TJ10 b).2.1 := by decide +kernel
theorem tyJ10_ok : ∀ k, k < 0 → parseFieldDescriptor (TJ10 k).2.2.1 = some (tyJ10 k) := by decide +kernel
def RJ3 : String := "jdk/internal/util/Preconditions"
def TJ3 : u_T := fun k => match k with
  | _ => ("", "", "", false)
def tyJ3 : Nat → FieldType := fun k => match k with
  | _ => .int
abbrev wsJ30 : List Cond := u_ws RJ3 TJ3 0
theorem nmJ3 : ∀ a, a < 0 → ∀ b, b < 0 → a ≠ b → (TJ3 a).2.1 ≠ (TJ3 b).2.1 := by decide +kernel
theorem tyJ3_ok : ∀ k, k < 0 → parseFieldDescriptor (TJ3 k).2.2.1 = some (tyJ3 k) := by decide +kernel
abbrev cJ3_checkIndex_8e157 : ByteArray := prog_20_method_11_code
def yJ3_checkIndex_8e157 : MethodName := ⟨RJ3, "checkIndex", "(IILjava/util/function/BiFunction;)I"⟩
def RL : String := "CarpetElevenLaw"
abbrev cL_law : ByteArray := code
def yL_law : MethodName := ⟨RL, "law", "([I)Z"⟩
abbrev vwCl : List vw_C := [(RX0, TX0, 0), (RX1, TX1, 0), (RX2, TX2, 0), (RX3, TX3, 0), (RX4, TX4, 5), (RX5, TX5, 8), (RX6, TX6, 3), (RX7, TX7, 0), (RX8, TX8, 0), (RX9, TX9, 11), (RX10, TX10, 4), (RX11, TX11, 14), (RX12, TX12, 45)]
end
section
/-! values and states of the plain machine: ints, references by kind and place, longs -/
abbrev ce_V : Type := Int32 ⊕ (Nat × Nat) ⊕ Int64
abbrev ce_S : Type := (Nat → Nat → Nat → Int32) × (Nat → Nat → Nat → Nat) × (Nat → Nat → Nat → Int32) × (Nat → Nat → Nat) × (Nat → Nat) × (Nat → Option Nat)
def ce_I (S : ce_S) : Nat → Nat → Nat → Int32 := S.1
def ce_R (S : ce_S) : Nat → Nat → Nat → Nat := S.2.1
def ce_A (S : ce_S) : Nat → Nat → Nat → Int32 := S.2.2.1
def ce_L (S : ce_S) : Nat → Nat → Nat := S.2.2.2.1
def ce_C (S : ce_S) : Nat → Nat := S.2.2.2.2.1
def ce_Q (S : ce_S) : Nat → Option Nat := S.2.2.2.2.2
def ce_u {α : Type} (f : Nat → Nat → Nat → α) (t k i : Nat) (v : α) : Nat → Nat → Nat → α := fun t' k' i' => if t' = t then (if k' = k then (if i' = i then v else f t' k' i') else f t' k' i') else f t' k' i'
def ce_sI (S : ce_S) (t k i : Nat) (v : Int32) : ce_S := (ce_u S.1 t k i v, S.2)
def ce_sR (S : ce_S) (t k i v : Nat) : ce_S := (S.1, ce_u S.2.1 t k i v, S.2.2)
def ce_sA (S : ce_S) (t i e : Nat) (v : Int32) : ce_S := (S.1, S.2.1, ce_u S.2.2.1 t i e v, S.2.2.2)
def ce_sF (S : ce_S) (t i : Nat) (f : Nat → Int32) : ce_S := (S.1, S.2.1, (fun t' i' => if t' = t then (if i' = i then f else S.2.2.1 t' i') else S.2.2.1 t' i'), S.2.2.2)
def ce_sQ (S : ce_S) (e v : Nat) : ce_S := (S.1, S.2.1, S.2.2.1, S.2.2.2.1, S.2.2.2.2.1, fun e' => if e' = e then some v else S.2.2.2.2.2 e')
def ce_val (ad : Nat → Nat → Nat) (v : ce_V) : Value := match v with
  | .inl x => .int x
  | .inr (.inl q) => .ref (ad q.1 q.2)
  | .inr (.inr x) => .long x
/-! the kinds of cells. Component: 0 the object, 1 kinds, 2 folk, 3 crowd, 4 keptFolk, 5 texts, 6 sheets (arrays), 7 tape, 8 letters, 9 steps, 10 kinds' objects, 11 sellers, 12 scenes, 13 texts, 14 codes, 15 sheets, 16 items, 17 stacks. Reference: 20 the object, 21 .. 27 kind cost number said cups stands price, 28 tape, 29 codes, 30 codeLong, 31 held, 32 stack, 33 kept, 34 sort, 35 size, 36 cells, 37 moved, 40 words, 41 a word. 60 the script, 61 text constants -/
abbrev ce_FK : Type := Unit ⊕ (Nat × (Nat → Nat)) ⊕ Nat
def ce_k0 (i : Nat) : Nat := i
def ce_k3 (e : Nat) : Nat := 3 * e
def ce_k31 (e : Nat) : Nat := 3 * e + 1
def ce_k32 (e : Nat) : Nat := 3 * e + 2
def ce_fst (t : Nat) : ce_FK := .inr (.inl (t, fun _ => 0))
def ce_fk (t k : Nat) : ce_FK := match t with
  | 0 => (match k with
    | 0 => ce_fst 1
    | 1 => ce_fst 2
    | 2 => ce_fst 12
    | 3 => ce_fst 5
    | 4 => ce_fst 7
    | 5 => ce_fst 6
    | 8 => .inr (.inl (11, fun _ => 18))
    | 9 => ce_fst 3
    | 10 => .inr (.inl (12, fun _ => 1))
    | 11 => ce_fst 4
    | 12 => .inr (.inl (12, fun _ => 2))
    | _ => .inl ())
  | 7 => (match k with
    | 1 => ce_fst 8
    | 2 => ce_fst 9
    | _ => .inl ())
  | 11 => (match k with
    | 0 => .inr (.inr 10)
    | _ => .inl ())
  | 12 => (match k with
    | 4 => .inr (.inr 13)
    | _ => .inl ())
  | 13 => (match k with
    | 0 => .inr (.inl (14, ce_k0))
    | 3 => .inr (.inl (17, ce_k0))
    | _ => .inl ())
  | 15 => (match k with
    | 0 => .inr (.inl (16, ce_k0))
    | _ => .inl ())
  | 20 => (match k with
    | 0 => ce_fst 21
    | 1 => ce_fst 22
    | 2 => ce_fst 23
    | 3 => ce_fst 24
    | 4 => ce_fst 25
    | 5 => ce_fst 26
    | 6 => ce_fst 27
    | 12 => ce_fst 40
    | 13 => ce_fst 28
    | 14 => ce_fst 29
    | 15 => ce_fst 30
    | 16 => ce_fst 31
    | 17 => ce_fst 32
    | 27 => ce_fst 33
    | 41 => ce_fst 34
    | 42 => ce_fst 35
    | 43 => ce_fst 36
    | 44 => ce_fst 37
    | _ => .inl ())
  | _ => .inl ()
/-- 0 an object, 1 a row of ints, 2 a row of references, 3 none of ours -/
def ce_so (t : Nat) : Nat := match t with
  | 0 => 0
  | 1 => 2
  | 2 => 2
  | 3 => 2
  | 4 => 2
  | 5 => 2
  | 6 => 2
  | 7 => 0
  | 8 => 1
  | 9 => 1
  | 10 => 0
  | 11 => 0
  | 12 => 0
  | 13 => 0
  | 14 => 1
  | 15 => 0
  | 16 => 1
  | 17 => 1
  | 20 => 0
  | 21 => 1
  | 22 => 1
  | 23 => 1
  | 24 => 1
  | 25 => 1
  | 26 => 1
  | 27 => 1
  | 28 => 1
  | 29 => 1
  | 30 => 1
  | 31 => 1
  | 32 => 1
  | 33 => 1
  | 34 => 1
  | 35 => 1
  | 36 => 1
  | 37 => 1
  | 40 => 2
  | 41 => 1
  | _ => 3
/-- an object's kind among vwCl -/
def ce_ci (t i : Nat) : Nat := match t with
  | 0 => 11
  | 7 => 9
  | 10 => (match i with
    | 0 => 3
    | 1 => 2
    | 2 => 8
    | 3 => 7
    | 4 => 0
    | _ => 1)
  | 11 => 5
  | 12 => 4
  | 13 => 10
  | 15 => 6
  | _ => 12
/-- a row's kind: 0 int, 1 Kind, 2 Seller, 3 Text, 4 Sheet, 5 int[] -/
def ce_ac (t : Nat) : Nat := match t with
  | 1 => 1
  | 2 => 2
  | 3 => 2
  | 4 => 2
  | 5 => 3
  | 6 => 4
  | 40 => 5
  | _ => 0
/-- a row's length, where it is fixed -/
def ce_sl (t : Nat) : Option Nat := match t with
  | 1 => some 6
  | 2 => some 6
  | 3 => some 6
  | 4 => some 6
  | 5 => some 6
  | 6 => some 4
  | 8 => some 160
  | 9 => some 160
  | 16 => some 40
  | 21 => some 6
  | 22 => some 6
  | 23 => some 6
  | 24 => some 6
  | 25 => some 6
  | 26 => some 6
  | 27 => some 6
  | 28 => some 160
  | 29 => some 3060
  | 30 => some 18
  | 31 => some 200
  | 32 => some 200
  | 33 => some 180
  | 34 => some 4
  | 35 => some 4
  | 36 => some 160
  | 37 => some 40
  | 40 => some 12
  | _ => none
def ce_len (S : ce_S) (t i : Nat) : Nat := match ce_sl t with
  | some n => n
  | none => ce_L S t i
/-- a row's items: of which kind, which -/
def ce_et (t : Nat) : Nat := match t with
  | 1 => 10
  | 5 => 13
  | 6 => 15
  | 40 => 41
  | _ => 11
def ce_eg (t : Nat) : Option (Nat → Nat) := match t with
  | 1 => some ce_k0
  | 2 => some ce_k3
  | 3 => some ce_k31
  | 4 => some ce_k32
  | 6 => some ce_k0
  | 40 => some ce_k0
  | _ => none
def ce_el (S : ce_S) (t e : Nat) : Option Nat := match ce_eg t with
  | some g => some (g e)
  | none => ce_Q S e
def ce_fv (ad : Nat → Nat → Nat) (S : ce_S) (t k i : Nat) : Value := match ce_fk t k with
  | .inl _ => .int (ce_I S t k i)
  | .inr (.inl q) => .ref (ad q.1 (q.2 i))
  | .inr (.inr t') => .ref (ad t' (ce_R S t k i))
/-- a cell of the heap holds what the state says -/
def ce_at (D : va_G) (ca : Nat → ClassId) (ad : Nat → Nat → Nat) (S : ce_S) (t i : Nat) (H : Heap) : Prop :=
  (ce_so t = 0 → ∃ r : vw_C, vwCl[ce_ci t i]? = some r ∧ t_OB (ad t i) (D.1 (ce_ci t i)) r.2.2 (D.2 (ce_ci t i)) H (fun k => ce_fv ad S t k i)) ∧
  (ce_so t = 1 → H[ad t i]? = some (vp_cell (ca 0) (ce_len S t i, .inl (fun e => ce_A S t i e)))) ∧
  (ce_so t = 2 → H[ad t i]? = some (vp_cell (ca (ce_ac t)) (ce_len S t i, .inr (.inr (.inr (.inr (fun e => (ce_el S t e).map (ad (ce_et t)))))))))
def ce_H (D : va_G) (ca : Nat → ClassId) (b0 : Nat) (ad : Nat → Nat → Nat) (S : ce_S) (H : Heap) : Prop :=
  (∀ t i, i < ce_C S t → ce_so t < 3 → ce_at D ca ad S t i H ∧ b0 ≤ ad t i ∧ ad t i < H.size) ∧ (∀ t i t' i', i < ce_C S t → i' < ce_C S t' → ce_so t < 3 → ce_so t' < 3 → ad t i = ad t' i' → t = t' ∧ i = i')
def ce_okV (S : ce_S) (v : ce_V) : Prop := match v with
  | .inr (.inl q) => q.2 < ce_C S q.1
  | _ => True
def ce_okT (S : ce_S) (st : List ce_V) : Prop := ∀ v ∈ st, ce_okV S v
def ce_okL (S : ce_S) (ls : List (Option ce_V)) : Prop := ∀ (j : Nat) (v : ce_V), ls[j]? = some (some v) → ce_okV S v
/-- every reference that is held is one -/
def ce_okS (S : ce_S) : Prop :=
  (∀ t k i, i < ce_C S t → ce_so t = 0 → (∀ q, ce_fk t k = .inr (.inl q) → q.2 i < ce_C S q.1) ∧ (∀ t', ce_fk t k = .inr (.inr t') → ce_R S t k i < ce_C S t')) ∧
  (∀ t i e x, i < ce_C S t → ce_so t = 2 → e < ce_len S t i → ce_el S t e = some x → x < ce_C S (ce_et t))
def ce_tys (ca : Nat → ClassId) : List (ClassId × FieldType) := [(ca 0, .int), (ca 1, .object RX3), (ca 2, .object RX5), (ca 3, .object RX10), (ca 4, .object RX6), (ca 5, .array .int)]
/-- the tables' words that stay -/
def ce_tw : List Cond := lw_tbl.filter goodWord
theorem ce_tw_in {w : Cond} (h : w ∈ lw_tbl) (g : goodWord w = true) : w ∈ ce_tw := List.mem_filter.mpr ⟨h, g⟩
theorem ce_goodIn {y : MethodName} {cc : ByteArray} {n : Nat} {r : Option FieldType} {y' : MethodName} {cc' : ByteArray} {n' : Nat} {r' : Option FieldType} (h : Cond.code y' cc' n' r' ∈ ce_tw) : GoodIn (Cond.code y cc n r :: ce_tw) (Cond.code y' cc' n' r' :: ce_tw) := by
  have g : ∀ w ∈ ce_tw, w ∈ (Cond.code y cc n r :: ce_tw) ∧ ((w.onTables && w.keeps) = true ∨ ∃ ty, w = .arrayClass ty) := fun w hw => ⟨List.mem_cons_of_mem _ hw, good_of_word (List.mem_filter.mp hw).2⟩
  intro w hw
  rcases List.mem_cons.mp hw with e | hw
  · subst e; exact g _ h
  · exact g w hw
end
section
/-! what the tables say of the world, and the rows of the heap -/
def ce_castW : List (String × String) := [(RX0, RX2), (RX1, RX2), (RX7, RX8)]
def ce_G (D : va_G) (ca : Nat → ClassId) (U : State) : Prop := va_K D vwCl (ce_tys ca) U ∧ (va_Nw (.methodLinkNest RX10 7 yX11_within RX11) U ∧ va_Nw (.methodLinkNest RX4 37 yX11_within RX11) U ∧ va_Nw (.methodLinkNest RX6 22 yX11_within RX11) U) ∧ (∀ q ∈ ce_castW, va_Nw (.castable q.1 q.2) U) ∧ (∀ a ∈ [RX0, RX1, RX2, RX3, RX7, RX8], ∀ b ∈ [RX2, RX8, RX7, RX0, RX1], a = b ∨ (a, b) ∈ ce_castW ∨ va_Nc a b U)
theorem ce_G.warm {D : va_G} {ca : Nat → ClassId} {s U : State} (hW : s.WarmedH U.vm) (h : ce_G D ca s) : ce_G D ca U :=
  ⟨va_K.moved hW.alike h.1, ⟨h.2.1.1.warmM hW, h.2.1.2.1.warmM hW, h.2.1.2.2.warmM hW⟩, fun q hq => (h.2.2.1 q hq).warmC hW, fun a ha b hb => (h.2.2.2 a ha b hb).imp id (Or.imp id (fun z => va_Nc.moved hW.alike z))⟩
theorem ce_G.same {D : va_G} {ca : Nat → ClassId} {s U : State} (hW : s.vm = U.vm) (h : ce_G D ca s) : ce_G D ca U :=
  ⟨va_K.moved (by rw [hW]; exact Vm.Alike.refl _) h.1, ⟨h.2.1.1.same rfl hW, h.2.1.2.1.same rfl hW, h.2.1.2.2.same rfl hW⟩, fun q hq => (h.2.2.1 q hq).same rfl hW, fun a ha b hb => (h.2.2.2 a ha b hb).imp id (Or.imp id (fun z => va_Nc.moved (by rw [hW]; exact Vm.Alike.refl _) z))⟩
/-- the text constants, and two statics of the JDK's -/
def ce_tR : List (String × Nat × String) := [(RX9, 106, "least"), (RX9, 112, "first"), (RX9, 114, "pull"), (RX9, 116, "or"), (RX9, 118, "and"), (RX9, 120, "not"), (RX9, 122, "cost"), (RX9, 124, "shoes"), (RX9, 126, "hour"), (RX9, 128, "bid"), (RX9, 130, "said"), (RX9, 132, "cups"), (RX11, 80, "least cost + shoes * 2 - ( hour < 9 ) * 10 ; first 2 * cost + shoes * 20 ; pull 0 ;")]
def ce_sB : List (List Int32) := [[108, 101, 97, 115, 116], [102, 105, 114, 115, 116], [112, 117, 108, 108], [111, 114], [97, 110, 100], [110, 111, 116], [99, 111, 115, 116], [115, 104, 111, 101, 115], [104, 111, 117, 114], [98, 105, 100], [115, 97, 105, 100], [99, 117, 112, 115], [108, 101, 97, 115, 116, 32, 99, 111, 115, 116, 32, 43, 32, 115, 104, 111, 101, 115, 32, 42, 32, 50, 32, 45, 32, 40, 32, 104, 111, 117, 114, 32, 60, 32, 57, 32, 41, 32, 42, 32, 49, 48, 32, 59, 32, 102, 105, 114, 115, 116, 32, 50, 32, 42, 32, 99, 111, 115, 116, 32, 43, 32, 115, 104, 111, 101, 115, 32, 42, 32, 50, 48, 32, 59, 32, 112, 117, 108, 108, 32, 48, 32, 59]]
def ce_sN : List Nat := [5, 5, 4, 2, 3, 3, 4, 5, 4, 3, 4, 4, 83]
def ce_X (ad : Nat → Nat → Nat) (b0 : Nat) (U : State) : Prop := (∃ adV : Nat → Nat, vk_S 13 ce_sN ce_sB (ad 61) adV (fun q => b0 ≤ q) U U.heap) ∧ (∀ (j : Nat) (q : String × Nat × String), ce_tR[j]? = some q → vk_R q.1 q.2.1 q.2.2 (ad 61 j) U) ∧ va_Z "java/lang/String" "COMPACT_STRINGS" "Z" (.int 1) (fun q => b0 ≤ q) U U.heap ∧ va_Zq "jdk/internal/util/Preconditions" "SIOOBE_FORMATTER" "Ljava/util/function/BiFunction;" (fun q => b0 ≤ q) U U.heap
theorem ce_X.warm {ad : Nat → Nat → Nat} {b0 : Nat} {s U : State} (hW : s.WarmedH U.vm) (hq : ∀ q : Nat, q < s.heap.size → ¬ b0 ≤ q → U.heap[q]? = s.heap[q]?) (h : ce_X ad b0 s) : ce_X ad b0 U := by
  obtain ⟨⟨adV, h1⟩, h2, h3, h4⟩ := h
  exact ⟨⟨adV, (h1.kept hq).moved hW.alike⟩, fun j q hj => (h2 j q hj).warm hW, (h3.kept hq).moved hW.alike, (h4.kept hq).moved hW.alike⟩
theorem ce_X.same {ad : Nat → Nat → Nat} {b0 : Nat} {s U : State} (hv : s.vm = U.vm) (hq : U.heap = s.heap) (h : ce_X ad b0 s) : ce_X ad b0 U := by
  obtain ⟨⟨adV, h1⟩, h2, h3, h4⟩ := h
  have ha : s.vm.Alike U.vm := by rw [hv]; exact Vm.Alike.refl _
  have hk : ∀ q : Nat, q < s.heap.size → ¬ b0 ≤ q → U.heap[q]? = s.heap[q]? := fun q _ _ => by rw [hq]
  exact ⟨⟨adV, (h1.kept hk).moved ha⟩, fun j q hj => (h2 j q hj).same hv.symm, (h3.kept hk).moved ha, (h4.kept hk).moved ha⟩
theorem ce_X.agree {ad ad' : Nat → Nat → Nat} {b0 : Nat} {s : State} (hq : ∀ j : Nat, j < 13 → ad' 61 j = ad 61 j) (h : ce_X ad b0 s) : ce_X ad' b0 s := by
  obtain ⟨⟨adV, h1⟩, h2, h3, h4⟩ := h
  refine ⟨⟨adV, ⟨fun i hi => by rw [hq i hi]; exact h1.1 i hi, fun i j hi hj => by rw [hq i hi, hq j hj]; exact h1.2 i j hi hj⟩⟩, fun j q hj => ?_, h3, h4⟩
  rw [hq j (by have := (List.getElem?_eq_some_iff.mp hj).1; exact this)]
  exact h2 j q hj
/-- a cell stays where the state and the heap stay -/
theorem ce_at.kept {D : va_G} {ca : Nat → ClassId} {ad : Nat → Nat → Nat} {S S' : ce_S} {t i : Nat} {H H1 : Heap} (h : ce_at D ca ad S t i H) (hq : H1[ad t i]? = H[ad t i]?) (hI : ∀ k, ce_I S' t k i = ce_I S t k i) (hR : ∀ k, ce_R S' t k i = ce_R S t k i) (hA : ∀ e, ce_A S' t i e = ce_A S t i e) (hL : ce_L S' t i = ce_L S t i) (hQ : ce_so t = 2 → ∀ e, ce_el S' t e = ce_el S t e) : ce_at D ca ad S' t i H1 := by
  have hl : ce_len S' t i = ce_len S t i := by
    unfold ce_len
    cases ce_sl t <;> simp [hL]
  refine ⟨fun h0 => ?_, fun h1 => ?_, fun h2 => ?_⟩
  · obtain ⟨r, h1, h2⟩ := h.1 h0
    refine ⟨r, h1, (h2.kept hq).to (fun k _ => ?_)⟩
    unfold ce_fv
    cases ce_fk t k with
    | inl u => simp [hI]
    | inr u => cases u with
      | inl u => rfl
      | inr u => simp [hR]
  · rw [hq, h.2.1 h1, hl]
    congr 4
    funext e
    exact (hA e).symm
  · rw [hq, h.2.2 h2, hl]
    congr 7
    funext e
    rw [hQ h2 e]
/-- one cell is written: the others stay -/
theorem ce_H.set {D : va_G} {ca : Nat → ClassId} {b0 : Nat} {ad : Nat → Nat → Nat} {S S' : ce_S} {t i : Nat} {H H1 : Heap} (h : ce_H D ca b0 ad S H) (hi : i < ce_C S t) (ht : ce_so t < 3) (hz : H1.size = H.size) (ho : ∀ q : Nat, q ≠ ad t i → H1[q]? = H[q]?) (hC : ∀ t, ce_C S' t = ce_C S t) (hc : ce_at D ca ad S' t i H1)
    (hk : ∀ t' i', ¬ (t' = t ∧ i' = i) → (∀ k, ce_I S' t' k i' = ce_I S t' k i') ∧ (∀ k, ce_R S' t' k i' = ce_R S t' k i') ∧ (∀ e, ce_A S' t' i' e = ce_A S t' i' e) ∧ ce_L S' t' i' = ce_L S t' i' ∧ (ce_so t' = 2 → i' < ce_C S t' → ∀ e, ce_el S' t' e = ce_el S t' e)) : ce_H D ca b0 ad S' H1 := by
  refine ⟨fun t' i' hi' ht' => ?_, fun a b a' b' h1 h2 h3 h4 h5 => h.2 a b a' b' (by rw [hC] at h1; exact h1) (by rw [hC] at h2; exact h2) h3 h4 h5⟩
  rw [hC] at hi'
  obtain ⟨g1, g2, g3⟩ := h.1 t' i' hi' ht'
  refine ⟨?_, g2, by rw [hz]; exact g3⟩
  by_cases e : t' = t ∧ i' = i
  · obtain ⟨rfl, rfl⟩ := e
    exact hc
  · obtain ⟨k1, k2, k3, k4, k5⟩ := hk t' i' e
    exact g1.kept (ho _ (fun q => e (h.2 t' i' t i hi' hi ht' ht q))) k1 k2 k3 k4 (fun z => k5 z hi')
theorem ce_u_eq {α : Type} (f : Nat → Nat → Nat → α) (t k i : Nat) (v : α) : ce_u f t k i v t k i = v := by simp [ce_u]
theorem ce_u_ne {α : Type} (f : Nat → Nat → Nat → α) {t k i t' k' i' : Nat} (v : α) (h : ¬ (t' = t ∧ k' = k ∧ i' = i)) : ce_u f t k i v t' k' i' = f t' k' i' := by
  unfold ce_u
  by_cases h1 : t' = t
  · by_cases h2 : k' = k
    · by_cases h3 : i' = i
      · exact absurd ⟨h1, h2, h3⟩ h
      · simp [h3]
    · simp [h2]
  · simp [h1]
section CEB
variable {p : Program} {l : Launch} {e : Env} {R : Room} {s : State} {m : MethodId} {args : Array Value} {below : List Frame} {meth : Method} {c : Code} {H : Heap} {locs : List Loc} {cells slots : Nat} {Q : State → Prop}
variable {cc : ByteArray} {pc : Nat} {ls : Array Slot} {rest : List Value} {D : va_G} {cl : List vw_C} {tys : List (ClassId × FieldType)}
/-- getfield -/
theorem ce_get (hexec : p.tables.exec = Jvm.exec) (hb : c.code = cc) {own C : String} {T : u_T} {N ci index : Nat} {Ts : List Cond} (hts : ∀ w ∈ Ts, w.before args s = true) (hin : ∀ w ∈ u_ws C T N, w ∈ Ts) (hown : s.vm.findClass own = some m.cls) (hK : va_K D cl tys s) {a : Nat} {V : Nat → Value} (hP : t_OB a (D.1 ci) N (D.2 ci) H V) (hc : cl[ci]? = some (C, T, N)) (k : Nat) (hk : k < N) (hlink : (Cond.fieldLink own index (T k).1 (T k).2.1 (T k).2.2.1).before args s = true) {v : Value} (hv : V k = v) (hdg : decode cc pc = .ok (.getfield index, 3))
    (kk : W p l e R s m args below meth c H locs cells slots Q (F0 m (pc + 3) ls (v :: rest))) : W p l e R s m args below meth c H locs cells slots Q (F0 m pc ls (.ref a :: rest)) := by
  obtain ⟨cell, q1, q2, q3, q4⟩ := hP
  obtain ⟨hS, hfc, kC, hkC, hkind⟩ := hK.1 ci _ hc
  obtain ⟨cf, kf, fi, f, hi, hsl⟩ := hS k hk
  refine W.getf hexec hb hown hlink hi (u_facts hfc hkC (u_lays hts hin hk) hi).1 q1 (by rw [q3]; exact fun h => by cases h) (v := v) ?_ rfl rfl hdg kk
  rw [hsl, q4 k hk, hv]
/-- putfield, and that nothing else changes -/
theorem ce_put (hexec : p.tables.exec = Jvm.exec) (hb : c.code = cc) {own C : String} {T : u_T} {N ci index : Nat} {Ts : List Cond} (hts : ∀ w ∈ Ts, w.before args s = true) (hin : ∀ w ∈ u_ws C T N, w ∈ Ts) (ty0 : Nat → FieldType) (hty : ∀ k, k < N → parseFieldDescriptor (T k).2.2.1 = some (ty0 k)) (hnm : ∀ a, a < N → ∀ b, b < N → a ≠ b → (T a).2.1 ≠ (T b).2.1) (hown : s.vm.findClass own = some m.cls) (hK : va_K D cl tys s) {a : Nat} {V : Nat → Value} (hP : t_OB a (D.1 ci) N (D.2 ci) H V) (hc : cl[ci]? = some (C, T, N)) (k : Nat) (hk : k < N) (hlink : (Cond.fieldLink own index (T k).1 (T k).2.1 (T k).2.2.1).before args s = true) (hfin : (T k).2.2.2 = false) {v : Value} (hn : narrow (ty0 k) v = v) (hfit : fits (ty0 k) v = true)
    (hdg : decode cc pc = .ok (.putfield index, 3)) (kk : ∀ (H1 : Heap) (lc : Loc), lc.base = a → t_OB a (D.1 ci) N (D.2 ci) H1 (updV V k v) → H1.size = H.size → (∀ q : Nat, q ≠ a → H1[q]? = H[q]?) → W p l e R s m args below meth c H1 (locs ++ [lc]) cells slots Q (F0 m (pc + 3) ls rest)) : W p l e R s m args below meth c H locs cells slots Q (F0 m pc ls (v :: .ref a :: rest)) := by
  have hap := va_apart (own := own) hts hin ty0 hty hnm hK hc
  obtain ⟨cell, q1, q2, q3, q4⟩ := hP
  obtain ⟨hS, hfc, kC, hkC, hkind⟩ := hK.1 ci _ hc
  obtain ⟨cf, kf, fi, f, hi, hsl⟩ := hS k hk
  have hlay := hts _ (hin _ (u_in_lay hk))
  unfold u_lay at hlay
  rw [if_neg (by rw [hfin]; decide)] at hlay
  have hst := (u_facts hfc hkC (u_lays hts hin hk) hi).1
  have h6 := u_store hfc hkC hkind hlay hi (hty k hk) hn hfit
  refine W.putK hexec hb (f := f) ⟨hown, hlink, ⟨_, _, _, hi⟩, hst⟩ (by rw [q2]; exact h6) q1 q3 (by rw [hsl]; exact k2_hasslot (q4 k hk)) rfl rfl hdg fun H' e1 e2 e3 => ?_
  rw [hsl] at e1 ⊢
  exact kk H' _ rfl ⟨_, e1, q2, q3, t_set q4 hap hk v⟩ e2 e3
end CEB
end
section
/-! the plain machine: a step is a function; a method's code is a list of steps -/
abbrev ce_Rs : Type := Option (Option ce_V × ce_S)
abbrev ce_K : Type := Nat → Nat × Nat → List (Option ce_V) → List ce_V → ce_S → ce_Rs
abbrev ce_Op : Type := Nat → Nat × Nat → List (Option ce_V) → List ce_V → ce_S → ce_K → ce_Rs
def ce_bad : ce_Op := fun _ _ _ _ _ _ => none
noncomputable def ce_run (tb : List ce_Op) (n : Nat) : ce_K := Nat.rec (motive := fun _ => ce_K) (fun _ _ _ _ _ => none) (fun _ ih i nn ls st S => (tb.getD i ce_bad) i nn ls st S ih) n
def o_int (v : Int32) : ce_Op := fun i nn ls st S k => k (i + 1) nn ls (.inl v :: st) S
def o_long (v : Int64) : ce_Op := fun i nn ls st S k => k (i + 1) nn ls (.inr (.inr v) :: st) S
def o_iload (j : Nat) : ce_Op := fun i nn ls st S k => match ls.getD j none with
  | some (.inl x) => k (i + 1) nn ls (.inl x :: st) S
  | _ => none
def o_aload (j : Nat) : ce_Op := fun i nn ls st S k => match ls.getD j none with
  | some (.inr (.inl q)) => k (i + 1) nn ls (.inr (.inl q) :: st) S
  | _ => none
def o_istore (j : Nat) : ce_Op := fun i nn ls st S k => match st with
  | .inl x :: r => k (i + 1) nn (ls.set j (some (.inl x))) r S
  | _ => none
def o_astore (j : Nat) : ce_Op := fun i nn ls st S k => match st with
  | .inr (.inl q) :: r => k (i + 1) nn (ls.set j (some (.inr (.inl q)))) r S
  | _ => none
def o_iinc (j : Nat) (d : Int32) : ce_Op := fun i nn ls st S k => match ls.getD j none with
  | some (.inl x) => k (i + 1) nn (ls.set j (some (.inl (x + d)))) st S
  | _ => none
def o_bin (f : Int32 → Int32 → Int32) : ce_Op := fun i nn ls st S k => match st with
  | .inl y :: .inl x :: r => k (i + 1) nn ls (.inl (f x y) :: r) S
  | _ => none
def o_div : ce_Op := fun i nn ls st S k => match st with
  | .inl y :: .inl x :: r => if y = 0 then none else k (i + 1) nn ls (.inl (x / y) :: r) S
  | _ => none
def o_rem : ce_Op := fun i nn ls st S k => match st with
  | .inl y :: .inl x :: r => if y = 0 then none else k (i + 1) nn ls (.inl (x - x / y * y) :: r) S
  | _ => none
def o_un (f : Int32 → Int32) : ce_Op := fun i nn ls st S k => match st with
  | .inl x :: r => k (i + 1) nn ls (.inl (f x) :: r) S
  | _ => none
def o_i2l : ce_Op := fun i nn ls st S k => match st with
  | .inl x :: r => k (i + 1) nn ls (.inr (.inr x.toInt64) :: r) S
  | _ => none
def o_lcmp : ce_Op := fun i nn ls st S k => match st with
  | .inr (.inr y) :: .inr (.inr x) :: r => k (i + 1) nn ls (.inl (lg_cmp x y) :: r) S
  | _ => none
def o_goto (t : Nat) : ce_Op := fun _ nn ls st S k => k t nn ls st S
def o_ifeq (t : Nat) : ce_Op := fun i nn ls st S k => match st with
  | .inl x :: r => if x = 0 then k t nn ls r S else k (i + 1) nn ls r S
  | _ => none
def o_ifne (t : Nat) : ce_Op := fun i nn ls st S k => match st with
  | .inl x :: r => if x = 0 then k (i + 1) nn ls r S else k t nn ls r S
  | _ => none
def o_iflt (t : Nat) : ce_Op := fun i nn ls st S k => match st with
  | .inl x :: r => if x < 0 then k t nn ls r S else k (i + 1) nn ls r S
  | _ => none
def o_ifge (t : Nat) : ce_Op := fun i nn ls st S k => match st with
  | .inl x :: r => if 0 ≤ x then k t nn ls r S else k (i + 1) nn ls r S
  | _ => none
def o_ifgt (t : Nat) : ce_Op := fun i nn ls st S k => match st with
  | .inl x :: r => if 0 < x then k t nn ls r S else k (i + 1) nn ls r S
  | _ => none
def o_ifle (t : Nat) : ce_Op := fun i nn ls st S k => match st with
  | .inl x :: r => if x ≤ 0 then k t nn ls r S else k (i + 1) nn ls r S
  | _ => none
def o_cmpeq (t : Nat) : ce_Op := fun i nn ls st S k => match st with
  | .inl y :: .inl x :: r => if x = y then k t nn ls r S else k (i + 1) nn ls r S
  | _ => none
def o_cmpne (t : Nat) : ce_Op := fun i nn ls st S k => match st with
  | .inl y :: .inl x :: r => if x = y then k (i + 1) nn ls r S else k t nn ls r S
  | _ => none
def o_cmplt (t : Nat) : ce_Op := fun i nn ls st S k => match st with
  | .inl y :: .inl x :: r => if x < y then k t nn ls r S else k (i + 1) nn ls r S
  | _ => none
def o_cmpge (t : Nat) : ce_Op := fun i nn ls st S k => match st with
  | .inl y :: .inl x :: r => if y ≤ x then k t nn ls r S else k (i + 1) nn ls r S
  | _ => none
def o_cmpgt (t : Nat) : ce_Op := fun i nn ls st S k => match st with
  | .inl y :: .inl x :: r => if y < x then k t nn ls r S else k (i + 1) nn ls r S
  | _ => none
def o_cmple (t : Nat) : ce_Op := fun i nn ls st S k => match st with
  | .inl y :: .inl x :: r => if x ≤ y then k t nn ls r S else k (i + 1) nn ls r S
  | _ => none
def ce_sw (x : Int32) : List (Int32 × Nat) → Nat → (Nat → ce_Rs) → ce_Rs
  | [], d, kk => kk d
  | q :: r, d, kk => if x = q.1 then kk q.2 else ce_sw x r d kk
def o_sw (ks : List (Int32 × Nat)) (d : Nat) : ce_Op := fun _ nn ls st S k => match st with
  | .inl x :: r => ce_sw x ks d (fun t => k t nn ls r S)
  | _ => none
def o_dup : ce_Op := fun i nn ls st S k => match st with
  | .inl x :: r => k (i + 1) nn ls (.inl x :: .inl x :: r) S
  | .inr (.inl x) :: r => k (i + 1) nn ls (.inr (.inl x) :: .inr (.inl x) :: r) S
  | _ => none
def o_dup2 : ce_Op := fun i nn ls st S k => match st with
  | .inl y :: .inr (.inl x) :: r => k (i + 1) nn ls (.inl y :: .inr (.inl x) :: .inl y :: .inr (.inl x) :: r) S
  | _ => none
def o_pop : ce_Op := fun i nn ls st S k => match st with
  | .inl _ :: r => k (i + 1) nn ls r S
  | _ => none
def o_getI (t f : Nat) : ce_Op := fun i nn ls st S k => match st with
  | .inr (.inl q) :: r => if q.1 = t then k (i + 1) nn ls (.inl (ce_I S t f q.2) :: r) S else none
  | _ => none
def o_getS (t t' : Nat) (g : Nat → Nat) : ce_Op := fun i nn ls st S k => match st with
  | .inr (.inl q) :: r => if q.1 = t then k (i + 1) nn ls (.inr (.inl (t', g q.2)) :: r) S else none
  | _ => none
def o_getM (t f t' : Nat) : ce_Op := fun i nn ls st S k => match st with
  | .inr (.inl q) :: r => if q.1 = t then k (i + 1) nn ls (.inr (.inl (t', ce_R S t f q.2)) :: r) S else none
  | _ => none
def o_putI (t f : Nat) : ce_Op := fun i nn ls st S k => match st with
  | .inl x :: .inr (.inl q) :: r => if q.1 = t then k (i + 1) nn ls r (ce_sI S t f q.2 x) else none
  | _ => none
def o_putZ (t f : Nat) : ce_Op := fun i nn ls st S k => match st with
  | .inl x :: .inr (.inl q) :: r => if q.1 = t then (if x = 0 ∨ x = 1 then k (i + 1) nn ls r (ce_sI S t f q.2 x) else none) else none
  | _ => none
def o_putM (t f t' : Nat) : ce_Op := fun i nn ls st S k => match st with
  | .inr (.inl v) :: .inr (.inl q) :: r => if q.1 = t then (if v.1 = t' then k (i + 1) nn ls r (ce_sR S t f q.2 v.2) else none) else none
  | _ => none
def o_ild (t : Nat) : ce_Op := fun i nn ls st S k => match st with
  | .inl j :: .inr (.inl q) :: r => if q.1 = t then (if j < 0 ∨ ce_len S t q.2 ≤ j.toNatClampNeg then none else k (i + 1) nn ls (.inl (ce_A S t q.2 j.toNatClampNeg) :: r) S) else none
  | _ => none
def o_ist (t : Nat) : ce_Op := fun i nn ls st S k => match st with
  | .inl x :: .inl j :: .inr (.inl q) :: r => if q.1 = t then (if j < 0 ∨ ce_len S t q.2 ≤ j.toNatClampNeg then none else k (i + 1) nn ls r (ce_sA S t q.2 j.toNatClampNeg x)) else none
  | _ => none
def o_alen (t : Nat) : ce_Op := fun i nn ls st S k => match st with
  | .inr (.inl q) :: r => if q.1 = t then k (i + 1) nn ls (.inl (nI (ce_len S t q.2)) :: r) S else none
  | _ => none
def o_ald (t t' : Nat) (g : Nat → Nat) : ce_Op := fun i nn ls st S k => match st with
  | .inl j :: .inr (.inl q) :: r => if q.1 = t then (if j < 0 ∨ ce_len S t q.2 ≤ j.toNatClampNeg then none else k (i + 1) nn ls (.inr (.inl (t', g j.toNatClampNeg)) :: r) S) else none
  | _ => none
def o_aldQ : ce_Op := fun i nn ls st S k => match st with
  | .inl j :: .inr (.inl q) :: r => if q.1 = 5 then (if j < 0 ∨ 6 ≤ j.toNatClampNeg then none else (ce_Q S j.toNatClampNeg).bind fun x => k (i + 1) nn ls (.inr (.inl (13, x)) :: r) S) else none
  | _ => none
def o_iret : ce_Op := fun _ _ _ st S _ => match st with
  | [.inl x] => some (some (.inl x), S)
  | _ => none
def o_zret : ce_Op := fun _ _ _ st S _ => match st with
  | [.inl x] => if x = 0 ∨ x = 1 then some (some (.inl x), S) else none
  | _ => none
def o_lret : ce_Op := fun _ _ _ st S _ => match st with
  | [.inr (.inr x)] => some (some (.inr (.inr x)), S)
  | _ => none
def o_aret : ce_Op := fun _ _ _ st S _ => match st with
  | [.inr (.inl q)] => some (some (.inr (.inl q)), S)
  | _ => none
def o_vret : ce_Op := fun _ _ _ st S _ => match st with
  | [] => some (none, S)
  | _ => none
def o_mmax : ce_Op := fun i nn ls st S k => match st with
  | .inl y :: .inl x :: r => if r.length ≤ 4 then k (i + 1) nn ls (.inl (if x < y then y else x) :: r) S else none
  | _ => none
def o_mmin : ce_Op := fun i nn ls st S k => match st with
  | .inl y :: .inl x :: r => if r.length ≤ 4 then k (i + 1) nn ls (.inl (if y < x then y else x) :: r) S else none
  | _ => none
def o_inst (f : Nat → Int32) : ce_Op := fun i nn ls st S k => match st with
  | .inr (.inl q) :: r => if q.1 = 10 then k (i + 1) nn ls (.inl (f q.2) :: r) S else none
  | _ => none
def o_cv (n : Nat) (F : List ce_V → ce_S → Option ce_S) (mc ms MC MS : Nat) : ce_Op := fun i nn ls st S k =>
  if nn.1 + mc ≤ MC ∧ nn.2 + ms ≤ MS ∧ (st.drop n).length ≤ 4 ∧ n ≤ st.length then (F (st.take n).reverse S).bind fun S' => k (i + 1) (nn.1 + mc, nn.2 + ms) ls (st.drop n) S' else none
def o_ci (n : Nat) (F : List ce_V → ce_S → Option (Int32 × ce_S)) (mc ms MC MS : Nat) : ce_Op := fun i nn ls st S k =>
  if nn.1 + mc ≤ MC ∧ nn.2 + ms ≤ MS ∧ (st.drop n).length ≤ 4 ∧ n ≤ st.length then (F (st.take n).reverse S).bind fun q => k (i + 1) (nn.1 + mc, nn.2 + ms) ls (.inl q.1 :: st.drop n) q.2 else none
def o_cl (n : Nat) (F : List ce_V → ce_S → Option (Int64 × ce_S)) (mc ms MC MS : Nat) : ce_Op := fun i nn ls st S k =>
  if nn.1 + mc ≤ MC ∧ nn.2 + ms ≤ MS ∧ (st.drop n).length ≤ 4 ∧ n ≤ st.length then (F (st.take n).reverse S).bind fun q => k (i + 1) (nn.1 + mc, nn.2 + ms) ls (.inr (.inr q.1) :: st.drop n) q.2 else none
def o_cr (n t : Nat) (F : List ce_V → ce_S → Option (Nat × ce_S)) (mc ms MC MS : Nat) : ce_Op := fun i nn ls st S k =>
  if nn.1 + mc ≤ MC ∧ nn.2 + ms ≤ MS ∧ (st.drop n).length ≤ 4 ∧ n ≤ st.length then (F (st.take n).reverse S).bind fun q => k (i + 1) (nn.1 + mc, nn.2 + ms) ls (.inr (.inl (t, q.1)) :: st.drop n) q.2 else none
/-! what such a state is on the machine -/
def ce_rm (d MC MS : Nat) : Room := { frames := d, cells := MC, slots := MS, locals := 60 * d }
def ce_Cx (p : Program) (s : State) (m : MethodId) (args : Array Value) (meth : Method) (c : Code) (cc : ByteArray) (own : String) (nL : Nat) (rt : Option FieldType) (D : va_G) (ca : Nat → ClassId) : Prop :=
  p.tables.exec = Jvm.exec ∧ c.code = cc ∧ c.maxLocals = nL ∧ s.vm.findClass own = some m.cls ∧ (∃ w0 : Cond, ∀ w ∈ w0 :: ce_tw, w.before args s = true) ∧ meth.sig.returnType = rt ∧ meth.locks = false ∧ ce_G D ca s
def ce_lv (ad : Nat → Nat → Nat) (rls : Array Slot) (nL : Nat) (ls : List (Option ce_V)) : Prop := rls.size = nL ∧ lv_wf rls ∧ ls.length = nL ∧ ∀ (j : Nat) (v : ce_V), ls[j]? = some (some v) → rls[j]? = some (.val (ce_val ad v)) ∧ (ce_val ad v).category = 1
def ce_ag (S0 : ce_S) (ad0 : Nat → Nat → Nat) (S : ce_S) (ad : Nat → Nat → Nat) : Prop := ∀ t i, i < ce_C S0 t → ad t i = ad0 t i ∧ i < ce_C S t
def ce_Po (D : va_G) (ca : Nat → ClassId) (b0 : Nat) (ad : Nat → Nat → Nat) (S : ce_S) (res : Option ce_V × ce_S) : Array Value → State → Outcome → State → Prop := fun _ st oc t => ∃ ad' : Nat → Nat → Nat, ce_ag S ad res.2 ad' ∧ oc = .returned (res.1.map (ce_val ad')) ∧ ce_okS res.2 ∧ (∀ v, res.1 = some v → ce_okV res.2 v) ∧ ce_H D ca b0 ad' res.2 t.heap ∧ va_F (fun q => b0 ≤ q) st t
def ce_Rel (D : va_G) (ca : Nat → ClassId) (b0 : Nat) (ad0 : Nat → Nat → Nat) (S0 : ce_S) (ad : Nat → Nat → Nat) (s : State) (H : Heap) (locs : List Loc) (rls : Array Slot) (nL : Nat) (ls : List (Option ce_V)) (S : ce_S) : Prop :=
  ce_H D ca b0 ad S H ∧ va_S (fun q => b0 ≤ q) s.heap H locs ∧ ce_lv ad rls nL ls ∧ ce_okS S ∧ ce_okL S ls ∧ ce_ag S0 ad0 S ad
def ce_Wn (l : Launch) (cc : ByteArray) (own : String) (nL : Nat) (rt : Option FieldType) (d MC MS : Nat) (pcs : List Nat) (res : Option ce_V × ce_S) (i : Nat) (nn : Nat × Nat) (ls : List (Option ce_V)) (st : List ce_V) (S : ce_S) : Prop :=
  ∀ (p : Program) (e : Env) (s : State) (m : MethodId) (args : Array Value) (below : List Frame) (meth : Method) (c : Code) (D : va_G) (ca : Nat → ClassId) (b0 : Nat) (ad0 : Nat → Nat → Nat) (S0 : ce_S) (ad : Nat → Nat → Nat) (H : Heap) (locs : List Loc) (rls : Array Slot),
    ce_Cx p s m args meth c cc own nL rt D ca → 13 ≤ ce_C S0 61 → ce_X ad0 b0 s → ce_Rel D ca b0 ad0 S0 ad s H locs rls nL ls S → ce_okT S st → nn.1 ≤ MC → nn.2 ≤ MS →
    W p l e (ce_rm d MC MS) s m args below meth c H locs nn.1 nn.2 (MQ below (ce_Po D ca b0 ad0 S0 res) args s MC MS (fun q => b0 ≤ q)) (F0 m (pcs.getD i 0) rls (st.map (ce_val ad)))
def ce_Ok (l : Launch) (cc : ByteArray) (own : String) (nL : Nat) (rt : Option FieldType) (d MC MS : Nat) (pcs : List Nat) (i : Nat) (op : ce_Op) : Prop :=
  ∀ (nn : Nat × Nat) (ls : List (Option ce_V)) (st : List ce_V) (S : ce_S) (k : ce_K) (res : Option ce_V × ce_S), op i nn ls st S k = some res → (∀ i' nn' ls' st' S', k i' nn' ls' st' S' = some res → ce_Wn l cc own nL rt d MC MS pcs res i' nn' ls' st' S') → ce_Wn l cc own nL rt d MC MS pcs res i nn ls st S
def ce_OkL (l : Launch) (cc : ByteArray) (own : String) (nL : Nat) (rt : Option FieldType) (d MC MS : Nat) (pcs : List Nat) : Nat → List ce_Op → Prop
  | _, [] => True
  | i, o :: r => ce_Ok l cc own nL rt d MC MS pcs i o ∧ ce_OkL l cc own nL rt d MC MS pcs (i + 1) r
theorem ce_OkL.at {l : Launch} {cc : ByteArray} {own : String} {nL : Nat} {rt : Option FieldType} {d MC MS : Nat} {pcs : List Nat} : ∀ (tb : List ce_Op) (i j : Nat), ce_OkL l cc own nL rt d MC MS pcs i tb → j < tb.length → ce_Ok l cc own nL rt d MC MS pcs (i + j) (tb.getD j ce_bad) := by
  intro tb
  induction tb with
  | nil => intro i j _ h; exact absurd h (Nat.not_lt_zero _)
  | cons o r ih =>
    intro i j h hj
    cases j with
    | zero => exact h.1
    | succ j =>
      have := ih (i + 1) j h.2 (by simpa using hj)
      rw [show i + (j + 1) = i + 1 + j by omega]
      simpa using this
theorem ce_run_ok {l : Launch} {cc : ByteArray} {own : String} {nL : Nat} {rt : Option FieldType} {d MC MS : Nat} {pcs : List Nat} {tb : List ce_Op} (h : ce_OkL l cc own nL rt d MC MS pcs 0 tb) : ∀ (n i : Nat) (nn : Nat × Nat) (ls : List (Option ce_V)) (st : List ce_V) (S : ce_S) (res : Option ce_V × ce_S), ce_run tb n i nn ls st S = some res → ce_Wn l cc own nL rt d MC MS pcs res i nn ls st S := by
  intro n
  induction n with
  | zero => intro i nn ls st S res h; cases h
  | succ n ih =>
    intro i nn ls st S res hr
    have hr : (tb.getD i ce_bad) i nn ls st S (ce_run tb n) = some res := hr
    by_cases hi : i < tb.length
    · have h1 := h.at tb 0 i hi
      rw [Nat.zero_add] at h1
      exact h1 nn ls st S _ res hr (fun i' nn' ls' st' S' h2 => ih i' nn' ls' st' S' res h2)
    · rw [show tb.getD i ce_bad = ce_bad by simp [List.getD, List.getElem?_eq_none (Nat.not_lt.mp hi)]] at hr
      cases hr
end
section
theorem ce_okT_cons {S : ce_S} {v : ce_V} {st : List ce_V} (h : ce_okV S v) (hT : ce_okT S st) : ce_okT S (v :: st) := fun w hw => (List.mem_cons.mp hw).elim (fun q => q ▸ h) (hT w)
theorem ce_okT_tl {S : ce_S} {v : ce_V} {st : List ce_V} (hT : ce_okT S (v :: st)) : ce_okT S st := fun w hw => hT w (List.mem_cons_of_mem _ hw)
theorem ce_okT_hd {S : ce_S} {v : ce_V} {st : List ce_V} (hT : ce_okT S (v :: st)) : ce_okV S v := hT v List.mem_cons_self
theorem ce_getD {ls : List (Option ce_V)} {j : Nat} {v : ce_V} (h : ls.getD j none = some v) : ls[j]? = some (some v) := by
  unfold List.getD at h
  cases hq : ls[j]? with
  | none => rw [hq] at h; cases h
  | some x => rw [hq] at h; exact congrArg some h
def ce_pr (ad : Nat → Nat → Nat) (nL : Nat) (ls : List (Option ce_V)) : List (Nat × Value) := (List.range nL).filterMap (fun j => match ls[j]? with
  | some (some v) => some (j, ce_val ad v)
  | _ => none)
theorem ce_pr_in {ad : Nat → Nat → Nat} {nL : Nat} {ls : List (Option ce_V)} {j : Nat} {v : ce_V} (hn : ls.length = nL) (h : ls[j]? = some (some v)) : (j, ce_val ad v) ∈ ce_pr ad nL ls := by
  refine List.mem_filterMap.mpr ⟨j, List.mem_range.mpr (by rw [← hn]; exact (List.getElem?_eq_some_iff.mp h).1), ?_⟩
  rw [h]
theorem ce_pr_of {ad : Nat → Nat → Nat} {nL : Nat} {ls : List (Option ce_V)} {q : Nat × Value} (h : q ∈ ce_pr ad nL ls) : ∃ v, ls[q.1]? = some (some v) ∧ q.2 = ce_val ad v := by
  obtain ⟨j, -, hj⟩ := List.mem_filterMap.mp h
  split at hj
  · rename_i v hv
    cases hj
    exact ⟨v, hv, rfl⟩
  · cases hj
theorem ce_lv.has {ad : Nat → Nat → Nat} {rls : Array Slot} {nL : Nat} {ls : List (Option ce_V)} (h : ce_lv ad rls nL ls) : lv_has rls nL (ce_pr ad nL ls) := by
  obtain ⟨h1, h2, h3, h4⟩ := h
  refine ⟨h1, h2, fun q hq => ?_⟩
  obtain ⟨v, g1, g2⟩ := ce_pr_of hq
  rw [g2]
  exact (h4 _ _ g1).1
theorem ce_lv.store {ad : Nat → Nat → Nat} {rls rls' : Array Slot} {nL j : Nat} {ls : List (Option ce_V)} {x : ce_V} (h : ce_lv ad rls nL ls) (hx : (ce_val ad x).category = 1) (h' : lv_has rls' nL ((j, ce_val ad x) :: (ce_pr ad nL ls).filter (fun q => !(q.1 == j) && !(q.1 + 1 == j && q.2.category == 2)))) : ce_lv ad rls' nL (ls.set j (some x)) := by
  obtain ⟨h1, h2, h3, h4⟩ := h
  obtain ⟨g1, g2, g3⟩ := h'
  refine ⟨g1, g2, by rw [List.length_set]; exact h3, fun a w hw => ?_⟩
  by_cases e : a = j
  · subst e
    rw [List.getElem?_set_self'] at hw
    cases hl : ls[a]? with
    | none => rw [hl] at hw; cases hw
    | some z =>
      rw [hl] at hw
      cases hw
      exact ⟨g3 _ List.mem_cons_self, hx⟩
  · rw [List.getElem?_set_ne (fun q => e q.symm)] at hw
    obtain ⟨k1, k2⟩ := h4 a w hw
    refine ⟨g3 (a, ce_val ad w) (List.mem_cons_of_mem _ (List.mem_filter.mpr ⟨ce_pr_in h3 hw, ?_⟩)), k2⟩
    simp [e, k2]
theorem ce_okL_set {S : ce_S} {ls : List (Option ce_V)} {j : Nat} {x : ce_V} (h : ce_okL S ls) (hx : ce_okV S x) : ce_okL S (ls.set j (some x)) := by
  intro a w hw
  by_cases e : a = j
  · subst e
    rw [List.getElem?_set_self'] at hw
    cases hl : ls[a]? with
    | none => rw [hl] at hw; cases hw
    | some z =>
      rw [hl] at hw
      cases hw
      exact hx
  · rw [List.getElem?_set_ne (fun q => e q.symm)] at hw
    exact h a w hw
theorem ce_wIn {w0 w : Cond} {P : Cond → Prop} {n : Nat} (hts : ∀ w ∈ w0 :: ce_tw, P w) (h : lw_tbl[n]? = some w) (g : goodWord w = true) : P w := hts w (List.mem_cons_of_mem _ (ce_tw_in (List.mem_of_getElem? h) g))
theorem ce_sw_or {x : Int32} {d : Nat} {kk : Nat → ce_Rs} {res : Option ce_V × ce_S} : ∀ (ks : List (Int32 × Nat)), ce_sw x ks d kk = some res → (∃ (j : Nat) (q : Int32 × Nat), ks[j]? = some q ∧ x = q.1 ∧ kk q.2 = some res) ∨ ((∀ (j : Nat) (q : Int32 × Nat), ks[j]? = some q → ¬ x = q.1) ∧ kk d = some res) := by
  intro ks
  induction ks with
  | nil => intro h; exact Or.inr ⟨(fun j q hq => by simp at hq), h⟩
  | cons a r ih =>
    intro h
    unfold ce_sw at h
    by_cases e : x = a.1
    · rw [if_pos e] at h
      exact Or.inl ⟨0, a, rfl, e, h⟩
    · rw [if_neg e] at h
      rcases ih h with ⟨j, q, h1, h2, h3⟩ | ⟨h1, h2⟩
      · exact Or.inl ⟨j + 1, q, h1, h2, h3⟩
      · refine Or.inr ⟨fun j q hq => ?_, h2⟩
        cases j with
        | zero => cases hq; exact e
        | succ j => exact h1 j q hq
def ce_swok (pc : Nat) (pcs : List Nat) (lo : Int) (offs : Array Int) (ks : List (Int32 × Nat)) : Bool := (List.range ks.length).all fun j => match ks[j]?, offs[j]? with
  | some q, some off => q.1.toInt == lo + (j : Int) && (pc : Int) + off == ((pcs.getD q.2 0 : Nat) : Int)
  | _, _ => false
theorem ce_swok_at {pc : Nat} {pcs : List Nat} {lo : Int} {offs : Array Int} {ks : List (Int32 × Nat)} (h : ce_swok pc pcs lo offs ks = true) {j : Nat} {q : Int32 × Nat} (hq : ks[j]? = some q) : ∃ off, offs[j]? = some off ∧ q.1.toInt = lo + (j : Int) ∧ (pc : Int) + off = ((pcs.getD q.2 0 : Nat) : Int) := by
  have h1 := List.all_eq_true.mp h j (List.mem_range.mpr (List.getElem?_eq_some_iff.mp hq).1)
  rw [hq] at h1
  cases ho : offs[j]? with
  | none => rw [ho] at h1; cases h1
  | some off =>
    rw [ho] at h1
    simp only [Bool.and_eq_true, beq_iff_eq] at h1
    exact ⟨off, rfl, h1.1, h1.2⟩
section CEO
variable {l : Launch} {cc : ByteArray} {own : String} {nL : Nat} {rt : Option FieldType} {d MC MS : Nat} {pcs : List Nat} {i pc : Nat}
theorem ok_iconst {v : Int32} {n : Int} (hp : pcs.getD i 0 = pc) (hp' : pcs.getD (i + 1) 0 = pc + 1) (hd : decode cc pc = .ok (.iconst n, 1)) (hv : Int32.ofInt n = v) : ce_Ok l cc own nL rt d MC MS pcs i (o_int v) := by
  intro nn ls st S k res h hk p e s m args below meth c D ca b0 ad0 S0 ad H locs rls hC h61 hX hR hT h1 h2
  obtain ⟨hx, hb, hml, hown, ⟨w0, hts⟩, hr, hlk, hG⟩ := id hC
  have w := hk _ _ _ _ _ h p e s m args below meth c D ca b0 ad0 S0 ad H locs rls hC h61 hX hR (ce_okT_cons trivial hT) h1 h2
  rw [hp'] at w
  rw [hp]
  exact lv_iconst hx hb hd hv w
theorem ok_bipush {v : Int32} {n : Int} (hp : pcs.getD i 0 = pc) (hp' : pcs.getD (i + 1) 0 = pc + 2) (hd : decode cc pc = .ok (.bipush n, 2)) (hv : (Int8.ofInt n).toInt32 = v) : ce_Ok l cc own nL rt d MC MS pcs i (o_int v) := by
  intro nn ls st S k res h hk p e s m args below meth c D ca b0 ad0 S0 ad H locs rls hC h61 hX hR hT h1 h2
  obtain ⟨hx, hb, hml, hown, ⟨w0, hts⟩, hr, hlk, hG⟩ := id hC
  have w := hk _ _ _ _ _ h p e s m args below meth c D ca b0 ad0 S0 ad H locs rls hC h61 hX hR (ce_okT_cons trivial hT) h1 h2
  rw [hp'] at w
  rw [hp]
  exact lv_bipush hx hb hd hv w
theorem ok_sipush {v : Int32} {n : Int} (hp : pcs.getD i 0 = pc) (hp' : pcs.getD (i + 1) 0 = pc + 3) (hd : decode cc pc = .ok (.sipush n, 3)) (hv : (Int16.ofInt n).toInt32 = v) : ce_Ok l cc own nL rt d MC MS pcs i (o_int v) := by
  intro nn ls st S k res h hk p e s m args below meth c D ca b0 ad0 S0 ad H locs rls hC h61 hX hR hT h1 h2
  obtain ⟨hx, hb, hml, hown, ⟨w0, hts⟩, hr, hlk, hG⟩ := id hC
  have w := hk _ _ _ _ _ h p e s m args below meth c D ca b0 ad0 S0 ad H locs rls hC h61 hX hR (ce_okT_cons trivial hT) h1 h2
  rw [hp'] at w
  rw [hp]
  exact lv_sipush hx hb hd hv w
theorem ok_ldcw {v : Int32} {ix wp : Nat} (hp : pcs.getD i 0 = pc) (hp' : pcs.getD (i + 1) 0 = pc + 3) (hd : decode cc pc = .ok (.ldc_w ix, 3)) (hw : lw_tbl[wp]? = some (Cond.constant own ix v)) (hg : goodWord (Cond.constant own ix v) = true) : ce_Ok l cc own nL rt d MC MS pcs i (o_int v) := by
  intro nn ls st S k res h hk p e s m args below meth c D ca b0 ad0 S0 ad H locs rls hC h61 hX hR hT h1 h2
  obtain ⟨hx, hb, hml, hown, ⟨w0, hts⟩, hr, hlk, hG⟩ := id hC
  have w := hk _ _ _ _ _ h p e s m args below meth c D ca b0 ad0 S0 ad H locs rls hC h61 hX hR (ce_okT_cons trivial hT) h1 h2
  rw [hp'] at w
  rw [hp]
  exact lv_ldcw hx hb hown (ce_wIn hts hw hg) hd w
theorem ok_ldc2 {v : Int64} {ix wp : Nat} (hp : pcs.getD i 0 = pc) (hp' : pcs.getD (i + 1) 0 = pc + 3) (hd : decode cc pc = .ok (.ldc2_w ix, 3)) (hw : lw_tbl[wp]? = some (Cond.constantLong own ix v)) (hg : goodWord (Cond.constantLong own ix v) = true) : ce_Ok l cc own nL rt d MC MS pcs i (o_long v) := by
  intro nn ls st S k res h hk p e s m args below meth c D ca b0 ad0 S0 ad H locs rls hC h61 hX hR hT h1 h2
  obtain ⟨hx, hb, hml, hown, ⟨w0, hts⟩, hr, hlk, hG⟩ := id hC
  have w := hk _ _ _ _ _ h p e s m args below meth c D ca b0 ad0 S0 ad H locs rls hC h61 hX hR (ce_okT_cons trivial hT) h1 h2
  rw [hp'] at w
  rw [hp]
  exact lv_ldc2 hx hb hown (ce_wIn hts hw hg) hd w
theorem ok_iadd (hp : pcs.getD i 0 = pc) (hp' : pcs.getD (i + 1) 0 = pc + 1) (hd : decode cc pc = .ok (.iadd, 1)) : ce_Ok l cc own nL rt d MC MS pcs i (o_bin (fun x y => x + y)) := by
  intro nn ls st S k res h hk p e s m args below meth c D ca b0 ad0 S0 ad H locs rls hC h61 hX hR hT h1 h2
  obtain ⟨hx, hb, hml, hown, ⟨w0, hts⟩, hr, hlk, hG⟩ := id hC
  unfold o_bin at h
  split at h
  · rename_i y x r
    have w := hk _ _ _ _ _ h p e s m args below meth c D ca b0 ad0 S0 ad H locs rls hC h61 hX hR (ce_okT_cons trivial (ce_okT_tl (ce_okT_tl hT))) h1 h2
    rw [hp'] at w
    rw [hp]
    exact lv_iadd hx hb hd w
  · cases h
theorem ok_isub (hp : pcs.getD i 0 = pc) (hp' : pcs.getD (i + 1) 0 = pc + 1) (hd : decode cc pc = .ok (.isub, 1)) : ce_Ok l cc own nL rt d MC MS pcs i (o_bin (fun x y => x - y)) := by
  intro nn ls st S k res h hk p e s m args below meth c D ca b0 ad0 S0 ad H locs rls hC h61 hX hR hT h1 h2
  obtain ⟨hx, hb, hml, hown, ⟨w0, hts⟩, hr, hlk, hG⟩ := id hC
  unfold o_bin at h
  split at h
  · rename_i y x r
    have w := hk _ _ _ _ _ h p e s m args below meth c D ca b0 ad0 S0 ad H locs rls hC h61 hX hR (ce_okT_cons trivial (ce_okT_tl (ce_okT_tl hT))) h1 h2
    rw [hp'] at w
    rw [hp]
    exact lv_isub hx hb hd w
  · cases h
theorem ok_imul (hp : pcs.getD i 0 = pc) (hp' : pcs.getD (i + 1) 0 = pc + 1) (hd : decode cc pc = .ok (.imul, 1)) : ce_Ok l cc own nL rt d MC MS pcs i (o_bin (fun x y => x * y)) := by
  intro nn ls st S k res h hk p e s m args below meth c D ca b0 ad0 S0 ad H locs rls hC h61 hX hR hT h1 h2
  obtain ⟨hx, hb, hml, hown, ⟨w0, hts⟩, hr, hlk, hG⟩ := id hC
  unfold o_bin at h
  split at h
  · rename_i y x r
    have w := hk _ _ _ _ _ h p e s m args below meth c D ca b0 ad0 S0 ad H locs rls hC h61 hX hR (ce_okT_cons trivial (ce_okT_tl (ce_okT_tl hT))) h1 h2
    rw [hp'] at w
    rw [hp]
    exact lv_imul hx hb hd w
  · cases h
theorem ok_iand (hp : pcs.getD i 0 = pc) (hp' : pcs.getD (i + 1) 0 = pc + 1) (hd : decode cc pc = .ok (.iand, 1)) : ce_Ok l cc own nL rt d MC MS pcs i (o_bin (fun x y => x &&& y)) := by
  intro nn ls st S k res h hk p e s m args below meth c D ca b0 ad0 S0 ad H locs rls hC h61 hX hR hT h1 h2
  obtain ⟨hx, hb, hml, hown, ⟨w0, hts⟩, hr, hlk, hG⟩ := id hC
  unfold o_bin at h
  split at h
  · rename_i y x r
    have w := hk _ _ _ _ _ h p e s m args below meth c D ca b0 ad0 S0 ad H locs rls hC h61 hX hR (ce_okT_cons trivial (ce_okT_tl (ce_okT_tl hT))) h1 h2
    rw [hp'] at w
    rw [hp]
    exact lv_iand hx hb hd w
  · cases h
theorem ok_iushr (hp : pcs.getD i 0 = pc) (hp' : pcs.getD (i + 1) 0 = pc + 1) (hd : decode cc pc = .ok (.iushr, 1)) : ce_Ok l cc own nL rt d MC MS pcs i (o_bin (fun x y => (x.toUInt32 >>> (y.toUInt32 &&& Int32.toUInt32 31)).toInt32)) := by
  intro nn ls st S k res h hk p e s m args below meth c D ca b0 ad0 S0 ad H locs rls hC h61 hX hR hT h1 h2
  obtain ⟨hx, hb, hml, hown, ⟨w0, hts⟩, hr, hlk, hG⟩ := id hC
  unfold o_bin at h
  split at h
  · rename_i y x r
    have w := hk _ _ _ _ _ h p e s m args below meth c D ca b0 ad0 S0 ad H locs rls hC h61 hX hR (ce_okT_cons trivial (ce_okT_tl (ce_okT_tl hT))) h1 h2
    rw [hp'] at w
    rw [hp]
    exact lv_iushr hx hb hd rfl w
  · cases h
theorem ok_idiv (hp : pcs.getD i 0 = pc) (hp' : pcs.getD (i + 1) 0 = pc + 1) (hd : decode cc pc = .ok (.idiv, 1)) : ce_Ok l cc own nL rt d MC MS pcs i o_div := by
  intro nn ls st S k res h hk p e s m args below meth c D ca b0 ad0 S0 ad H locs rls hC h61 hX hR hT h1 h2
  obtain ⟨hx, hb, hml, hown, ⟨w0, hts⟩, hr, hlk, hG⟩ := id hC
  unfold o_div at h
  split at h
  · rename_i y x r
    by_cases hy : y = 0
    · rw [if_pos hy] at h; cases h
    · rw [if_neg hy] at h
      have w := hk _ _ _ _ _ h p e s m args below meth c D ca b0 ad0 S0 ad H locs rls hC h61 hX hR (ce_okT_cons trivial (ce_okT_tl (ce_okT_tl hT))) h1 h2
      rw [hp'] at w
      rw [hp]
      exact lv_idiv hx hb hd hy w
  · cases h
theorem ok_irem (hp : pcs.getD i 0 = pc) (hp' : pcs.getD (i + 1) 0 = pc + 1) (hd : decode cc pc = .ok (.irem, 1)) : ce_Ok l cc own nL rt d MC MS pcs i o_rem := by
  intro nn ls st S k res h hk p e s m args below meth c D ca b0 ad0 S0 ad H locs rls hC h61 hX hR hT h1 h2
  obtain ⟨hx, hb, hml, hown, ⟨w0, hts⟩, hr, hlk, hG⟩ := id hC
  unfold o_rem at h
  split at h
  · rename_i y x r
    by_cases hy : y = 0
    · rw [if_pos hy] at h; cases h
    · rw [if_neg hy] at h
      have w := hk _ _ _ _ _ h p e s m args below meth c D ca b0 ad0 S0 ad H locs rls hC h61 hX hR (ce_okT_cons trivial (ce_okT_tl (ce_okT_tl hT))) h1 h2
      rw [hp'] at w
      rw [hp]
      exact lv_irem hx hb hd hy w
  · cases h
theorem ok_ineg (hp : pcs.getD i 0 = pc) (hp' : pcs.getD (i + 1) 0 = pc + 1) (hd : decode cc pc = .ok (.ineg, 1)) : ce_Ok l cc own nL rt d MC MS pcs i (o_un (fun x => -x)) := by
  intro nn ls st S k res h hk p e s m args below meth c D ca b0 ad0 S0 ad H locs rls hC h61 hX hR hT h1 h2
  obtain ⟨hx, hb, hml, hown, ⟨w0, hts⟩, hr, hlk, hG⟩ := id hC
  unfold o_un at h
  split at h
  · rename_i x r
    have w := hk _ _ _ _ _ h p e s m args below meth c D ca b0 ad0 S0 ad H locs rls hC h61 hX hR (ce_okT_cons trivial (ce_okT_tl hT)) h1 h2
    rw [hp'] at w
    rw [hp]
    exact lv_ineg hx hb hd w
  · cases h
theorem ok_i2b (hp : pcs.getD i 0 = pc) (hp' : pcs.getD (i + 1) 0 = pc + 1) (hd : decode cc pc = .ok (.i2b, 1)) : ce_Ok l cc own nL rt d MC MS pcs i (o_un (fun x => x.toInt8.toInt32)) := by
  intro nn ls st S k res h hk p e s m args below meth c D ca b0 ad0 S0 ad H locs rls hC h61 hX hR hT h1 h2
  obtain ⟨hx, hb, hml, hown, ⟨w0, hts⟩, hr, hlk, hG⟩ := id hC
  unfold o_un at h
  split at h
  · rename_i x r
    have w := hk _ _ _ _ _ h p e s m args below meth c D ca b0 ad0 S0 ad H locs rls hC h61 hX hR (ce_okT_cons trivial (ce_okT_tl hT)) h1 h2
    rw [hp'] at w
    rw [hp]
    exact lv_i2b hx hb hd rfl w
  · cases h
theorem ok_i2s (hp : pcs.getD i 0 = pc) (hp' : pcs.getD (i + 1) 0 = pc + 1) (hd : decode cc pc = .ok (.i2s, 1)) : ce_Ok l cc own nL rt d MC MS pcs i (o_un (fun x => x.toInt16.toInt32)) := by
  intro nn ls st S k res h hk p e s m args below meth c D ca b0 ad0 S0 ad H locs rls hC h61 hX hR hT h1 h2
  obtain ⟨hx, hb, hml, hown, ⟨w0, hts⟩, hr, hlk, hG⟩ := id hC
  unfold o_un at h
  split at h
  · rename_i x r
    have w := hk _ _ _ _ _ h p e s m args below meth c D ca b0 ad0 S0 ad H locs rls hC h61 hX hR (ce_okT_cons trivial (ce_okT_tl hT)) h1 h2
    rw [hp'] at w
    rw [hp]
    exact lv_i2s hx hb hd rfl w
  · cases h
theorem ok_i2l (hp : pcs.getD i 0 = pc) (hp' : pcs.getD (i + 1) 0 = pc + 1) (hd : decode cc pc = .ok (.i2l, 1)) : ce_Ok l cc own nL rt d MC MS pcs i o_i2l := by
  intro nn ls st S k res h hk p e s m args below meth c D ca b0 ad0 S0 ad H locs rls hC h61 hX hR hT h1 h2
  obtain ⟨hx, hb, hml, hown, ⟨w0, hts⟩, hr, hlk, hG⟩ := id hC
  unfold o_i2l at h
  split at h
  · rename_i x r
    have w := hk _ _ _ _ _ h p e s m args below meth c D ca b0 ad0 S0 ad H locs rls hC h61 hX hR (ce_okT_cons trivial (ce_okT_tl hT)) h1 h2
    rw [hp'] at w
    rw [hp]
    exact lv_i2l hx hb hd rfl w
  · cases h
theorem ok_lcmp (hp : pcs.getD i 0 = pc) (hp' : pcs.getD (i + 1) 0 = pc + 1) (hd : decode cc pc = .ok (.lcmp, 1)) : ce_Ok l cc own nL rt d MC MS pcs i o_lcmp := by
  intro nn ls st S k res h hk p e s m args below meth c D ca b0 ad0 S0 ad H locs rls hC h61 hX hR hT h1 h2
  obtain ⟨hx, hb, hml, hown, ⟨w0, hts⟩, hr, hlk, hG⟩ := id hC
  unfold o_lcmp at h
  split at h
  · rename_i y x r
    have w := hk _ _ _ _ _ h p e s m args below meth c D ca b0 ad0 S0 ad H locs rls hC h61 hX hR (ce_okT_cons trivial (ce_okT_tl (ce_okT_tl hT))) h1 h2
    rw [hp'] at w
    rw [hp]
    exact W.lcmp hx hb hd w
  · cases h
theorem ok_iload_n {j : Fin 4} (hp : pcs.getD i 0 = pc) (hp' : pcs.getD (i + 1) 0 = pc + 1) (hd : decode cc pc = .ok (.iload_n j, 1)) : ce_Ok l cc own nL rt d MC MS pcs i (o_iload j.val) := by
  intro nn ls st S k res h hk p e s m args below meth c D ca b0 ad0 S0 ad H locs rls hC h61 hX hR hT h1 h2
  obtain ⟨hx, hb, hml, hown, ⟨w0, hts⟩, hr, hlk, hG⟩ := id hC
  unfold o_iload at h
  split at h
  · rename_i x hv
    have w := hk _ _ _ _ _ h p e s m args below meth c D ca b0 ad0 S0 ad H locs rls hC h61 hX hR (ce_okT_cons trivial hT) h1 h2
    rw [hp'] at w
    rw [hp]
    exact lv_iload_n hx hb hd rfl (hR.2.2.1.2.2.2 _ _ (ce_getD hv)).1 w
  · cases h
theorem ok_istore_n {j : Fin 4} (hp : pcs.getD i 0 = pc) (hp' : pcs.getD (i + 1) 0 = pc + 1) (hd : decode cc pc = .ok (.istore_n j, 1)) (hj : j.val < nL) : ce_Ok l cc own nL rt d MC MS pcs i (o_istore j.val) := by
  intro nn ls st S k res h hk p e s m args below meth c D ca b0 ad0 S0 ad H locs rls hC h61 hX hR hT h1 h2
  obtain ⟨hx, hb, hml, hown, ⟨w0, hts⟩, hr, hlk, hG⟩ := id hC
  unfold o_istore at h
  split at h
  · rename_i x r
    rw [hp]
    refine lv_istore_n hx hb hd rfl hR.2.2.1.has hj rfl (fun rls' hl => ?_)
    have w := hk _ _ _ _ _ h p e s m args below meth c D ca b0 ad0 S0 ad H locs rls' hC h61 hX ⟨hR.1, hR.2.1, hR.2.2.1.store (x := .inl x) rfl hl, hR.2.2.2.1, ce_okL_set hR.2.2.2.2.1 trivial, hR.2.2.2.2.2⟩ (ce_okT_tl hT) h1 h2
    rw [hp'] at w
    exact w
  · cases h
theorem ok_iload {j : Nat} (hp : pcs.getD i 0 = pc) (hp' : pcs.getD (i + 1) 0 = pc + 2) (hd : decode cc pc = .ok (.iload j, 2)) : ce_Ok l cc own nL rt d MC MS pcs i (o_iload j) := by
  intro nn ls st S k res h hk p e s m args below meth c D ca b0 ad0 S0 ad H locs rls hC h61 hX hR hT h1 h2
  obtain ⟨hx, hb, hml, hown, ⟨w0, hts⟩, hr, hlk, hG⟩ := id hC
  unfold o_iload at h
  split at h
  · rename_i x hv
    have w := hk _ _ _ _ _ h p e s m args below meth c D ca b0 ad0 S0 ad H locs rls hC h61 hX hR (ce_okT_cons trivial hT) h1 h2
    rw [hp'] at w
    rw [hp]
    exact lv_iload hx hb hd (hR.2.2.1.2.2.2 _ _ (ce_getD hv)).1 w
  · cases h
theorem ok_istore {j : Nat} (hp : pcs.getD i 0 = pc) (hp' : pcs.getD (i + 1) 0 = pc + 2) (hd : decode cc pc = .ok (.istore j, 2)) (hj : j < nL) : ce_Ok l cc own nL rt d MC MS pcs i (o_istore j) := by
  intro nn ls st S k res h hk p e s m args below meth c D ca b0 ad0 S0 ad H locs rls hC h61 hX hR hT h1 h2
  obtain ⟨hx, hb, hml, hown, ⟨w0, hts⟩, hr, hlk, hG⟩ := id hC
  unfold o_istore at h
  split at h
  · rename_i x r
    rw [hp]
    refine lv_istore hx hb hd hR.2.2.1.has hj rfl (fun rls' hl => ?_)
    have w := hk _ _ _ _ _ h p e s m args below meth c D ca b0 ad0 S0 ad H locs rls' hC h61 hX ⟨hR.1, hR.2.1, hR.2.2.1.store (x := .inl x) rfl hl, hR.2.2.2.1, ce_okL_set hR.2.2.2.2.1 trivial, hR.2.2.2.2.2⟩ (ce_okT_tl hT) h1 h2
    rw [hp'] at w
    exact w
  · cases h
theorem ok_aload_n {j : Fin 4} (hp : pcs.getD i 0 = pc) (hp' : pcs.getD (i + 1) 0 = pc + 1) (hd : decode cc pc = .ok (.aload_n j, 1)) : ce_Ok l cc own nL rt d MC MS pcs i (o_aload j.val) := by
  intro nn ls st S k res h hk p e s m args below meth c D ca b0 ad0 S0 ad H locs rls hC h61 hX hR hT h1 h2
  obtain ⟨hx, hb, hml, hown, ⟨w0, hts⟩, hr, hlk, hG⟩ := id hC
  unfold o_aload at h
  split at h
  · rename_i q hv
    have w := hk _ _ _ _ _ h p e s m args below meth c D ca b0 ad0 S0 ad H locs rls hC h61 hX hR (ce_okT_cons (hR.2.2.2.2.1 _ _ (ce_getD hv)) hT) h1 h2
    rw [hp'] at w
    rw [hp]
    exact lv_aload_n hx hb hd rfl (hR.2.2.1.2.2.2 _ _ (ce_getD hv)).1 w
  · cases h
theorem ok_astore_n {j : Fin 4} (hp : pcs.getD i 0 = pc) (hp' : pcs.getD (i + 1) 0 = pc + 1) (hd : decode cc pc = .ok (.astore_n j, 1)) (hj : j.val < nL) : ce_Ok l cc own nL rt d MC MS pcs i (o_astore j.val) := by
  intro nn ls st S k res h hk p e s m args below meth c D ca b0 ad0 S0 ad H locs rls hC h61 hX hR hT h1 h2
  obtain ⟨hx, hb, hml, hown, ⟨w0, hts⟩, hr, hlk, hG⟩ := id hC
  unfold o_astore at h
  split at h
  · rename_i q r
    rw [hp]
    refine lv_astore_n hx hb hd rfl hR.2.2.1.has hj rfl (fun rls' hl => ?_)
    have w := hk _ _ _ _ _ h p e s m args below meth c D ca b0 ad0 S0 ad H locs rls' hC h61 hX ⟨hR.1, hR.2.1, hR.2.2.1.store (x := .inr (.inl q)) rfl hl, hR.2.2.2.1, ce_okL_set hR.2.2.2.2.1 (ce_okT_hd hT), hR.2.2.2.2.2⟩ (ce_okT_tl hT) h1 h2
    rw [hp'] at w
    exact w
  · cases h
theorem ok_aload {j : Nat} (hp : pcs.getD i 0 = pc) (hp' : pcs.getD (i + 1) 0 = pc + 2) (hd : decode cc pc = .ok (.aload j, 2)) : ce_Ok l cc own nL rt d MC MS pcs i (o_aload j) := by
  intro nn ls st S k res h hk p e s m args below meth c D ca b0 ad0 S0 ad H locs rls hC h61 hX hR hT h1 h2
  obtain ⟨hx, hb, hml, hown, ⟨w0, hts⟩, hr, hlk, hG⟩ := id hC
  unfold o_aload at h
  split at h
  · rename_i q hv
    have w := hk _ _ _ _ _ h p e s m args below meth c D ca b0 ad0 S0 ad H locs rls hC h61 hX hR (ce_okT_cons (hR.2.2.2.2.1 _ _ (ce_getD hv)) hT) h1 h2
    rw [hp'] at w
    rw [hp]
    exact lv_aload hx hb hd (hR.2.2.1.2.2.2 _ _ (ce_getD hv)).1 w
  · cases h
theorem ok_astore {j : Nat} (hp : pcs.getD i 0 = pc) (hp' : pcs.getD (i + 1) 0 = pc + 2) (hd : decode cc pc = .ok (.astore j, 2)) (hj : j < nL) : ce_Ok l cc own nL rt d MC MS pcs i (o_astore j) := by
  intro nn ls st S k res h hk p e s m args below meth c D ca b0 ad0 S0 ad H locs rls hC h61 hX hR hT h1 h2
  obtain ⟨hx, hb, hml, hown, ⟨w0, hts⟩, hr, hlk, hG⟩ := id hC
  unfold o_astore at h
  split at h
  · rename_i q r
    rw [hp]
    refine lv_astore hx hb hd hR.2.2.1.has hj rfl (fun rls' hl => ?_)
    have w := hk _ _ _ _ _ h p e s m args below meth c D ca b0 ad0 S0 ad H locs rls' hC h61 hX ⟨hR.1, hR.2.1, hR.2.2.1.store (x := .inr (.inl q)) rfl hl, hR.2.2.2.1, ce_okL_set hR.2.2.2.2.1 (ce_okT_hd hT), hR.2.2.2.2.2⟩ (ce_okT_tl hT) h1 h2
    rw [hp'] at w
    exact w
  · cases h
theorem ok_iinc {j : Nat} {n : Int} {v : Int32} (hp : pcs.getD i 0 = pc) (hp' : pcs.getD (i + 1) 0 = pc + 3) (hd : decode cc pc = .ok (.iinc j n, 3)) (hv : Int32.ofInt n = v) (hj : j < nL) : ce_Ok l cc own nL rt d MC MS pcs i (o_iinc j v) := by
  intro nn ls st S k res h hk p e s m args below meth c D ca b0 ad0 S0 ad H locs rls hC h61 hX hR hT h1 h2
  obtain ⟨hx, hb, hml, hown, ⟨w0, hts⟩, hr, hlk, hG⟩ := id hC
  unfold o_iinc at h
  split at h
  · rename_i x hq
    have hin : (j, ce_val ad (.inl x)) ∈ ce_pr ad nL ls := ce_pr_in hR.2.2.1.2.2.1 (ce_getD hq)
    obtain ⟨kk, hkk⟩ := List.getElem?_of_mem hin
    rw [hp]
    refine lv_iinc (v := x + v) hx hb hd hR.2.2.1.has hkk (by rw [hv]) hj rfl (fun rls' hl => ?_)
    have w := hk _ _ _ _ _ h p e s m args below meth c D ca b0 ad0 S0 ad H locs rls' hC h61 hX ⟨hR.1, hR.2.1, hR.2.2.1.store (x := .inl (x + v)) rfl hl, hR.2.2.2.1, ce_okL_set hR.2.2.2.2.1 trivial, hR.2.2.2.2.2⟩ hT h1 h2
    rw [hp'] at w
    exact w
  · cases h
theorem ok_goto {t tg : Nat} {off : Int} (hp : pcs.getD i 0 = pc) (hd : decode cc pc = .ok (.goto off, 3)) (ht : pcs.getD t 0 = tg) (hf : (pc : Int) + off = (tg : Int)) : ce_Ok l cc own nL rt d MC MS pcs i (o_goto t) := by
  intro nn ls st S k res h hk p e s m args below meth c D ca b0 ad0 S0 ad H locs rls hC h61 hX hR hT h1 h2
  obtain ⟨hx, hb, hml, hown, ⟨w0, hts⟩, hr, hlk, hG⟩ := id hC
  have w := hk _ _ _ _ _ h p e s m args below meth c D ca b0 ad0 S0 ad H locs rls hC h61 hX hR hT h1 h2
  rw [ht] at w
  rw [hp]
  exact lv_goto hx hb hd hf w
theorem ok_ifeq {t tg : Nat} {off : Int} (hp : pcs.getD i 0 = pc) (hp' : pcs.getD (i + 1) 0 = pc + 3) (hd : decode cc pc = .ok (.ifCond .eq off, 3)) (ht : pcs.getD t 0 = tg) (hf : (pc : Int) + off = (tg : Int)) : ce_Ok l cc own nL rt d MC MS pcs i (o_ifeq t) := by
  intro nn ls st S k res h hk p e s m args below meth c D ca b0 ad0 S0 ad H locs rls hC h61 hX hR hT h1 h2
  obtain ⟨hx, hb, hml, hown, ⟨w0, hts⟩, hr, hlk, hG⟩ := id hC
  unfold o_ifeq at h
  split at h
  · rename_i x r
    rw [hp]
    refine lv_if_eq (tgt := tg) hx hb hd hf (fun q => ?_) (fun q => ?_)
    · rw [if_pos q] at h
      have w := hk _ _ _ _ _ h p e s m args below meth c D ca b0 ad0 S0 ad H locs rls hC h61 hX hR (ce_okT_tl hT) h1 h2
      rw [ht] at w
      exact w
    · rw [if_neg q] at h
      have w := hk _ _ _ _ _ h p e s m args below meth c D ca b0 ad0 S0 ad H locs rls hC h61 hX hR (ce_okT_tl hT) h1 h2
      rw [hp'] at w
      exact w
  · cases h
theorem ok_cmpeq {t tg : Nat} {off : Int} (hp : pcs.getD i 0 = pc) (hp' : pcs.getD (i + 1) 0 = pc + 3) (hd : decode cc pc = .ok (.if_icmp .eq off, 3)) (ht : pcs.getD t 0 = tg) (hf : (pc : Int) + off = (tg : Int)) : ce_Ok l cc own nL rt d MC MS pcs i (o_cmpeq t) := by
  intro nn ls st S k res h hk p e s m args below meth c D ca b0 ad0 S0 ad H locs rls hC h61 hX hR hT h1 h2
  obtain ⟨hx, hb, hml, hown, ⟨w0, hts⟩, hr, hlk, hG⟩ := id hC
  unfold o_cmpeq at h
  split at h
  · rename_i y x r
    rw [hp]
    refine lv_icmp_eq (tgt := tg) hx hb hd hf (fun q => ?_) (fun q => ?_)
    · rw [if_pos q] at h
      have w := hk _ _ _ _ _ h p e s m args below meth c D ca b0 ad0 S0 ad H locs rls hC h61 hX hR (ce_okT_tl (ce_okT_tl hT)) h1 h2
      rw [ht] at w
      exact w
    · rw [if_neg q] at h
      have w := hk _ _ _ _ _ h p e s m args below meth c D ca b0 ad0 S0 ad H locs rls hC h61 hX hR (ce_okT_tl (ce_okT_tl hT)) h1 h2
      rw [hp'] at w
      exact w
  · cases h
theorem ok_ifne {t tg : Nat} {off : Int} (hp : pcs.getD i 0 = pc) (hp' : pcs.getD (i + 1) 0 = pc + 3) (hd : decode cc pc = .ok (.ifCond .ne off, 3)) (ht : pcs.getD t 0 = tg) (hf : (pc : Int) + off = (tg : Int)) : ce_Ok l cc own nL rt d MC MS pcs i (o_ifne t) := by
  intro nn ls st S k res h hk p e s m args below meth c D ca b0 ad0 S0 ad H locs rls hC h61 hX hR hT h1 h2
  obtain ⟨hx, hb, hml, hown, ⟨w0, hts⟩, hr, hlk, hG⟩ := id hC
  unfold o_ifne at h
  split at h
  · rename_i x r
    rw [hp]
    refine lv_if_ne (tgt := tg) hx hb hd hf (fun q => ?_) (fun q => ?_)
    · rw [if_neg q] at h
      have w := hk _ _ _ _ _ h p e s m args below meth c D ca b0 ad0 S0 ad H locs rls hC h61 hX hR (ce_okT_tl hT) h1 h2
      rw [ht] at w
      exact w
    · rw [if_pos q] at h
      have w := hk _ _ _ _ _ h p e s m args below meth c D ca b0 ad0 S0 ad H locs rls hC h61 hX hR (ce_okT_tl hT) h1 h2
      rw [hp'] at w
      exact w
  · cases h
theorem ok_cmpne {t tg : Nat} {off : Int} (hp : pcs.getD i 0 = pc) (hp' : pcs.getD (i + 1) 0 = pc + 3) (hd : decode cc pc = .ok (.if_icmp .ne off, 3)) (ht : pcs.getD t 0 = tg) (hf : (pc : Int) + off = (tg : Int)) : ce_Ok l cc own nL rt d MC MS pcs i (o_cmpne t) := by
  intro nn ls st S k res h hk p e s m args below meth c D ca b0 ad0 S0 ad H locs rls hC h61 hX hR hT h1 h2
  obtain ⟨hx, hb, hml, hown, ⟨w0, hts⟩, hr, hlk, hG⟩ := id hC
  unfold o_cmpne at h
  split at h
  · rename_i y x r
    rw [hp]
    refine lv_icmp_ne (tgt := tg) hx hb hd hf (fun q => ?_) (fun q => ?_)
    · rw [if_neg q] at h
      have w := hk _ _ _ _ _ h p e s m args below meth c D ca b0 ad0 S0 ad H locs rls hC h61 hX hR (ce_okT_tl (ce_okT_tl hT)) h1 h2
      rw [ht] at w
      exact w
    · rw [if_pos q] at h
      have w := hk _ _ _ _ _ h p e s m args below meth c D ca b0 ad0 S0 ad H locs rls hC h61 hX hR (ce_okT_tl (ce_okT_tl hT)) h1 h2
      rw [hp'] at w
      exact w
  · cases h
theorem ok_iflt {t tg : Nat} {off : Int} (hp : pcs.getD i 0 = pc) (hp' : pcs.getD (i + 1) 0 = pc + 3) (hd : decode cc pc = .ok (.ifCond .lt off, 3)) (ht : pcs.getD t 0 = tg) (hf : (pc : Int) + off = (tg : Int)) : ce_Ok l cc own nL rt d MC MS pcs i (o_iflt t) := by
  intro nn ls st S k res h hk p e s m args below meth c D ca b0 ad0 S0 ad H locs rls hC h61 hX hR hT h1 h2
  obtain ⟨hx, hb, hml, hown, ⟨w0, hts⟩, hr, hlk, hG⟩ := id hC
  unfold o_iflt at h
  split at h
  · rename_i x r
    rw [hp]
    refine lv_if_lt (tgt := tg) hx hb hd hf (fun q => ?_) (fun q => ?_)
    · rw [if_pos q] at h
      have w := hk _ _ _ _ _ h p e s m args below meth c D ca b0 ad0 S0 ad H locs rls hC h61 hX hR (ce_okT_tl hT) h1 h2
      rw [ht] at w
      exact w
    · rw [if_neg q] at h
      have w := hk _ _ _ _ _ h p e s m args below meth c D ca b0 ad0 S0 ad H locs rls hC h61 hX hR (ce_okT_tl hT) h1 h2
      rw [hp'] at w
      exact w
  · cases h
theorem ok_cmplt {t tg : Nat} {off : Int} (hp : pcs.getD i 0 = pc) (hp' : pcs.getD (i + 1) 0 = pc + 3) (hd : decode cc pc = .ok (.if_icmp .lt off, 3)) (ht : pcs.getD t 0 = tg) (hf : (pc : Int) + off = (tg : Int)) : ce_Ok l cc own nL rt d MC MS pcs i (o_cmplt t) := by
  intro nn ls st S k res h hk p e s m args below meth c D ca b0 ad0 S0 ad H locs rls hC h61 hX hR hT h1 h2
  obtain ⟨hx, hb, hml, hown, ⟨w0, hts⟩, hr, hlk, hG⟩ := id hC
  unfold o_cmplt at h
  split at h
  · rename_i y x r
    rw [hp]
    refine lv_icmp_lt (tgt := tg) hx hb hd hf (fun q => ?_) (fun q => ?_)
    · rw [if_pos q] at h
      have w := hk _ _ _ _ _ h p e s m args below meth c D ca b0 ad0 S0 ad H locs rls hC h61 hX hR (ce_okT_tl (ce_okT_tl hT)) h1 h2
      rw [ht] at w
      exact w
    · rw [if_neg q] at h
      have w := hk _ _ _ _ _ h p e s m args below meth c D ca b0 ad0 S0 ad H locs rls hC h61 hX hR (ce_okT_tl (ce_okT_tl hT)) h1 h2
      rw [hp'] at w
      exact w
  · cases h
theorem ok_ifge {t tg : Nat} {off : Int} (hp : pcs.getD i 0 = pc) (hp' : pcs.getD (i + 1) 0 = pc + 3) (hd : decode cc pc = .ok (.ifCond .ge off, 3)) (ht : pcs.getD t 0 = tg) (hf : (pc : Int) + off = (tg : Int)) : ce_Ok l cc own nL rt d MC MS pcs i (o_ifge t) := by
  intro nn ls st S k res h hk p e s m args below meth c D ca b0 ad0 S0 ad H locs rls hC h61 hX hR hT h1 h2
  obtain ⟨hx, hb, hml, hown, ⟨w0, hts⟩, hr, hlk, hG⟩ := id hC
  unfold o_ifge at h
  split at h
  · rename_i x r
    rw [hp]
    refine lv_if_ge (tgt := tg) hx hb hd hf (fun q => ?_) (fun q => ?_)
    · rw [if_pos q] at h
      have w := hk _ _ _ _ _ h p e s m args below meth c D ca b0 ad0 S0 ad H locs rls hC h61 hX hR (ce_okT_tl hT) h1 h2
      rw [ht] at w
      exact w
    · rw [if_neg q] at h
      have w := hk _ _ _ _ _ h p e s m args below meth c D ca b0 ad0 S0 ad H locs rls hC h61 hX hR (ce_okT_tl hT) h1 h2
      rw [hp'] at w
      exact w
  · cases h
theorem ok_cmpge {t tg : Nat} {off : Int} (hp : pcs.getD i 0 = pc) (hp' : pcs.getD (i + 1) 0 = pc + 3) (hd : decode cc pc = .ok (.if_icmp .ge off, 3)) (ht : pcs.getD t 0 = tg) (hf : (pc : Int) + off = (tg : Int)) : ce_Ok l cc own nL rt d MC MS pcs i (o_cmpge t) := by
  intro nn ls st S k res h hk p e s m args below meth c D ca b0 ad0 S0 ad H locs rls hC h61 hX hR hT h1 h2
  obtain ⟨hx, hb, hml, hown, ⟨w0, hts⟩, hr, hlk, hG⟩ := id hC
  unfold o_cmpge at h
  split at h
  · rename_i y x r
    rw [hp]
    refine lv_icmp_ge (tgt := tg) hx hb hd hf (fun q => ?_) (fun q => ?_)
    · rw [if_pos q] at h
      have w := hk _ _ _ _ _ h p e s m args below meth c D ca b0 ad0 S0 ad H locs rls hC h61 hX hR (ce_okT_tl (ce_okT_tl hT)) h1 h2
      rw [ht] at w
      exact w
    · rw [if_neg q] at h
      have w := hk _ _ _ _ _ h p e s m args below meth c D ca b0 ad0 S0 ad H locs rls hC h61 hX hR (ce_okT_tl (ce_okT_tl hT)) h1 h2
      rw [hp'] at w
      exact w
  · cases h
theorem ok_ifgt {t tg : Nat} {off : Int} (hp : pcs.getD i 0 = pc) (hp' : pcs.getD (i + 1) 0 = pc + 3) (hd : decode cc pc = .ok (.ifCond .gt off, 3)) (ht : pcs.getD t 0 = tg) (hf : (pc : Int) + off = (tg : Int)) : ce_Ok l cc own nL rt d MC MS pcs i (o_ifgt t) := by
  intro nn ls st S k res h hk p e s m args below meth c D ca b0 ad0 S0 ad H locs rls hC h61 hX hR hT h1 h2
  obtain ⟨hx, hb, hml, hown, ⟨w0, hts⟩, hr, hlk, hG⟩ := id hC
  unfold o_ifgt at h
  split at h
  · rename_i x r
    rw [hp]
    refine lv_if_gt (tgt := tg) hx hb hd hf (fun q => ?_) (fun q => ?_)
    · rw [if_pos q] at h
      have w := hk _ _ _ _ _ h p e s m args below meth c D ca b0 ad0 S0 ad H locs rls hC h61 hX hR (ce_okT_tl hT) h1 h2
      rw [ht] at w
      exact w
    · rw [if_neg q] at h
      have w := hk _ _ _ _ _ h p e s m args below meth c D ca b0 ad0 S0 ad H locs rls hC h61 hX hR (ce_okT_tl hT) h1 h2
      rw [hp'] at w
      exact w
  · cases h
theorem ok_cmpgt {t tg : Nat} {off : Int} (hp : pcs.getD i 0 = pc) (hp' : pcs.getD (i + 1) 0 = pc + 3) (hd : decode cc pc = .ok (.if_icmp .gt off, 3)) (ht : pcs.getD t 0 = tg) (hf : (pc : Int) + off = (tg : Int)) : ce_Ok l cc own nL rt d MC MS pcs i (o_cmpgt t) := by
  intro nn ls st S k res h hk p e s m args below meth c D ca b0 ad0 S0 ad H locs rls hC h61 hX hR hT h1 h2
  obtain ⟨hx, hb, hml, hown, ⟨w0, hts⟩, hr, hlk, hG⟩ := id hC
  unfold o_cmpgt at h
  split at h
  · rename_i y x r
    rw [hp]
    refine lv_icmp_gt (tgt := tg) hx hb hd hf (fun q => ?_) (fun q => ?_)
    · rw [if_pos q] at h
      have w := hk _ _ _ _ _ h p e s m args below meth c D ca b0 ad0 S0 ad H locs rls hC h61 hX hR (ce_okT_tl (ce_okT_tl hT)) h1 h2
      rw [ht] at w
      exact w
    · rw [if_neg q] at h
      have w := hk _ _ _ _ _ h p e s m args below meth c D ca b0 ad0 S0 ad H locs rls hC h61 hX hR (ce_okT_tl (ce_okT_tl hT)) h1 h2
      rw [hp'] at w
      exact w
  · cases h
theorem ok_ifle {t tg : Nat} {off : Int} (hp : pcs.getD i 0 = pc) (hp' : pcs.getD (i + 1) 0 = pc + 3) (hd : decode cc pc = .ok (.ifCond .le off, 3)) (ht : pcs.getD t 0 = tg) (hf : (pc : Int) + off = (tg : Int)) : ce_Ok l cc own nL rt d MC MS pcs i (o_ifle t) := by
  intro nn ls st S k res h hk p e s m args below meth c D ca b0 ad0 S0 ad H locs rls hC h61 hX hR hT h1 h2
  obtain ⟨hx, hb, hml, hown, ⟨w0, hts⟩, hr, hlk, hG⟩ := id hC
  unfold o_ifle at h
  split at h
  · rename_i x r
    rw [hp]
    refine lv_if_le (tgt := tg) hx hb hd hf (fun q => ?_) (fun q => ?_)
    · rw [if_pos q] at h
      have w := hk _ _ _ _ _ h p e s m args below meth c D ca b0 ad0 S0 ad H locs rls hC h61 hX hR (ce_okT_tl hT) h1 h2
      rw [ht] at w
      exact w
    · rw [if_neg q] at h
      have w := hk _ _ _ _ _ h p e s m args below meth c D ca b0 ad0 S0 ad H locs rls hC h61 hX hR (ce_okT_tl hT) h1 h2
      rw [hp'] at w
      exact w
  · cases h
theorem ok_cmple {t tg : Nat} {off : Int} (hp : pcs.getD i 0 = pc) (hp' : pcs.getD (i + 1) 0 = pc + 3) (hd : decode cc pc = .ok (.if_icmp .le off, 3)) (ht : pcs.getD t 0 = tg) (hf : (pc : Int) + off = (tg : Int)) : ce_Ok l cc own nL rt d MC MS pcs i (o_cmple t) := by
  intro nn ls st S k res h hk p e s m args below meth c D ca b0 ad0 S0 ad H locs rls hC h61 hX hR hT h1 h2
  obtain ⟨hx, hb, hml, hown, ⟨w0, hts⟩, hr, hlk, hG⟩ := id hC
  unfold o_cmple at h
  split at h
  · rename_i y x r
    rw [hp]
    refine lv_icmp_le (tgt := tg) hx hb hd hf (fun q => ?_) (fun q => ?_)
    · rw [if_pos q] at h
      have w := hk _ _ _ _ _ h p e s m args below meth c D ca b0 ad0 S0 ad H locs rls hC h61 hX hR (ce_okT_tl (ce_okT_tl hT)) h1 h2
      rw [ht] at w
      exact w
    · rw [if_neg q] at h
      have w := hk _ _ _ _ _ h p e s m args below meth c D ca b0 ad0 S0 ad H locs rls hC h61 hX hR (ce_okT_tl (ce_okT_tl hT)) h1 h2
      rw [hp'] at w
      exact w
  · cases h
theorem ok_sw {lo hi dflt : Int} {offs : Array Int} {len : Nat} {ks : List (Int32 × Nat)} {dd : Nat} (hp : pcs.getD i 0 = pc) (hd : decode cc pc = .ok (.tableswitch dflt lo hi offs, len)) (hs : ce_swok pc pcs lo offs ks = true) (hn : lo + (ks.length : Int) = hi + 1) (ht : (pc : Int) + dflt = ((pcs.getD dd 0 : Nat) : Int)) : ce_Ok l cc own nL rt d MC MS pcs i (o_sw ks dd) := by
  intro nn ls st S k res h hk p e s m args below meth c D ca b0 ad0 S0 ad H locs rls hC h61 hX hR hT h1 h2
  obtain ⟨hx, hb, hml, hown, ⟨w0, hts⟩, hr, hlk, hG⟩ := id hC
  unfold o_sw at h
  split at h
  · rename_i x r
    rw [hp]
    rcases ce_sw_or ks h with ⟨j, q, g1, g2, g3⟩ | ⟨g1, g2⟩
    · obtain ⟨off, k1, k2, k3⟩ := ce_swok_at hs g1
      have w := hk _ _ _ _ _ g3 p e s m args below meth c D ca b0 ad0 S0 ad H locs rls hC h61 hX hR (ce_okT_tl hT) h1 h2
      have hj : (j : Int) < (ks.length : Int) := by
        have := (List.getElem?_eq_some_iff.mp g1).1
        omega
      refine lv_tableIn hx hb hd (by rw [g2, k2]; omega) (by rw [g2, k2]; omega) (off := off) (by rw [g2, k2, show (lo + (j : Int) - lo).toNat = j by omega]; exact k1) k3 w
    · have w := hk _ _ _ _ _ g2 p e s m args below meth c D ca b0 ad0 S0 ad H locs rls hC h61 hX hR (ce_okT_tl hT) h1 h2
      refine lv_tableOut hx hb hd ?_ ht w
      by_cases a1 : x.toInt < lo
      · exact Or.inl a1
      · by_cases a2 : hi < x.toInt
        · exact Or.inr a2
        · exfalso
          have hl : (x.toInt - lo).toNat < ks.length := by omega
          obtain ⟨off, k1, k2, k3⟩ := ce_swok_at hs (List.getElem?_eq_getElem hl)
          exact g1 _ _ (List.getElem?_eq_getElem hl) (Int32.toInt_inj.mp (by rw [k2]; omega))
  · cases h
theorem ok_dup (hp : pcs.getD i 0 = pc) (hp' : pcs.getD (i + 1) 0 = pc + 1) (hd : decode cc pc = .ok (.dup, 1)) : ce_Ok l cc own nL rt d MC MS pcs i o_dup := by
  intro nn ls st S k res h hk p e s m args below meth c D ca b0 ad0 S0 ad H locs rls hC h61 hX hR hT h1 h2
  obtain ⟨hx, hb, hml, hown, ⟨w0, hts⟩, hr, hlk, hG⟩ := id hC
  unfold o_dup at h
  split at h
  · rename_i x r
    have w := hk _ _ _ _ _ h p e s m args below meth c D ca b0 ad0 S0 ad H locs rls hC h61 hX hR (ce_okT_cons trivial hT) h1 h2
    rw [hp'] at w
    rw [hp]
    exact lv_dup hx hb hd rfl w
  · rename_i x r
    have w := hk _ _ _ _ _ h p e s m args below meth c D ca b0 ad0 S0 ad H locs rls hC h61 hX hR (ce_okT_cons (ce_okT_hd hT) hT) h1 h2
    rw [hp'] at w
    rw [hp]
    exact lv_dup hx hb hd rfl w
  · cases h
theorem ok_dup2 (hp : pcs.getD i 0 = pc) (hp' : pcs.getD (i + 1) 0 = pc + 1) (hd : decode cc pc = .ok (.dup2, 1)) : ce_Ok l cc own nL rt d MC MS pcs i o_dup2 := by
  intro nn ls st S k res h hk p e s m args below meth c D ca b0 ad0 S0 ad H locs rls hC h61 hX hR hT h1 h2
  obtain ⟨hx, hb, hml, hown, ⟨w0, hts⟩, hr, hlk, hG⟩ := id hC
  unfold o_dup2 at h
  split at h
  · rename_i y x r
    have w := hk _ _ _ _ _ h p e s m args below meth c D ca b0 ad0 S0 ad H locs rls hC h61 hX hR (ce_okT_cons trivial (ce_okT_cons (ce_okT_hd (ce_okT_tl hT)) hT)) h1 h2
    rw [hp'] at w
    rw [hp]
    exact lv_dup2_11 hx hb hd rfl rfl w
  · cases h
theorem ok_pop (hp : pcs.getD i 0 = pc) (hp' : pcs.getD (i + 1) 0 = pc + 1) (hd : decode cc pc = .ok (.pop, 1)) : ce_Ok l cc own nL rt d MC MS pcs i o_pop := by
  intro nn ls st S k res h hk p e s m args below meth c D ca b0 ad0 S0 ad H locs rls hC h61 hX hR hT h1 h2
  obtain ⟨hx, hb, hml, hown, ⟨w0, hts⟩, hr, hlk, hG⟩ := id hC
  unfold o_pop at h
  split at h
  · rename_i x r
    have w := hk _ _ _ _ _ h p e s m args below meth c D ca b0 ad0 S0 ad H locs rls hC h61 hX hR (ce_okT_tl hT) h1 h2
    rw [hp'] at w
    rw [hp]
    exact lv_pop hx hb hd rfl w
  · cases h
theorem ok_iret (hp : pcs.getD i 0 = pc) (hd : decode cc pc = .ok (.ireturn, 1)) (hrt : rt = some .int) : ce_Ok l cc own nL rt d MC MS pcs i o_iret := by
  intro nn ls st S k res h hk p e s m args below meth c D ca b0 ad0 S0 ad H locs rls hC h61 hX hR hT h1 h2
  obtain ⟨hx, hb, hml, hown, ⟨w0, hts⟩, hr, hlk, hG⟩ := id hC
  unfold o_iret at h
  split at h
  · rename_i x
    cases h
    rw [hp]
    refine W.widen h1 h2 ?_
    exact W.iret hx hb (hr.trans hrt) (fun t ht hW => ⟨ad, hR.2.2.2.2.2, rfl, hR.2.2.2.1, fun v hv => by cases hv; trivial, by rw [ht]; exact hR.1, hR.2.1.F ht⟩) hR.2.1.2.2 hd
  · cases h
theorem ok_lret (hp : pcs.getD i 0 = pc) (hd : decode cc pc = .ok (.lreturn, 1)) (hrt : rt = some .long) : ce_Ok l cc own nL rt d MC MS pcs i o_lret := by
  intro nn ls st S k res h hk p e s m args below meth c D ca b0 ad0 S0 ad H locs rls hC h61 hX hR hT h1 h2
  obtain ⟨hx, hb, hml, hown, ⟨w0, hts⟩, hr, hlk, hG⟩ := id hC
  unfold o_lret at h
  split at h
  · rename_i x
    cases h
    rw [hp]
    refine W.widen h1 h2 ?_
    exact W.lret hx hb (hr.trans hrt) (fun t ht hW => ⟨ad, hR.2.2.2.2.2, rfl, hR.2.2.2.1, fun v hv => by cases hv; trivial, by rw [ht]; exact hR.1, hR.2.1.F ht⟩) hR.2.1.2.2 hd
  · cases h
theorem ok_zret (hp : pcs.getD i 0 = pc) (hd : decode cc pc = .ok (.ireturn, 1)) (hrt : rt = some .boolean) : ce_Ok l cc own nL rt d MC MS pcs i o_zret := by
  intro nn ls st S k res h hk p e s m args below meth c D ca b0 ad0 S0 ad H locs rls hC h61 hX hR hT h1 h2
  obtain ⟨hx, hb, hml, hown, ⟨w0, hts⟩, hr, hlk, hG⟩ := id hC
  unfold o_zret at h
  split at h
  · rename_i x
    by_cases hz : x = 0 ∨ x = 1
    · rw [if_pos hz] at h
      cases h
      rw [hp]
      refine W.widen h1 h2 ?_
      exact W.zret hx hb (hr.trans hrt) (by rcases hz with rfl | rfl <;> decide) (fun t ht hW => ⟨ad, hR.2.2.2.2.2, rfl, hR.2.2.2.1, fun v hv => by cases hv; trivial, by rw [ht]; exact hR.1, hR.2.1.F ht⟩) hR.2.1.2.2 hd
    · rw [if_neg hz] at h
      cases h
  · cases h
theorem ok_vret (hp : pcs.getD i 0 = pc) (hd : decode cc pc = .ok (.return_, 1)) (hrt : rt = none) : ce_Ok l cc own nL rt d MC MS pcs i o_vret := by
  intro nn ls st S k res h hk p e s m args below meth c D ca b0 ad0 S0 ad H locs rls hC h61 hX hR hT h1 h2
  obtain ⟨hx, hb, hml, hown, ⟨w0, hts⟩, hr, hlk, hG⟩ := id hC
  unfold o_vret at h
  split at h
  · cases h
    rw [hp]
    refine W.widen h1 h2 ?_
    exact W.vret hx hb (hr.trans hrt) (fun t ht hW => ⟨ad, hR.2.2.2.2.2, rfl, hR.2.2.2.1, (fun v hv => by cases hv), by rw [ht]; exact hR.1, hR.2.1.F ht⟩) hR.2.1.2.2 hd
  · cases h
theorem ok_aret {C : String} (hp : pcs.getD i 0 = pc) (hd : decode cc pc = .ok (.areturn, 1)) (hrt : rt = some (.object C)) : ce_Ok l cc own nL rt d MC MS pcs i o_aret := by
  intro nn ls st S k res h hk p e s m args below meth c D ca b0 ad0 S0 ad H locs rls hC h61 hX hR hT h1 h2
  obtain ⟨hx, hb, hml, hown, ⟨w0, hts⟩, hr, hlk, hG⟩ := id hC
  unfold o_aret at h
  split at h
  · rename_i q
    cases h
    rw [hp]
    refine W.widen h1 h2 ?_
    exact W.aret hx hb (hr.trans hrt) (Or.inl ⟨_, rfl⟩) (Or.inr ⟨_, rfl⟩) (fun t ht hW => ⟨ad, hR.2.2.2.2.2, rfl, hR.2.2.2.1, fun v hv => by cases hv; exact ce_okT_hd hT, by rw [ht]; exact hR.1, hR.2.1.F ht⟩) hR.2.1.2.2 hd
  · cases h
end CEO
end
section
/-! steps on the heap -/
theorem ce_ag.refl {S : ce_S} {ad : Nat → Nat → Nat} : ce_ag S ad S ad := fun _ _ h => ⟨rfl, h⟩
theorem ce_uws {C : String} {T : u_T} {N : Nat} (ps : List Nat) (h : (List.range N).all (fun k => decide (lw_tbl[ps.getD k 0]? = some (u_lay C T k)) && goodWord (u_lay C T k)) = true) : ∀ w ∈ u_ws C T N, w ∈ ce_tw := by
  intro w hw
  obtain ⟨k, hk, rfl⟩ := List.mem_map.mp hw
  have := List.all_eq_true.mp h k hk
  simp only [Bool.and_eq_true, decide_eq_true_eq] at this
  exact ce_tw_in (List.mem_of_getElem? this.1) this.2
theorem ce_len_kept {S S' : ce_S} {t i : Nat} (h : ce_L S' t i = ce_L S t i) : ce_len S' t i = ce_len S t i := by
  unfold ce_len
  cases ce_sl t <;> simp [h]
theorem ce_okV_kept {S S' : ce_S} (h : ∀ t, ce_C S' t = ce_C S t) {v : ce_V} (hv : ce_okV S v) : ce_okV S' v := by
  unfold ce_okV at hv ⊢
  split at hv
  · rw [h]; exact hv
  · trivial
theorem ce_okT_kept {S S' : ce_S} (h : ∀ t, ce_C S' t = ce_C S t) {st : List ce_V} (hv : ce_okT S st) : ce_okT S' st := fun v hq => ce_okV_kept h (hv v hq)
theorem ce_okL_kept {S S' : ce_S} (h : ∀ t, ce_C S' t = ce_C S t) {ls : List (Option ce_V)} (hv : ce_okL S ls) : ce_okL S' ls := fun j v hq => ce_okV_kept h (hv j v hq)
theorem ce_ag_kept {S0 S S' : ce_S} {ad0 ad : Nat → Nat → Nat} (h : ∀ t, ce_C S' t = ce_C S t) (hv : ce_ag S0 ad0 S ad) : ce_ag S0 ad0 S' ad := fun t i q => ⟨(hv t i q).1, by rw [h]; exact (hv t i q).2⟩
section CEHO
variable {l : Launch} {cc : ByteArray} {own : String} {nL : Nat} {rt : Option FieldType} {d MC MS : Nat} {pcs : List Nat} {i pc : Nat}
theorem ok_getI {t f ci ix wp N : Nat} {C : String} {T : u_T} (hp : pcs.getD i 0 = pc) (hp' : pcs.getD (i + 1) 0 = pc + 3) (hd : decode cc pc = .ok (.getfield ix, 3)) (hso : ce_so t = 0) (hci : ∀ j, ce_ci t j = ci) (hc : vwCl[ci]? = some (C, T, N)) (hcw : ∀ w ∈ u_ws C T N, w ∈ ce_tw) (hf : f < N) (hfk : ce_fk t f = .inl ()) (hw : lw_tbl[wp]? = some (Cond.fieldLink own ix (T f).1 (T f).2.1 (T f).2.2.1)) : ce_Ok l cc own nL rt d MC MS pcs i (o_getI t f) := by
  intro nn ls st S k res h hk p e s m args below meth c D ca b0 ad0 S0 ad H locs rls hC h61 hX hR hT h1 h2
  obtain ⟨hx, hb, hml, hown, ⟨w0, hts⟩, hr, hlk, hG⟩ := id hC
  unfold o_getI at h
  split at h
  · rename_i q r
    by_cases hq : q.1 = t
    · rw [if_pos hq] at h
      have w := hk _ _ _ _ _ h p e s m args below meth c D ca b0 ad0 S0 ad H locs rls hC h61 hX hR (ce_okT_cons trivial (ce_okT_tl hT)) h1 h2
      rw [hp'] at w
      rw [hp]
      have hv : q.2 < ce_C S t := by have := ce_okT_hd hT; rw [← hq]; exact this
      obtain ⟨⟨ho, -, -⟩, -, -⟩ := hR.1.1 t q.2 hv (by rw [hso]; decide)
      obtain ⟨r', hr1, hr2⟩ := ho hso
      rw [hci, hc] at hr1
      cases hr1
      rw [hci] at hr2
      have hq2 : ce_val ad (.inr (.inl q)) = .ref (ad t q.2) := by rw [← hq]; rfl
      rw [List.map_cons, hq2]
      exact ce_get hx hb hts (fun w hw => List.mem_cons_of_mem _ (hcw w hw)) hown hG.1 hr2 hc f hf (ce_wIn hts hw rfl) (by show ce_fv ad S t f q.2 = _; unfold ce_fv; rw [hfk]; rfl) hd w
    · rw [if_neg hq] at h; cases h
  · cases h
theorem ok_getS {t f ci ix wp N t' : Nat} {g : Nat → Nat} {C : String} {T : u_T} (hp : pcs.getD i 0 = pc) (hp' : pcs.getD (i + 1) 0 = pc + 3) (hd : decode cc pc = .ok (.getfield ix, 3)) (hso : ce_so t = 0) (hci : ∀ j, ce_ci t j = ci) (hc : vwCl[ci]? = some (C, T, N)) (hcw : ∀ w ∈ u_ws C T N, w ∈ ce_tw) (hf : f < N) (hfk : ce_fk t f = .inr (.inl (t', g))) (hw : lw_tbl[wp]? = some (Cond.fieldLink own ix (T f).1 (T f).2.1 (T f).2.2.1)) : ce_Ok l cc own nL rt d MC MS pcs i (o_getS t t' g) := by
  intro nn ls st S k res h hk p e s m args below meth c D ca b0 ad0 S0 ad H locs rls hC h61 hX hR hT h1 h2
  obtain ⟨hx, hb, hml, hown, ⟨w0, hts⟩, hr, hlk, hG⟩ := id hC
  unfold o_getS at h
  split at h
  · rename_i q r
    by_cases hq : q.1 = t
    · rw [if_pos hq] at h
      have hv : q.2 < ce_C S t := by have := ce_okT_hd hT; rw [← hq]; exact this
      have w := hk _ _ _ _ _ h p e s m args below meth c D ca b0 ad0 S0 ad H locs rls hC h61 hX hR (ce_okT_cons ((hR.2.2.2.1.1 t f q.2 hv hso).1 _ hfk) (ce_okT_tl hT)) h1 h2
      rw [hp'] at w
      rw [hp]
      obtain ⟨⟨ho, -, -⟩, -, -⟩ := hR.1.1 t q.2 hv (by rw [hso]; decide)
      obtain ⟨r', hr1, hr2⟩ := ho hso
      rw [hci, hc] at hr1
      cases hr1
      rw [hci] at hr2
      have hq2 : ce_val ad (.inr (.inl q)) = .ref (ad t q.2) := by rw [← hq]; rfl
      rw [List.map_cons, hq2]
      exact ce_get hx hb hts (fun w hw => List.mem_cons_of_mem _ (hcw w hw)) hown hG.1 hr2 hc f hf (ce_wIn hts hw rfl) (by show ce_fv ad S t f q.2 = _; unfold ce_fv; rw [hfk]; rfl) hd w
    · rw [if_neg hq] at h; cases h
  · cases h
theorem ok_getM {t f ci ix wp N t' : Nat} {C : String} {T : u_T} (hp : pcs.getD i 0 = pc) (hp' : pcs.getD (i + 1) 0 = pc + 3) (hd : decode cc pc = .ok (.getfield ix, 3)) (hso : ce_so t = 0) (hci : ∀ j, ce_ci t j = ci) (hc : vwCl[ci]? = some (C, T, N)) (hcw : ∀ w ∈ u_ws C T N, w ∈ ce_tw) (hf : f < N) (hfk : ce_fk t f = .inr (.inr t')) (hw : lw_tbl[wp]? = some (Cond.fieldLink own ix (T f).1 (T f).2.1 (T f).2.2.1)) : ce_Ok l cc own nL rt d MC MS pcs i (o_getM t f t') := by
  intro nn ls st S k res h hk p e s m args below meth c D ca b0 ad0 S0 ad H locs rls hC h61 hX hR hT h1 h2
  obtain ⟨hx, hb, hml, hown, ⟨w0, hts⟩, hr, hlk, hG⟩ := id hC
  unfold o_getM at h
  split at h
  · rename_i q r
    by_cases hq : q.1 = t
    · rw [if_pos hq] at h
      have hv : q.2 < ce_C S t := by have := ce_okT_hd hT; rw [← hq]; exact this
      have w := hk _ _ _ _ _ h p e s m args below meth c D ca b0 ad0 S0 ad H locs rls hC h61 hX hR (ce_okT_cons ((hR.2.2.2.1.1 t f q.2 hv hso).2 _ hfk) (ce_okT_tl hT)) h1 h2
      rw [hp'] at w
      rw [hp]
      obtain ⟨⟨ho, -, -⟩, -, -⟩ := hR.1.1 t q.2 hv (by rw [hso]; decide)
      obtain ⟨r', hr1, hr2⟩ := ho hso
      rw [hci, hc] at hr1
      cases hr1
      rw [hci] at hr2
      have hq2 : ce_val ad (.inr (.inl q)) = .ref (ad t q.2) := by rw [← hq]; rfl
      rw [List.map_cons, hq2]
      exact ce_get hx hb hts (fun w hw => List.mem_cons_of_mem _ (hcw w hw)) hown hG.1 hr2 hc f hf (ce_wIn hts hw rfl) (by show ce_fv ad S t f q.2 = _; unfold ce_fv; rw [hfk]; rfl) hd w
    · rw [if_neg hq] at h; cases h
  · cases h
/-- behind a write of an int field -/
theorem ce_H.putI {D : va_G} {ca : Nat → ClassId} {b0 : Nat} {ad : Nat → Nat → Nat} {S : ce_S} {t f j : Nat} {x : Int32} {H H1 : Heap} {r : vw_C} (h : ce_H D ca b0 ad S H) (hj : j < ce_C S t) (hso : ce_so t = 0) (hfk : ce_fk t f = .inl ()) (hr : vwCl[ce_ci t j]? = some r) (hO : t_OB (ad t j) (D.1 (ce_ci t j)) r.2.2 (D.2 (ce_ci t j)) H1 (updV (fun k => ce_fv ad S t k j) f (.int x))) (hz : H1.size = H.size) (ho : ∀ q : Nat, q ≠ ad t j → H1[q]? = H[q]?) : ce_H D ca b0 ad (ce_sI S t f j x) H1 := by
  refine h.set hj (by rw [hso]; decide) hz ho (fun _ => rfl) ⟨fun _ => ⟨r, hr, hO.to (fun k _ => ?_)⟩, (fun h1 => by rw [hso] at h1; cases h1), (fun h1 => by rw [hso] at h1; cases h1)⟩ (fun t' i' hne => ⟨fun k => ?_, fun _ => rfl, fun _ => rfl, rfl, fun _ _ _ => rfl⟩)
  · unfold updV
    by_cases hk : k = f
    · subst hk
      rw [if_pos rfl]
      unfold ce_fv
      rw [hfk]
      exact congrArg Value.int (ce_u_eq S.1 t k j x).symm
    · rw [if_neg hk]
      show ce_fv ad S t k j = ce_fv ad _ t k j
      unfold ce_fv
      cases ce_fk t k with
      | inl u => exact congrArg Value.int (ce_u_ne S.1 x (fun q => hk q.2.1)).symm
      | inr u => cases u <;> rfl
  · exact ce_u_ne S.1 x (fun q => hne ⟨q.1, q.2.2⟩)
theorem ce_H.putR {D : va_G} {ca : Nat → ClassId} {b0 : Nat} {ad : Nat → Nat → Nat} {S : ce_S} {t f j x t' : Nat} {H H1 : Heap} {r : vw_C} (h : ce_H D ca b0 ad S H) (hj : j < ce_C S t) (hso : ce_so t = 0) (hfk : ce_fk t f = .inr (.inr t')) (hr : vwCl[ce_ci t j]? = some r) (hO : t_OB (ad t j) (D.1 (ce_ci t j)) r.2.2 (D.2 (ce_ci t j)) H1 (updV (fun k => ce_fv ad S t k j) f (.ref (ad t' x)))) (hz : H1.size = H.size) (ho : ∀ q : Nat, q ≠ ad t j → H1[q]? = H[q]?) : ce_H D ca b0 ad (ce_sR S t f j x) H1 := by
  refine h.set hj (by rw [hso]; decide) hz ho (fun _ => rfl) ⟨fun _ => ⟨r, hr, hO.to (fun k _ => ?_)⟩, (fun h1 => by rw [hso] at h1; cases h1), (fun h1 => by rw [hso] at h1; cases h1)⟩ (fun t'' i' hne => ⟨fun _ => rfl, fun k => ?_, fun _ => rfl, rfl, fun _ _ _ => rfl⟩)
  · unfold updV
    by_cases hk : k = f
    · subst hk
      rw [if_pos rfl]
      unfold ce_fv
      rw [hfk]
      exact congrArg (fun z => Value.ref (ad t' z)) (ce_u_eq S.2.1 t k j x).symm
    · rw [if_neg hk]
      show ce_fv ad S t k j = ce_fv ad _ t k j
      unfold ce_fv
      cases ce_fk t k with
      | inl u => rfl
      | inr u => cases u with
        | inl u => rfl
        | inr u => exact congrArg (fun z => Value.ref (ad u z)) (ce_u_ne S.2.1 x (fun q => hk q.2.1)).symm
  · exact ce_u_ne S.2.1 x (fun q => hne ⟨q.1, q.2.2⟩)
theorem ce_S_put {b0 : Nat} {H0 H H1 : Heap} {locs : List Loc} {lc : Loc} {a : Nat} (h : va_S (fun q => b0 ≤ q) H0 H locs) (hz : H1.size = H.size) (ho : ∀ q : Nat, q ≠ a → H1[q]? = H[q]?) (ha : b0 ≤ a) (hl : lc.base = a) : va_S (fun q => b0 ≤ q) H0 H1 (locs ++ [lc]) := by
  refine ⟨by rw [hz]; exact h.1, fun q g1 g2 => ?_, fun q hq => ?_⟩
  · rw [ho q (fun e => g2 (by rw [e]; exact ha))]
    exact h.2.1 q g1 g2
  · rcases List.mem_append.mp hq with g | g
    · exact h.2.2 q g
    · rw [List.mem_singleton.mp g]
      show b0 ≤ lc.base
      rw [hl]; exact ha
theorem ce_okS_sI {S : ce_S} {t f j : Nat} {x : Int32} (h : ce_okS S) : ce_okS (ce_sI S t f j x) := h
theorem ce_okS_sA {S : ce_S} {t f j : Nat} {x : Int32} (h : ce_okS S) : ce_okS (ce_sA S t f j x) := h
theorem ce_okS_sR {S : ce_S} {t f j x t' : Nat} (h : ce_okS S) (hfk : ce_fk t f = .inr (.inr t')) (hx : x < ce_C S t') : ce_okS (ce_sR S t f j x) := by
  refine ⟨fun a k b hb hs => ⟨fun q hq => (h.1 a k b hb hs).1 q hq, fun a' hq => ?_⟩, h.2⟩
  show ce_u S.2.1 t f j x a k b < _
  by_cases e : a = t ∧ k = f ∧ b = j
  · obtain ⟨rfl, rfl, rfl⟩ := e
    rw [ce_u_eq]
    cases hfk.symm.trans hq
    exact hx
  · rw [ce_u_ne _ _ e]
    exact (h.1 a k b hb hs).2 a' hq
theorem ok_putI {t f ci ix wp N : Nat} {C : String} {T : u_T} {ty : Nat → FieldType} (hp : pcs.getD i 0 = pc) (hp' : pcs.getD (i + 1) 0 = pc + 3) (hd : decode cc pc = .ok (.putfield ix, 3)) (hso : ce_so t = 0) (hci : ∀ j, ce_ci t j = ci) (hc : vwCl[ci]? = some (C, T, N)) (hcw : ∀ w ∈ u_ws C T N, w ∈ ce_tw) (hty : ∀ k, k < N → parseFieldDescriptor (T k).2.2.1 = some (ty k)) (hnm : ∀ a, a < N → ∀ b, b < N → a ≠ b → (T a).2.1 ≠ (T b).2.1) (hf : f < N) (hfk : ce_fk t f = .inl ()) (hfin : (T f).2.2.2 = false) (hint : ty f = .int) (hw : lw_tbl[wp]? = some (Cond.fieldLink own ix (T f).1 (T f).2.1 (T f).2.2.1)) : ce_Ok l cc own nL rt d MC MS pcs i (o_putI t f) := by
  intro nn ls st S k res h hk p e s m args below meth c D ca b0 ad0 S0 ad H locs rls hC h61 hX hR hT h1 h2
  obtain ⟨hx, hb, hml, hown, ⟨w0, hts⟩, hr, hlk, hG⟩ := id hC
  unfold o_putI at h
  split at h
  · rename_i x q r
    by_cases hq : q.1 = t
    · rw [if_pos hq] at h
      have hv : q.2 < ce_C S t := by have := ce_okT_hd (ce_okT_tl hT); rw [← hq]; exact this
      rw [hp]
      obtain ⟨⟨ho, -, -⟩, hb0, -⟩ := hR.1.1 t q.2 hv (by rw [hso]; decide)
      obtain ⟨r', hr1, hr2⟩ := ho hso
      have hr3 := hr1
      rw [hci, hc] at hr3
      cases hr3
      have hq2 : ce_val ad (.inr (.inl q)) = .ref (ad t q.2) := by rw [← hq]; rfl
      rw [List.map_cons, List.map_cons, hq2]
      refine ce_put hx hb hts (fun w hw => List.mem_cons_of_mem _ (hcw w hw)) ty hty hnm hown hG.1 hr2 hr1 f hf (ce_wIn hts hw rfl) hfin (v := .int x) (by rw [hint]; rfl) (by rw [hint]; rfl) hd (fun H1 lc hl hO hz hoq => ?_)
      have w := hk _ _ _ _ _ h p e s m args below meth c D ca b0 ad0 S0 ad H1 (locs ++ [lc]) rls hC h61 hX ⟨hR.1.putI hv hso hfk hr1 hO hz hoq, ce_S_put hR.2.1 hz hoq hb0 hl, hR.2.2.1, ce_okS_sI hR.2.2.2.1, ce_okL_kept (fun _ => rfl) hR.2.2.2.2.1, ce_ag_kept (fun _ => rfl) hR.2.2.2.2.2⟩ (ce_okT_kept (fun _ => rfl) (ce_okT_tl (ce_okT_tl hT))) h1 h2
      rw [hp'] at w
      exact w
    · rw [if_neg hq] at h; cases h
  · cases h
theorem ok_putZ {t f ci ix wp N : Nat} {C : String} {T : u_T} {ty : Nat → FieldType} (hp : pcs.getD i 0 = pc) (hp' : pcs.getD (i + 1) 0 = pc + 3) (hd : decode cc pc = .ok (.putfield ix, 3)) (hso : ce_so t = 0) (hci : ∀ j, ce_ci t j = ci) (hc : vwCl[ci]? = some (C, T, N)) (hcw : ∀ w ∈ u_ws C T N, w ∈ ce_tw) (hty : ∀ k, k < N → parseFieldDescriptor (T k).2.2.1 = some (ty k)) (hnm : ∀ a, a < N → ∀ b, b < N → a ≠ b → (T a).2.1 ≠ (T b).2.1) (hf : f < N) (hfk : ce_fk t f = .inl ()) (hfin : (T f).2.2.2 = false) (hint : ty f = .boolean) (hw : lw_tbl[wp]? = some (Cond.fieldLink own ix (T f).1 (T f).2.1 (T f).2.2.1)) : ce_Ok l cc own nL rt d MC MS pcs i (o_putZ t f) := by
  intro nn ls st S k res h hk p e s m args below meth c D ca b0 ad0 S0 ad H locs rls hC h61 hX hR hT h1 h2
  obtain ⟨hx, hb, hml, hown, ⟨w0, hts⟩, hr, hlk, hG⟩ := id hC
  unfold o_putZ at h
  split at h
  · rename_i x q r
    by_cases hq : q.1 = t
    · rw [if_pos hq] at h
      by_cases hz01 : x = 0 ∨ x = 1
      · rw [if_pos hz01] at h
        have hv : q.2 < ce_C S t := by have := ce_okT_hd (ce_okT_tl hT); rw [← hq]; exact this
        rw [hp]
        obtain ⟨⟨ho, -, -⟩, hb0, -⟩ := hR.1.1 t q.2 hv (by rw [hso]; decide)
        obtain ⟨r', hr1, hr2⟩ := ho hso
        have hr3 := hr1
        rw [hci, hc] at hr3
        cases hr3
        have hq2 : ce_val ad (.inr (.inl q)) = .ref (ad t q.2) := by rw [← hq]; rfl
        rw [List.map_cons, List.map_cons, hq2]
        refine ce_put hx hb hts (fun w hw => List.mem_cons_of_mem _ (hcw w hw)) ty hty hnm hown hG.1 hr2 hr1 f hf (ce_wIn hts hw rfl) hfin (v := .int x) (by rw [hint]; rcases hz01 with rfl | rfl <;> decide) (by rw [hint]; rcases hz01 with rfl | rfl <;> decide) hd (fun H1 lc hl hO hz hoq => ?_)
        have w := hk _ _ _ _ _ h p e s m args below meth c D ca b0 ad0 S0 ad H1 (locs ++ [lc]) rls hC h61 hX ⟨hR.1.putI hv hso hfk hr1 hO hz hoq, ce_S_put hR.2.1 hz hoq hb0 hl, hR.2.2.1, ce_okS_sI hR.2.2.2.1, ce_okL_kept (fun _ => rfl) hR.2.2.2.2.1, ce_ag_kept (fun _ => rfl) hR.2.2.2.2.2⟩ (ce_okT_kept (fun _ => rfl) (ce_okT_tl (ce_okT_tl hT))) h1 h2
        rw [hp'] at w
        exact w
      · rw [if_neg hz01] at h; cases h
    · rw [if_neg hq] at h; cases h
  · cases h
theorem ok_putM {t f ci ix wp N t' : Nat} {C C' : String} {T : u_T} {ty : Nat → FieldType} (hp : pcs.getD i 0 = pc) (hp' : pcs.getD (i + 1) 0 = pc + 3) (hd : decode cc pc = .ok (.putfield ix, 3)) (hso : ce_so t = 0) (hci : ∀ j, ce_ci t j = ci) (hc : vwCl[ci]? = some (C, T, N)) (hcw : ∀ w ∈ u_ws C T N, w ∈ ce_tw) (hty : ∀ k, k < N → parseFieldDescriptor (T k).2.2.1 = some (ty k)) (hnm : ∀ a, a < N → ∀ b, b < N → a ≠ b → (T a).2.1 ≠ (T b).2.1) (hf : f < N) (hfk : ce_fk t f = .inr (.inr t')) (hfin : (T f).2.2.2 = false) (hint : ty f = .object C') (hw : lw_tbl[wp]? = some (Cond.fieldLink own ix (T f).1 (T f).2.1 (T f).2.2.1)) : ce_Ok l cc own nL rt d MC MS pcs i (o_putM t f t') := by
  intro nn ls st S k res h hk p e s m args below meth c D ca b0 ad0 S0 ad H locs rls hC h61 hX hR hT h1 h2
  obtain ⟨hx, hb, hml, hown, ⟨w0, hts⟩, hr, hlk, hG⟩ := id hC
  unfold o_putM at h
  split at h
  · rename_i v q r
    by_cases hq : q.1 = t
    · rw [if_pos hq] at h
      by_cases hv1 : v.1 = t'
      · rw [if_pos hv1] at h
        have hv : q.2 < ce_C S t := by have := ce_okT_hd (ce_okT_tl hT); rw [← hq]; exact this
        have hv' : v.2 < ce_C S t' := by have := ce_okT_hd hT; rw [← hv1]; exact this
        rw [hp]
        obtain ⟨⟨ho, -, -⟩, hb0, -⟩ := hR.1.1 t q.2 hv (by rw [hso]; decide)
        obtain ⟨r', hr1, hr2⟩ := ho hso
        have hr3 := hr1
        rw [hci, hc] at hr3
        cases hr3
        have hq2 : ce_val ad (.inr (.inl q)) = .ref (ad t q.2) := by rw [← hq]; rfl
        have hv2 : ce_val ad (.inr (.inl v)) = .ref (ad t' v.2) := by rw [← hv1]; rfl
        rw [List.map_cons, List.map_cons, hq2, hv2]
        refine ce_put hx hb hts (fun w hw => List.mem_cons_of_mem _ (hcw w hw)) ty hty hnm hown hG.1 hr2 hr1 f hf (ce_wIn hts hw rfl) hfin (v := .ref (ad t' v.2)) (by rw [hint]; rfl) (by rw [hint]; rfl) hd (fun H1 lc hl hO hz hoq => ?_)
        have w := hk _ _ _ _ _ h p e s m args below meth c D ca b0 ad0 S0 ad H1 (locs ++ [lc]) rls hC h61 hX ⟨hR.1.putR hv hso hfk hr1 hO hz hoq, ce_S_put hR.2.1 hz hoq hb0 hl, hR.2.2.1, ce_okS_sR hR.2.2.2.1 hfk hv', ce_okL_kept (fun _ => rfl) hR.2.2.2.2.1, ce_ag_kept (fun _ => rfl) hR.2.2.2.2.2⟩ (ce_okT_kept (fun _ => rfl) (ce_okT_tl (ce_okT_tl hT))) h1 h2
        rw [hp'] at w
        exact w
      · rw [if_neg hv1] at h; cases h
    · rw [if_neg hq] at h; cases h
  · cases h
end CEHO
end
section
/-! steps on rows, Math, instanceof -/
theorem ce_P1 {D : va_G} {cl : List vw_C} {q : Nat × va_E} {H : Heap} (h : va_at D cl q H) : va_P D cl [q] H := by
  intro k z hz
  cases k with
  | zero => cases hz; exact h
  | succ k => simp at hz
theorem ce_cat (st : List Value) : (st.map fun v => v.category).sum ≤ 2 * st.length := by
  induction st with
  | nil => simp
  | cons v r ih =>
    have : v.category ≤ 2 := by rcases lv_cat v with h | h <;> omega
    simp only [List.map_cons, List.sum_cons, List.length_cons]
    omega
theorem ce_cat8 {ad : Nat → Nat → Nat} {r : List ce_V} (h : r.length ≤ 4) : ((r.map (ce_val ad)).map fun v => v.category).sum ≤ 8 := by
  have := ce_cat (r.map (ce_val ad))
  rw [List.length_map] at this
  omega
theorem ce_H.putA {D : va_G} {ca : Nat → ClassId} {b0 : Nat} {ad : Nat → Nat → Nat} {S S' : ce_S} {t j : Nat} {H H1 : Heap} (h : ce_H D ca b0 ad S H) (hj : j < ce_C S t) (hso : ce_so t = 1) (hc : H1[ad t j]? = some (vp_cell (ca 0) (ce_len S t j, .inl (fun e => ce_A S' t j e)))) (hz : H1.size = H.size) (ho : ∀ q : Nat, q ≠ ad t j → H1[q]? = H[q]?) (hI : S'.1 = S.1) (hR : S'.2.1 = S.2.1) (hL : S'.2.2.2 = S.2.2.2) (hA : ∀ t' i', ¬ (t' = t ∧ i' = j) → ∀ e, ce_A S' t' i' e = ce_A S t' i' e) : ce_H D ca b0 ad S' H1 := by
  have hl : ∀ a b, ce_L S' a b = ce_L S a b := fun a b => by unfold ce_L; rw [hL]
  have hC : ∀ a, ce_C S' a = ce_C S a := fun a => by unfold ce_C; rw [hL]
  have hq : ∀ a b, ce_el S' a b = ce_el S a b := fun a b => by unfold ce_el ce_Q; rw [hL]
  refine h.set hj (by rw [hso]; decide) hz ho hC ⟨(fun h1 => by rw [hso] at h1; cases h1), fun _ => ?_, (fun h1 => by rw [hso] at h1; cases h1)⟩ (fun t' i' hne => ⟨fun k => by unfold ce_I; rw [hI], fun k => by unfold ce_R; rw [hR], hA t' i' hne, hl _ _, fun _ _ e => hq _ _⟩)
  rw [ce_len_kept (hl t j)]
  exact hc
def ce_kn (j : Nat) : String := match j with
  | 0 => RX3
  | 1 => RX2
  | 2 => RX8
  | 3 => RX7
  | 4 => RX0
  | _ => RX1
theorem ce_kn_ci (j : Nat) : ∃ T : u_T, vwCl[ce_ci 10 j]? = some (ce_kn j, T, 0) := by
  match j with
  | 0 => exact ⟨_, rfl⟩
  | 1 => exact ⟨_, rfl⟩
  | 2 => exact ⟨_, rfl⟩
  | 3 => exact ⟨_, rfl⟩
  | 4 => exact ⟨_, rfl⟩
  | n + 5 => exact ⟨_, rfl⟩
theorem ce_kn_in (j : Nat) : ce_kn j ∈ [RX0, RX1, RX2, RX3, RX7, RX8] := by
  match j with
  | 0 => exact List.mem_of_getElem? (i := 3) rfl
  | 1 => exact List.mem_of_getElem? (i := 2) rfl
  | 2 => exact List.mem_of_getElem? (i := 5) rfl
  | 3 => exact List.mem_of_getElem? (i := 4) rfl
  | 4 => exact List.mem_of_getElem? (i := 0) rfl
  | n + 5 => exact List.mem_of_getElem? (i := 1) rfl
def ce_isU (b : String) (j : Nat) : Int32 := if ce_kn j = b then 1 else if (ce_kn j, b) ∈ ce_castW then 1 else 0
section CERO
variable {l : Launch} {cc : ByteArray} {own : String} {nL : Nat} {rt : Option FieldType} {d MC MS : Nat} {pcs : List Nat} {i pc : Nat}
theorem ok_ild {t : Nat} (hp : pcs.getD i 0 = pc) (hp' : pcs.getD (i + 1) 0 = pc + 1) (hd : decode cc pc = .ok (.iaload, 1)) (hso : ce_so t = 1) : ce_Ok l cc own nL rt d MC MS pcs i (o_ild t) := by
  intro nn ls st S k res h hk p e s m args below meth c D ca b0 ad0 S0 ad H locs rls hC h61 hX hR hT h1 h2
  obtain ⟨hx, hb, hml, hown, ⟨w0, hts⟩, hr, hlk, hG⟩ := id hC
  unfold o_ild at h
  split at h
  · rename_i j q r
    by_cases hq : q.1 = t
    · rw [if_pos hq] at h
      by_cases hj : j < 0 ∨ ce_len S t q.2 ≤ j.toNatClampNeg
      · rw [if_pos hj] at h; cases h
      · rw [if_neg hj] at h
        have w := hk _ _ _ _ _ h p e s m args below meth c D ca b0 ad0 S0 ad H locs rls hC h61 hX hR (ce_okT_cons trivial (ce_okT_tl (ce_okT_tl hT))) h1 h2
        rw [hp'] at w
        rw [hp]
        have hv : q.2 < ce_C S t := by have := ce_okT_hd (ce_okT_tl hT); rw [← hq]; exact this
        obtain ⟨⟨-, ho, -⟩, -, -⟩ := hR.1.1 t q.2 hv (by rw [hso]; decide)
        have hq2 : ce_val ad (.inr (.inl q)) = .ref (ad t q.2) := by rw [← hq]; rfl
        rw [List.map_cons, List.map_cons, hq2]
        exact va_iald (D := D) (cl := vwCl) (ws := [(ad t q.2, .inl (ca 0, ce_len S t q.2, .inl (fun e => ce_A S t q.2 e)))]) hx hb hG.1 (ce_P1 (ho hso)) 0 0 rfl rfl hj hd w
    · rw [if_neg hq] at h; cases h
  · cases h
theorem ok_ist {t : Nat} (hp : pcs.getD i 0 = pc) (hp' : pcs.getD (i + 1) 0 = pc + 1) (hd : decode cc pc = .ok (.iastore, 1)) (hso : ce_so t = 1) : ce_Ok l cc own nL rt d MC MS pcs i (o_ist t) := by
  intro nn ls st S k res h hk p e s m args below meth c D ca b0 ad0 S0 ad H locs rls hC h61 hX hR hT h1 h2
  obtain ⟨hx, hb, hml, hown, ⟨w0, hts⟩, hr, hlk, hG⟩ := id hC
  unfold o_ist at h
  split at h
  · rename_i x j q r
    by_cases hq : q.1 = t
    · rw [if_pos hq] at h
      by_cases hj : j < 0 ∨ ce_len S t q.2 ≤ j.toNatClampNeg
      · rw [if_pos hj] at h; cases h
      · rw [if_neg hj] at h
        rw [hp]
        have hv : q.2 < ce_C S t := by have := ce_okT_hd (ce_okT_tl (ce_okT_tl hT)); rw [← hq]; exact this
        obtain ⟨⟨-, ho, -⟩, hb0, -⟩ := hR.1.1 t q.2 hv (by rw [hso]; decide)
        have hq2 : ce_val ad (.inr (.inl q)) = .ref (ad t q.2) := by rw [← hq]; rfl
        rw [List.map_cons, List.map_cons, List.map_cons, hq2]
        refine W.iast hx hb (ho hso) ((hG.1.2 0 _ rfl).1 _ (fun j => .int (ce_A S t q.2 j))) (fun q => by cases q) (by show ¬ (j < 0 ∨ (arrV _ _ _).slots.size ≤ _); rw [arrV_size]; exact hj) rfl rfl hd (fun H1 e1 e2 e3 => ?_)
        have hc : H1[ad t q.2]? = some (vp_cell (ca 0) (ce_len S t q.2, .inl (fun e => ce_A (ce_sA S t q.2 j.toNatClampNeg x) t q.2 e))) := by
          rw [e1, vp_cell_i, vp_cell_i, arrV_store]
          congr 2
          funext z
          unfold updV
          by_cases hz : z = j.toNatClampNeg
          · subst hz
            rw [if_pos rfl]
            exact congrArg Value.int (ce_u_eq S.2.2.1 t q.2 _ x).symm
          · rw [if_neg hz]
            exact congrArg Value.int (ce_u_ne S.2.2.1 x (fun y => hz y.2.2)).symm
        have w := hk _ _ _ _ _ h p e s m args below meth c D ca b0 ad0 S0 ad H1 _ rls hC h61 hX ⟨hR.1.putA hv hso hc e2 e3 rfl rfl rfl (fun t' i' hne e => ce_u_ne S.2.2.1 x (fun y => hne ⟨y.1, y.2.1⟩)), ce_S_put (lc := ⟨ad t q.2, j.toNatClampNeg⟩) hR.2.1 e2 e3 hb0 rfl, hR.2.2.1, ce_okS_sA hR.2.2.2.1, ce_okL_kept (fun _ => rfl) hR.2.2.2.2.1, ce_ag_kept (fun _ => rfl) hR.2.2.2.2.2⟩ (ce_okT_kept (fun _ => rfl) (ce_okT_tl (ce_okT_tl (ce_okT_tl hT)))) h1 h2
        rw [hp'] at w
        exact w
    · rw [if_neg hq] at h; cases h
  · cases h
theorem ok_alen {t : Nat} (hp : pcs.getD i 0 = pc) (hp' : pcs.getD (i + 1) 0 = pc + 1) (hd : decode cc pc = .ok (.arraylength, 1)) (hso : ce_so t = 1 ∨ ce_so t = 2 ∧ ce_ac t < 6) : ce_Ok l cc own nL rt d MC MS pcs i (o_alen t) := by
  intro nn ls st S k res h hk p e s m args below meth c D ca b0 ad0 S0 ad H locs rls hC h61 hX hR hT h1 h2
  obtain ⟨hx, hb, hml, hown, ⟨w0, hts⟩, hr, hlk, hG⟩ := id hC
  unfold o_alen at h
  split at h
  · rename_i q r
    by_cases hq : q.1 = t
    · rw [if_pos hq] at h
      have w := hk _ _ _ _ _ h p e s m args below meth c D ca b0 ad0 S0 ad H locs rls hC h61 hX hR (ce_okT_cons trivial (ce_okT_tl hT)) h1 h2
      rw [hp'] at w
      rw [hp]
      have hv : q.2 < ce_C S t := by have := ce_okT_hd hT; rw [← hq]; exact this
      have hq2 : ce_val ad (.inr (.inl q)) = .ref (ad t q.2) := by rw [← hq]; rfl
      rw [List.map_cons, hq2]
      rcases hso with hso | ⟨hso, hac⟩
      · obtain ⟨⟨-, ho, -⟩, -, -⟩ := hR.1.1 t q.2 hv (by rw [hso]; decide)
        exact va_alen (D := D) (cl := vwCl) (ws := [(ad t q.2, .inl (ca 0, ce_len S t q.2, .inl (fun e => ce_A S t q.2 e)))]) hx hb hG.1 (ce_P1 (ho hso)) 0 0 rfl rfl rfl hd w
      · obtain ⟨⟨-, -, ho⟩, -, -⟩ := hR.1.1 t q.2 hv (by rw [hso]; decide)
        have hty : ∃ ty, (ce_tys ca)[ce_ac t]? = some (ca (ce_ac t), ty) := by
          generalize ce_ac t = z at hac
          match z, hac with
          | 0, _ => exact ⟨_, rfl⟩
          | 1, _ => exact ⟨_, rfl⟩
          | 2, _ => exact ⟨_, rfl⟩
          | 3, _ => exact ⟨_, rfl⟩
          | 4, _ => exact ⟨_, rfl⟩
          | 5, _ => exact ⟨_, rfl⟩
          | n + 6, h => omega
        obtain ⟨ty, hty⟩ := hty
        exact va_alen (D := D) (cl := vwCl) (ws := [(ad t q.2, .inl (ca (ce_ac t), ce_len S t q.2, .inr (.inr (.inr (.inr (fun e => (ce_el S t e).map (ad (ce_et t))))))))]) hx hb hG.1 (ce_P1 (ho hso)) 0 (ce_ac t) rfl hty rfl hd w
    · rw [if_neg hq] at h; cases h
  · cases h
theorem ok_ald {t t' : Nat} {g : Nat → Nat} {ty : FieldType} (hp : pcs.getD i 0 = pc) (hp' : pcs.getD (i + 1) 0 = pc + 1) (hd : decode cc pc = .ok (.aaload, 1)) (hso : ce_so t = 2) (heg : ce_eg t = some g) (het : ce_et t = t') (hty : ∀ ca : Nat → ClassId, (ce_tys ca)[ce_ac t]? = some (ca (ce_ac t), ty)) (href : ty.isReference = true) : ce_Ok l cc own nL rt d MC MS pcs i (o_ald t t' g) := by
  intro nn ls st S k res h hk p e s m args below meth c D ca b0 ad0 S0 ad H locs rls hC h61 hX hR hT h1 h2
  obtain ⟨hx, hb, hml, hown, ⟨w0, hts⟩, hr, hlk, hG⟩ := id hC
  unfold o_ald at h
  split at h
  · rename_i j q r
    by_cases hq : q.1 = t
    · rw [if_pos hq] at h
      by_cases hj : j < 0 ∨ ce_len S t q.2 ≤ j.toNatClampNeg
      · rw [if_pos hj] at h; cases h
      · rw [if_neg hj] at h
        have hv : q.2 < ce_C S t := by have := ce_okT_hd (ce_okT_tl hT); rw [← hq]; exact this
        have hlt : j.toNatClampNeg < ce_len S t q.2 := Nat.not_le.mp fun q => hj (Or.inr q)
        have hel : ce_el S t j.toNatClampNeg = some (g j.toNatClampNeg) := by unfold ce_el; rw [heg]
        have w := hk _ _ _ _ _ h p e s m args below meth c D ca b0 ad0 S0 ad H locs rls hC h61 hX hR (ce_okT_cons (by show _ < ce_C S t'; rw [← het]; exact hR.2.2.2.1.2 t q.2 _ _ hv hso hlt hel) (ce_okT_tl (ce_okT_tl hT))) h1 h2
        rw [hp'] at w
        rw [hp]
        obtain ⟨⟨-, -, ho⟩, -, -⟩ := hR.1.1 t q.2 hv (by rw [hso]; decide)
        have hq2 : ce_val ad (.inr (.inl q)) = .ref (ad t q.2) := by rw [← hq]; rfl
        rw [List.map_cons, List.map_cons, hq2]
        exact W.aald (v := .ref (ad t' (g j.toNatClampNeg))) (ty := ty) hx hb (ho hso) ((hG.1.2 (ce_ac t) _ (hty ca)).1 _ (fun e => va_rf ((ce_el S t e).map (ad (ce_et t))))) href (fun q => by cases q) (by show ¬ (j < 0 ∨ (arrV _ _ _).slots.size ≤ _); rw [arrV_size]; exact hj) (by show (arrV _ _ _).slots[_]? = _; rw [arrV_read _ _ hlt]; show some (va_rf (Option.map (ad (ce_et t)) (ce_el S t j.toNatClampNeg))) = _; rw [hel, het]; rfl) rfl rfl hd w
    · rw [if_neg hq] at h; cases h
  · cases h
theorem ok_aldQ (hp : pcs.getD i 0 = pc) (hp' : pcs.getD (i + 1) 0 = pc + 1) (hd : decode cc pc = .ok (.aaload, 1)) : ce_Ok l cc own nL rt d MC MS pcs i o_aldQ := by
  intro nn ls st S k res h hk p e s m args below meth c D ca b0 ad0 S0 ad H locs rls hC h61 hX hR hT h1 h2
  obtain ⟨hx, hb, hml, hown, ⟨w0, hts⟩, hr, hlk, hG⟩ := id hC
  unfold o_aldQ at h
  split at h
  · rename_i j q r
    by_cases hq : q.1 = 5
    · rw [if_pos hq] at h
      by_cases hj : j < 0 ∨ 6 ≤ j.toNatClampNeg
      · rw [if_pos hj] at h; cases h
      · rw [if_neg hj] at h
        cases hQ : ce_Q S j.toNatClampNeg with
        | none => rw [hQ] at h; cases h
        | some x =>
          rw [hQ] at h
          have hv : q.2 < ce_C S 5 := by have := ce_okT_hd (ce_okT_tl hT); rw [← hq]; exact this
          have hlt : j.toNatClampNeg < ce_len S 5 q.2 := Nat.not_le.mp fun q => hj (Or.inr q)
          have hel : ce_el S 5 j.toNatClampNeg = some x := hQ
          have w := hk _ _ _ _ _ h p e s m args below meth c D ca b0 ad0 S0 ad H locs rls hC h61 hX hR (ce_okT_cons (hR.2.2.2.1.2 5 q.2 _ _ hv rfl hlt hel) (ce_okT_tl (ce_okT_tl hT))) h1 h2
          rw [hp'] at w
          rw [hp]
          obtain ⟨⟨-, -, ho⟩, -, -⟩ := hR.1.1 5 q.2 hv (by decide)
          have hq2 : ce_val ad (.inr (.inl q)) = .ref (ad 5 q.2) := by rw [← hq]; rfl
          rw [List.map_cons, List.map_cons, hq2]
          exact W.aald (v := .ref (ad 13 x)) (ty := .object RX10) hx hb (ho rfl) ((hG.1.2 3 _ rfl).1 _ (fun e => va_rf ((ce_el S 5 e).map (ad (ce_et 5))))) rfl (fun q => by cases q) (by show ¬ (j < 0 ∨ (arrV _ _ _).slots.size ≤ _); rw [arrV_size]; exact hj) (by show (arrV _ _ _).slots[_]? = _; rw [arrV_read _ _ hlt]; show some (va_rf (Option.map (ad (ce_et 5)) (ce_el S 5 j.toNatClampNeg))) = _; rw [hel]; rfl) rfl rfl hd w
    · rw [if_neg hq] at h; cases h
  · cases h
theorem ok_mmax {ix p1 p2 p3 p4 : Nat} (hp : pcs.getD i 0 = pc) (hp' : pcs.getD (i + 1) 0 = pc + 3) (hd : decode cc pc = .ok (.invokestatic ix, 3)) (hD : 1 ≤ d) (g1 : lw_tbl[p1]? = some (Cond.methodLink own ix Lib.Math.max.name)) (g2 : lw_tbl[p2]? = some (Cond.static Lib.Math.max.name)) (g3 : lw_tbl[p3]? = some (Cond.initialized "java/lang/Math")) (g4 : lw_tbl[p4]? = some (Cond.code Lib.Math.max.name Lib.Math.max.code 2 (some .int))) : ce_Ok l cc own nL rt d MC MS pcs i o_mmax := by
  intro nn ls st S k res h hk p e s m args below meth c D ca b0 ad0 S0 ad H locs rls hC h61 hX hR hT h1 h2
  obtain ⟨hx, hb, hml, hown, ⟨w0, hts⟩, hr, hlk, hG⟩ := id hC
  unfold o_mmax at h
  split at h
  · rename_i y x r
    by_cases hl : r.length ≤ 4
    · rw [if_pos hl] at h
      have w := hk _ _ _ _ _ h p e s m args below meth c D ca b0 ad0 S0 ad H locs rls hC h61 hX hR (ce_okT_cons trivial (ce_okT_tl (ce_okT_tl hT))) h1 h2
      rw [hp'] at w
      rw [hp]
      have h8 := ce_cat8 (ad := ad) hl
      exact va_mmax hx hb (hml.trans hR.2.2.1.1.symm) hown (ce_wIn hts g1 rfl) (ce_wIn hts g2 rfl) (ce_wIn hts g3 rfl) (ce_wIn hts g4 rfl) hD (by show _ ≤ 60 * d; omega) h1 h2 hd w
    · rw [if_neg hl] at h; cases h
  · cases h
theorem ok_mmin {ix p1 p2 p3 p4 : Nat} (hp : pcs.getD i 0 = pc) (hp' : pcs.getD (i + 1) 0 = pc + 3) (hd : decode cc pc = .ok (.invokestatic ix, 3)) (hD : 1 ≤ d) (g1 : lw_tbl[p1]? = some (Cond.methodLink own ix Lib.Math.min.name)) (g2 : lw_tbl[p2]? = some (Cond.static Lib.Math.min.name)) (g3 : lw_tbl[p3]? = some (Cond.initialized "java/lang/Math")) (g4 : lw_tbl[p4]? = some (Cond.code Lib.Math.min.name Lib.Math.min.code 2 (some .int))) : ce_Ok l cc own nL rt d MC MS pcs i o_mmin := by
  intro nn ls st S k res h hk p e s m args below meth c D ca b0 ad0 S0 ad H locs rls hC h61 hX hR hT h1 h2
  obtain ⟨hx, hb, hml, hown, ⟨w0, hts⟩, hr, hlk, hG⟩ := id hC
  unfold o_mmin at h
  split at h
  · rename_i y x r
    by_cases hl : r.length ≤ 4
    · rw [if_pos hl] at h
      have w := hk _ _ _ _ _ h p e s m args below meth c D ca b0 ad0 S0 ad H locs rls hC h61 hX hR (ce_okT_cons trivial (ce_okT_tl (ce_okT_tl hT))) h1 h2
      rw [hp'] at w
      rw [hp]
      have h8 := ce_cat8 (ad := ad) hl
      exact va_mmin hx hb (hml.trans hR.2.2.1.1.symm) hown (ce_wIn hts g1 rfl) (ce_wIn hts g2 rfl) (ce_wIn hts g3 rfl) (ce_wIn hts g4 rfl) hD (by show _ ≤ 60 * d; omega) h1 h2 hd w
    · rw [if_neg hl] at h; cases h
  · cases h
theorem ok_inst {ix wp : Nat} {nm : String} {f : Nat → Int32} (hp : pcs.getD i 0 = pc) (hp' : pcs.getD (i + 1) 0 = pc + 3) (hd : decode cc pc = .ok (.instanceof ix, 3)) (hnm : nm ∈ [RX2, RX8, RX7, RX0, RX1]) (hf : ∀ j, f j = ce_isU nm j) (hw : lw_tbl[wp]? = some (Cond.classLink own ix nm)) : ce_Ok l cc own nL rt d MC MS pcs i (o_inst f) := by
  intro nn ls st S k res h hk p e s m args below meth c D ca b0 ad0 S0 ad H locs rls hC h61 hX hR hT h1 h2
  obtain ⟨hx, hb, hml, hown, ⟨w0, hts⟩, hr, hlk, hG⟩ := id hC
  unfold o_inst at h
  split at h
  · rename_i q r
    by_cases hq : q.1 = 10
    · rw [if_pos hq] at h
      have w := hk _ _ _ _ _ h p e s m args below meth c D ca b0 ad0 S0 ad H locs rls hC h61 hX hR (ce_okT_cons trivial (ce_okT_tl hT)) h1 h2
      rw [hp', hf] at w
      rw [hp]
      have hv : q.2 < ce_C S 10 := by have := ce_okT_hd hT; rw [← hq]; exact this
      obtain ⟨⟨ho, -, -⟩, -, -⟩ := hR.1.1 10 q.2 hv (by decide)
      obtain ⟨r', hr1, cell, c1, c2, c3, c4⟩ := ho rfl
      obtain ⟨T, hT2⟩ := ce_kn_ci q.2
      have hcls := (hG.1.1 _ _ hT2).2
      have hrc : ∃ cell : Cell, H[ad 10 q.2]? = some cell ∧ cell.vm.isStatics = false ∧ s.vm.findClass (ce_kn q.2) = some cell.cls := ⟨cell, c1, by rw [c3]; rfl, by rw [c2]; exact hcls.1⟩
      have hq2 : ce_val ad (.inr (.inl q)) = .ref (ad 10 q.2) := by rw [← hq]; rfl
      rw [List.map_cons, hq2]
      unfold ce_isU at w
      by_cases e1 : ce_kn q.2 = nm
      · rw [if_pos e1] at w
        exact va_instE hx hb hown (ce_wIn hts hw rfl) (by rw [← e1]; exact hrc) hd w
      · rw [if_neg e1] at w
        by_cases e2 : (ce_kn q.2, nm) ∈ ce_castW
        · rw [if_pos e2] at w
          exact va_instY hx hb hown (ce_wIn hts hw rfl) (hG.2.2.1 _ e2) hrc hd w
        · rw [if_neg e2] at w
          rcases hG.2.2.2 _ (ce_kn_in q.2) _ hnm with e3 | e3 | e3
          · exact absurd e3 e1
          · exact absurd e3 e2
          · exact va_instNo hx hb hown (ce_wIn hts hw rfl) e3 hrc hd w
    · rw [if_neg hq] at h; cases h
  · cases h
end CERO
end
section
/-! contracts, and calls by them -/
def ce_Pre (D : va_G) (ca : Nat → ClassId) (b0 : Nat) (ad : Nat → Nat → Nat) (S : ce_S) (U : State) : Prop := ce_G D ca U ∧ ce_X ad b0 U ∧ ce_H D ca b0 ad S U.heap
def ce_Ctr (l : Launch) (y : MethodName) (cc : ByteArray) (nL : Nat) (rt : Option FieldType) (d MC MS : Nat) (F : List ce_V → ce_S → ce_Rs) : Prop :=
  ∀ (D : va_G) (ca : Nat → ClassId) (b0 : Nat) (ad : Nat → Nat → Nat) (S : ce_S) (a : List ce_V) (res : Option ce_V × ce_S), F a S = some res → ce_okS S → ce_okT S a → 13 ≤ ce_C S 61 →
    Met l y (Cond.code y cc nL rt :: ce_tw) (ce_rm d MC MS) (va_Pc (a.map (ce_val ad)) (ce_Pre D ca b0 ad S)) (ce_Po D ca b0 ad S res) MC MS (fun q => b0 ≤ q)
theorem ce_blind {D : va_G} {ca : Nat → ClassId} {b0 : Nat} {ad : Nat → Nat → Nat} {S : ce_S} {av : List Value} : FrameBlind (va_Pc av (ce_Pre D ca b0 ad S)) := by
  intro a U g mk h
  exact ⟨h.1, h.2.1.same rfl, h.2.2.1.same rfl rfl, h.2.2.2⟩
theorem ce_args_lv {ad : Nat → Nat → Nat} {nL : Nat} {a : List ce_V} (hc : ∀ v ∈ a, (ce_val ad v).category = 1) (hn : a.length ≤ nL) : ce_lv ad ((lg_sl (a.map (ce_val ad)) ++ List.replicate (nL - (lg_sl (a.map (ce_val ad))).length) Slot.unset).toArray) nL (a.map some ++ List.replicate (nL - a.length) none) := by
  have hs : ∀ (b : List ce_V), (∀ v ∈ b, (ce_val ad v).category = 1) → lg_sl (b.map (ce_val ad)) = b.map (fun v => Slot.val (ce_val ad v)) := by
    intro b
    induction b with
    | nil => intro _; rfl
    | cons v r ih =>
      intro h
      have h1 := ih (fun w hw => h w (List.mem_cons_of_mem _ hw))
      have h2 := h v List.mem_cons_self
      unfold lg_sl at h1 ⊢
      rw [List.map_cons, List.flatMap_cons, h1, if_neg (by rw [h2]; decide)]
      rfl
  have hl : (lg_sl (a.map (ce_val ad))).length = a.length := by rw [hs a hc, List.length_map]
  obtain ⟨h1, h2, -⟩ := lv_entry (a.map (ce_val ad)) (n := nL) (by rw [hl]; exact hn)
  refine ⟨h1, h2, by simp; omega, fun j v hv => ?_⟩
  have hj : j < a.length := by
    rcases Nat.lt_or_ge j a.length with q | q
    · exact q
    · rw [List.getElem?_append_right (by simpa using q), List.getElem?_replicate] at hv
      split at hv <;> cases hv
  rw [List.getElem?_append_left (by simpa using hj), List.getElem?_map, List.getElem?_eq_getElem hj] at hv
  have hv2 : a[j] = v := by simpa using hv
  subst hv2
  refine ⟨?_, hc _ (List.getElem_mem hj)⟩
  rw [List.getElem?_toArray, List.getElem?_append_left (by rw [hl]; exact hj), hs a hc, List.getElem?_map, List.getElem?_eq_getElem hj]
  rfl
/-- a method's contract, by a run of its steps -/
theorem ce_ctr_of {l : Launch} {y : MethodName} {cc : ByteArray} {nL : Nat} {rt : Option FieldType} {d MC MS : Nat} {pcs : List Nat} {tb : List ce_Op} {F : List ce_V → ce_S → ce_Rs} (hy : plainName y.cls = true) (h0 : pcs.getD 0 0 = 0) (hok : ce_OkL l cc y.cls nL rt d MC MS pcs 0 tb)
    (hF : ∀ (a : List ce_V) (S : ce_S) (res : Option ce_V × ce_S), F a S = some res → a.length ≤ nL ∧ (∀ v ∈ a, ∀ x, v ≠ .inr (.inr x)) ∧ ∃ n, ce_run tb n 0 (0, 0) (a.map some ++ List.replicate (nL - a.length) none) [] S = some res) : ce_Ctr l y cc nL rt d MC MS F := by
  intro D ca b0 ad S a res hf hS hT h61
  obtain ⟨hn, hc, n, hr⟩ := hF a S res hf
  refine Met.ofW (cc := cc) (maxL := nL) (ret := rt) hy rfl ?_
  intro p e s m args below meth c s₁ B hml hv
  obtain ⟨rfl, hG, hX, hH⟩ := hv
  have hts := atoms_spec (ws := Cond.code y cc nL rt :: ce_tw) B.pre
  have hown : s.vm.findClass y.cls = some m.cls := findClass_of_methodNamed B.named
  have hcat : ∀ v ∈ a, (ce_val ad v).category = 1 := by
    intro v hv
    have := hc v hv
    match v, this with
    | .inl x, _ => rfl
    | .inr (.inl q), _ => rfl
    | .inr (.inr x), h => exact absurd rfl (h x)
  rw [lg_entry_eq]
  have w := ce_run_ok hok n 0 (0, 0) _ [] S res hr p e s m _ below meth c D ca b0 ad S ad s.heap [] _ ⟨B.exec, B.bytes, hml, hown, ⟨_, hts⟩, B.returns, B.notSynchronized, hG⟩ h61 hX ⟨hH, va_S.rf, ce_args_lv hcat hn, hS, fun j v hj => ?_, ce_ag.refl⟩ (fun v hv => by cases hv) (Nat.zero_le _) (Nat.zero_le _)
  · rw [h0] at w
    exact w
  · have hjl : j < a.length := by
      rcases Nat.lt_or_ge j a.length with q | q
      · exact q
      · rw [List.getElem?_append_right (by simpa using q), List.getElem?_replicate] at hj
        split at hj <;> cases hj
    rw [List.getElem?_append_left (by simpa using hjl), List.getElem?_map, List.getElem?_eq_getElem hjl] at hj
    have hv2 : a[j] = v := by simpa using hj
    subst hv2
    exact hT _ (List.getElem_mem hjl)
/-- behind a call -/
theorem ce_call {p : Program} {l : Launch} {e : Env} {R : Room} {s : State} {m : MethodId} {args : Array Value} {below : List Frame} {meth : Method} {c : Code} {H : Heap} {locs : List Loc} {cells slots mc ms pc : Nat} {Q : State → Prop} {rls : Array Slot} {rest st0 : List Value} {av : Array Value} {D : va_G} {ca : Nat → ClassId} {b0 : Nat} {ad : Nat → Nat → Nat} {S : ce_S} {res : Option ce_V × ce_S}
    (hr : va_Run p l e R s m args below meth c H locs cells slots mc ms (F0 m pc rls st0) rest (ce_Po D ca b0 ad S res av) (fun q => b0 ≤ q)) (hS : va_S (fun q => b0 ≤ q) s.heap H locs)
    (kk : ∀ (ad' : Nat → Nat → Nat) (H1 : Heap) (locs1 : List Loc), ce_ag S ad res.2 ad' → ce_okS res.2 → (∀ v, res.1 = some v → ce_okV res.2 v) → ce_H D ca b0 ad' res.2 H1 → va_S (fun q => b0 ≤ q) s.heap H1 locs1 → W p l e R s m args below meth c H1 locs1 (cells + mc) (slots + ms) Q (F0 m (pc + 3) rls ((res.1.map (ce_val ad')).toList ++ rest))) : W p l e R s m args below meth c H locs cells slots Q (F0 m pc rls st0) := by
  intro T hT X
  obtain ⟨v, st₀, t, T', L, h0, X', hL, e1, e2, ⟨ad', h1, h2, h3, h4, h5, hz, hk⟩, st⟩ := hr T hT X
  cases h2
  rw [h0] at hz hk
  obtain ⟨t2, a1, b1⟩ := kk ad' T'.heap (locs ++ L) h1 h3 h4 (by rw [e1]; exact h5)
    ⟨Nat.le_trans hS.1 (by rw [e1]; exact hz), fun q g1 g2 => by rw [e1, hk q (Nat.lt_of_lt_of_le g1 hS.1) g2]; exact hS.2.1 q g1 g2, fun q hq => by
      rcases List.mem_append.mp hq with h | h
      · exact hS.2.2 q h
      · exact hL q h⟩ T' rfl X'
  exact ⟨t2, st t2 a1, b1⟩
theorem ce_val_ag {S S' : ce_S} {ad ad' : Nat → Nat → Nat} (h : ce_ag S ad S' ad') {v : ce_V} (hv : ce_okV S v) : ce_val ad' v = ce_val ad v := by
  match v, hv with
  | .inl x, _ => rfl
  | .inr (.inl q), hv => exact congrArg Value.ref (h q.1 q.2 hv).1
  | .inr (.inr x), _ => rfl
theorem ce_okV_ag {S S' : ce_S} {ad ad' : Nat → Nat → Nat} (h : ce_ag S ad S' ad') {v : ce_V} (hv : ce_okV S v) : ce_okV S' v := by
  match v, hv with
  | .inl x, _ => trivial
  | .inr (.inl q), hv => exact (h q.1 q.2 hv).2
  | .inr (.inr x), _ => trivial
theorem ce_map_ag {S S' : ce_S} {ad ad' : Nat → Nat → Nat} (h : ce_ag S ad S' ad') {st : List ce_V} (hv : ce_okT S st) : st.map (ce_val ad') = st.map (ce_val ad) := List.map_congr_left (fun v hq => ce_val_ag h (hv v hq))
theorem ce_lv_ag {S S' : ce_S} {ad ad' : Nat → Nat → Nat} (h : ce_ag S ad S' ad') {rls : Array Slot} {nL : Nat} {ls : List (Option ce_V)} (hl : ce_lv ad rls nL ls) (ho : ce_okL S ls) : ce_lv ad' rls nL ls := ⟨hl.1, hl.2.1, hl.2.2.1, fun j v hj => by rw [ce_val_ag h (ho j v hj)]; exact hl.2.2.2 j v hj⟩
theorem ce_ag.trans {S0 S S' : ce_S} {ad0 ad ad' : Nat → Nat → Nat} (h0 : ce_ag S0 ad0 S ad) (h : ce_ag S ad S' ad') : ce_ag S0 ad0 S' ad' := fun t i hi => by
  obtain ⟨g1, g2⟩ := h0 t i hi
  obtain ⟨k1, k2⟩ := h t i g2
  exact ⟨k1.trans g1, k2⟩
/-- what a calling step does, whatever comes back -/
def ce_isC (op : ce_Op) (n mc ms MC MS : Nat) (F : List ce_V → ce_S → ce_Rs) : Prop := ∀ (i : Nat) (nn : Nat × Nat) (ls : List (Option ce_V)) (st : List ce_V) (S : ce_S) (k : ce_K) (res : Option ce_V × ce_S), op i nn ls st S k = some res →
  nn.1 + mc ≤ MC ∧ nn.2 + ms ≤ MS ∧ (st.drop n).length ≤ 4 ∧ n ≤ st.length ∧ ∃ (r : Option ce_V) (S' : ce_S), F (st.take n).reverse S = some (r, S') ∧ k (i + 1) (nn.1 + mc, nn.2 + ms) ls (r.toList ++ st.drop n) S' = some res
def ce_wV (F : List ce_V → ce_S → Option ce_S) : List ce_V → ce_S → ce_Rs := fun a S => (F a S).bind fun S' => some (none, S')
def ce_wI (F : List ce_V → ce_S → Option (Int32 × ce_S)) : List ce_V → ce_S → ce_Rs := fun a S => (F a S).bind fun q => some (some (.inl q.1), q.2)
def ce_wL (F : List ce_V → ce_S → Option (Int64 × ce_S)) : List ce_V → ce_S → ce_Rs := fun a S => (F a S).bind fun q => some (some (.inr (.inr q.1)), q.2)
def ce_wR (t : Nat) (F : List ce_V → ce_S → Option (Nat × ce_S)) : List ce_V → ce_S → ce_Rs := fun a S => (F a S).bind fun q => some (some (.inr (.inl (t, q.1))), q.2)
theorem is_cv {n mc ms MC MS : Nat} {F : List ce_V → ce_S → Option ce_S} : ce_isC (o_cv n F mc ms MC MS) n mc ms MC MS (ce_wV F) := by
  intro i nn ls st S k res h
  unfold o_cv at h
  by_cases hc : nn.1 + mc ≤ MC ∧ nn.2 + ms ≤ MS ∧ (st.drop n).length ≤ 4 ∧ n ≤ st.length
  · rw [if_pos hc] at h
    refine ⟨hc.1, hc.2.1, hc.2.2.1, hc.2.2.2, ?_⟩
    cases hF : F (st.take n).reverse S with
    | none => rw [hF] at h; cases h
    | some S' => rw [hF] at h; exact ⟨none, S', by unfold ce_wV; rw [hF]; rfl, h⟩
  · rw [if_neg hc] at h; cases h
theorem is_ci {n mc ms MC MS : Nat} {F : List ce_V → ce_S → Option (Int32 × ce_S)} : ce_isC (o_ci n F mc ms MC MS) n mc ms MC MS (ce_wI F) := by
  intro i nn ls st S k res h
  unfold o_ci at h
  by_cases hc : nn.1 + mc ≤ MC ∧ nn.2 + ms ≤ MS ∧ (st.drop n).length ≤ 4 ∧ n ≤ st.length
  · rw [if_pos hc] at h
    refine ⟨hc.1, hc.2.1, hc.2.2.1, hc.2.2.2, ?_⟩
    cases hF : F (st.take n).reverse S with
    | none => rw [hF] at h; cases h
    | some q => rw [hF] at h; exact ⟨some (.inl q.1), q.2, by unfold ce_wI; rw [hF]; rfl, h⟩
  · rw [if_neg hc] at h; cases h
theorem is_cl {n mc ms MC MS : Nat} {F : List ce_V → ce_S → Option (Int64 × ce_S)} : ce_isC (o_cl n F mc ms MC MS) n mc ms MC MS (ce_wL F) := by
  intro i nn ls st S k res h
  unfold o_cl at h
  by_cases hc : nn.1 + mc ≤ MC ∧ nn.2 + ms ≤ MS ∧ (st.drop n).length ≤ 4 ∧ n ≤ st.length
  · rw [if_pos hc] at h
    refine ⟨hc.1, hc.2.1, hc.2.2.1, hc.2.2.2, ?_⟩
    cases hF : F (st.take n).reverse S with
    | none => rw [hF] at h; cases h
    | some q => rw [hF] at h; exact ⟨some (.inr (.inr q.1)), q.2, by unfold ce_wL; rw [hF]; rfl, h⟩
  · rw [if_neg hc] at h; cases h
theorem is_cr {n t mc ms MC MS : Nat} {F : List ce_V → ce_S → Option (Nat × ce_S)} : ce_isC (o_cr n t F mc ms MC MS) n mc ms MC MS (ce_wR t F) := by
  intro i nn ls st S k res h
  unfold o_cr at h
  by_cases hc : nn.1 + mc ≤ MC ∧ nn.2 + ms ≤ MS ∧ (st.drop n).length ≤ 4 ∧ n ≤ st.length
  · rw [if_pos hc] at h
    refine ⟨hc.1, hc.2.1, hc.2.2.1, hc.2.2.2, ?_⟩
    cases hF : F (st.take n).reverse S with
    | none => rw [hF] at h; cases h
    | some q => rw [hF] at h; exact ⟨some (.inr (.inl (t, q.1))), q.2, by unfold ce_wR; rw [hF]; rfl, h⟩
  · rw [if_neg hc] at h; cases h
theorem ce_gIn {w0 : Cond} {y' : MethodName} {cc' : ByteArray} {n' : Nat} {r' : Option FieldType} {ex : List Cond} (h : Cond.code y' cc' n' r' ∈ ce_tw) (he : ∀ w ∈ ex, w ∈ ce_tw) : GoodIn (w0 :: ce_tw) (ex ++ (Cond.code y' cc' n' r' :: ce_tw)) := by
  have g : ∀ w ∈ ce_tw, w ∈ (w0 :: ce_tw) ∧ ((w.onTables && w.keeps) = true ∨ ∃ ty, w = .arrayClass ty) := fun w hw => ⟨List.mem_cons_of_mem _ hw, good_of_word (List.mem_filter.mp hw).2⟩
  intro w hw
  rcases List.mem_append.mp hw with hw | hw
  · exact g w (he w hw)
  · rcases List.mem_cons.mp hw with e | hw
    · subst e; exact g _ h
    · exact g w hw
theorem ce_tw_at {n : Nat} {w : Cond} (h : lw_tbl[n]? = some w) (g : goodWord w = true) : w ∈ ce_tw := ce_tw_in (List.mem_of_getElem? h) g
/-- a callee by its contract; what a call of it needs of the tables, but for how it is named -/
def ce_callee (l : Launch) (y : MethodName) (n d mc ms : Nat) (F : List ce_V → ce_S → ce_Rs) : Prop := ∃ (cc : ByteArray) (nL : Nat) (rt : Option FieldType), ce_Ctr l y cc nL rt d mc ms F ∧ Cond.code y cc nL rt ∈ ce_tw ∧ nL ≤ 41 ∧ y.cls ≠ "java/lang/invoke/MethodHandle" ∧ y.cls ≠ "java/lang/invoke/VarHandle" ∧ (parseMethodDescriptor y.desc).map (fun d => d.parameters.length) = some n
section CEC
variable {l : Launch} {cc : ByteArray} {own : String} {nL : Nat} {rt : Option FieldType} {d MC MS : Nat} {pcs : List Nat} {i pc : Nat}
theorem ok_static {op : ce_Op} {y : MethodName} {n d' mc ms ix p1 p2 p3 : Nat} {F : List ce_V → ce_S → ce_Rs} (hop : ce_isC op n mc ms MC MS F) (hp : pcs.getD i 0 = pc) (hp' : pcs.getD (i + 1) 0 = pc + 3) (hd : decode cc pc = .ok (.invokestatic ix, 3)) (hD : d' < d) (hy : y.cls = own) (hc : ce_callee l y n d' mc ms F) (g1 : lw_tbl[p1]? = some (Cond.methodLink own ix y)) (g2 : lw_tbl[p2]? = some (Cond.static y)) (g3 : lw_tbl[p3]? = some (Cond.initialized own)) : ce_Ok l cc own nL rt d MC MS pcs i op := by
  intro nn ls st S k res h hk p e s m args below meth c D ca b0 ad0 S0 ad H locs rls hC h61 hX hR hT h1 h2
  obtain ⟨hx, hb, hml, hown, ⟨w0, hts⟩, hr, hlk, hG⟩ := id hC
  obtain ⟨a1, a2, a3, a4, r, S', hF, hk2⟩ := hop i nn ls st S k res h
  obtain ⟨cc', nL', rt', hctr, hcode, hnl, hm1, hm2, hlen⟩ := hc
  have hTa : ce_okT S (st.take n).reverse := fun v hv => hT v (List.mem_of_mem_take (List.mem_reverse.mp hv))
  have hTr : ce_okT S (st.drop n) := fun v hv => hT v (List.mem_of_mem_drop hv)
  have hM := hctr D ca b0 ad S _ _ hF hR.2.2.2.1 hTa (Nat.le_trans h61 (Nat.le_of_not_lt fun q => by have := (hR.2.2.2.2.2 61 _ q).2; omega))
  rw [hp]
  have hst : st.map (ce_val ad) = ((st.take n).reverse.map (ce_val ad)).reverse ++ (st.drop n).map (ce_val ad) := by
    rw [← List.map_reverse, List.reverse_reverse, ← List.map_append, List.take_append_drop]
  rw [hst]
  refine ce_call (va_runS (As := (st.take n).reverse.map (ce_val ad)) (rest := (st.drop n).map (ce_val ad)) ⟨hx, hb, hml, hown, hts⟩ hM (cwS n hts (ce_gIn (ex := [.methodLink own ix y, .static y, .initialized own]) hcode (by
      intro w hw
      rcases List.mem_cons.mp hw with e | hw
      · subst e; exact ce_tw_at g1 rfl
      rcases List.mem_cons.mp hw with e | hw
      · subst e; exact ce_tw_at g2 rfl
      rcases List.mem_cons.mp hw with e | hw
      · subst e; exact ce_tw_at g3 rfl
      · cases hw)) rfl rfl rfl ⟨hy, hm1, hm2, hlen⟩ ⟨hD, by show 8 + (nL' + 11) + 60 * d' ≤ 60 * d; omega⟩) ⟨ce_blind, fun U hU hW => ⟨rfl, hG.warm hW, (hX.agree (fun j hj => (hR.2.2.2.2.2 61 j (Nat.lt_of_lt_of_le hj h61)).1)).warm hW (fun q g1 g2 => by rw [hU]; exact hR.2.1.2.1 q g1 g2), by rw [hU]; exact hR.1⟩⟩ rfl (by simp; omega) hR.2.2.1.1 rfl (lv_room (ce_cat8 a3)) hd ⟨a1, a2⟩) hR.2.1 (fun ad' H1 locs1 k1 k2 k3 k4 k5 => ?_)
  have w := hk _ _ _ _ _ hk2 p e s m args below meth c D ca b0 ad0 S0 ad' H1 locs1 rls hC h61 hX ⟨k4, k5, ce_lv_ag k1 hR.2.2.1 hR.2.2.2.2.1, k2, fun j v hj => ce_okV_ag k1 (hR.2.2.2.2.1 j v hj), hR.2.2.2.2.2.trans k1⟩ (fun v hv => by
    rcases List.mem_append.mp hv with q | q
    · exact k3 v (Option.mem_toList.mp q)
    · exact ce_okV_ag k1 (hTr v q)) a1 a2
  rw [hp', List.map_append, ce_map_ag k1 hTr] at w
  have e : (Option.map (ce_val ad') r).toList = r.toList.map (ce_val ad') := by cases r <;> rfl
  show W _ _ _ _ _ _ _ _ _ _ _ _ _ _ _ (F0 m (pc + 3) rls ((Option.map (ce_val ad') r).toList ++ _))
  rw [e]
  exact w
end CEC
end
section
/-! calls on an object: by its own kind, by what it is under, by a nest mate -/
theorem ce_h61 {S0 S : ce_S} {ad0 ad : Nat → Nat → Nat} (h : ce_ag S0 ad0 S ad) (h61 : 13 ≤ ce_C S0 61) : 13 ≤ ce_C S 61 := Nat.le_of_not_lt fun q => by have := (h 61 (ce_C S 61) (by omega)).2; omega
/-- what stays is put together behind any call -/
theorem ce_after {l : Launch} {cc : ByteArray} {own : String} {nL : Nat} {rt : Option FieldType} {d MC MS : Nat} {pcs : List Nat} {i pc n mc ms : Nat} {nn : Nat × Nat} {ls : List (Option ce_V)} {st : List ce_V} {S S' : ce_S} {k : ce_K} {res : Option ce_V × ce_S} {r : Option ce_V} {p : Program} {e : Env} {s : State} {m : MethodId} {args : Array Value} {below : List Frame} {meth : Method} {c : Code} {D : va_G} {ca : Nat → ClassId} {b0 : Nat} {ad0 : Nat → Nat → Nat} {S0 : ce_S} {ad : Nat → Nat → Nat} {H : Heap} {locs : List Loc} {rls : Array Slot} {av : Array Value}
    (hp' : pcs.getD (i + 1) 0 = pc + 3) (hk : ∀ i' nn' ls' st' S', k i' nn' ls' st' S' = some res → ce_Wn l cc own nL rt d MC MS pcs res i' nn' ls' st' S') (hC : ce_Cx p s m args meth c cc own nL rt D ca) (h61 : 13 ≤ ce_C S0 61) (hX : ce_X ad0 b0 s) (hR : ce_Rel D ca b0 ad0 S0 ad s H locs rls nL ls S) (hTr : ce_okT S (st.drop n)) (a1 : nn.1 + mc ≤ MC) (a2 : nn.2 + ms ≤ MS) (hk2 : k (i + 1) (nn.1 + mc, nn.2 + ms) ls (r.toList ++ st.drop n) S' = some res)
    (hr : va_Run p l e (ce_rm d MC MS) s m args below meth c H locs nn.1 nn.2 mc ms (F0 m pc rls (st.map (ce_val ad))) ((st.drop n).map (ce_val ad)) (ce_Po D ca b0 ad S (r, S') av) (fun q => b0 ≤ q)) : W p l e (ce_rm d MC MS) s m args below meth c H locs nn.1 nn.2 (MQ below (ce_Po D ca b0 ad0 S0 res) args s MC MS (fun q => b0 ≤ q)) (F0 m pc rls (st.map (ce_val ad))) := by
  refine ce_call hr hR.2.1 (fun ad' H1 locs1 k1 k2 k3 k4 k5 => ?_)
  have w := hk _ _ _ _ _ hk2 p e s m args below meth c D ca b0 ad0 S0 ad' H1 locs1 rls hC h61 hX ⟨k4, k5, ce_lv_ag k1 hR.2.2.1 hR.2.2.2.2.1, k2, fun j v hj => ce_okV_ag k1 (hR.2.2.2.2.1 j v hj), hR.2.2.2.2.2.trans k1⟩ (fun v hv => by
    rcases List.mem_append.mp hv with q | q
    · exact k3 v (Option.mem_toList.mp q)
    · exact ce_okV_ag k1 (hTr v q)) a1 a2
  rw [hp', List.map_append, ce_map_ag k1 hTr] at w
  have e : (Option.map (ce_val ad') r).toList = r.toList.map (ce_val ad') := by cases r <;> rfl
  show W _ _ _ _ _ _ _ _ _ _ _ _ _ _ _ (F0 m (pc + 3) rls ((Option.map (ce_val ad') r).toList ++ _))
  rw [e]
  exact w
theorem ce_pre {D : va_G} {ca : Nat → ClassId} {b0 : Nat} {ad0 : Nat → Nat → Nat} {S0 : ce_S} {ad : Nat → Nat → Nat} {s : State} {H : Heap} {locs : List Loc} {rls : Array Slot} {nL : Nat} {ls : List (Option ce_V)} {S : ce_S} (hG : ce_G D ca s) (h61 : 13 ≤ ce_C S0 61) (hX : ce_X ad0 b0 s) (hR : ce_Rel D ca b0 ad0 S0 ad s H locs rls nL ls S) : ∀ U : State, U.heap = H → s.WarmedH U.vm → ce_Pre D ca b0 ad S U :=
  fun U hU hW => ⟨hG.warm hW, (hX.agree (fun j hj => (hR.2.2.2.2.2 61 j (Nat.lt_of_lt_of_le hj h61)).1)).warm hW (fun q g1 g2 => by rw [hU]; exact hR.2.1.2.1 q g1 g2), by rw [hU]; exact hR.1⟩
/-- the receiver's cell -/
theorem ce_recv {D : va_G} {ca : Nat → ClassId} {b0 : Nat} {ad : Nat → Nat → Nat} {s : State} {H : Heap} {S : ce_S} {t j : Nat} {C : String} {T : u_T} {N : Nat} (hG : ce_G D ca s) (hH : ce_H D ca b0 ad S H) (hj : j < ce_C S t) (hso : ce_so t = 0) (hc : vwCl[ce_ci t j]? = some (C, T, N)) : ∃ cell : Cell, H[ad t j]? = some cell ∧ cell.vm.isStatics = false ∧ s.vm.findClass C = some cell.cls := by
  obtain ⟨⟨ho, -, -⟩, -, -⟩ := hH.1 t j hj (by rw [hso]; decide)
  obtain ⟨r', hr1, cell, c1, c2, c3, c4⟩ := ho hso
  exact ⟨cell, c1, by rw [c3]; rfl, by rw [c2]; exact (hG.1.1 _ _ hc).2.1⟩
theorem ce_stk {ad : Nat → Nat → Nat} {st : List ce_V} {n : Nat} {v : ce_V} {as : List ce_V} (h : (st.take (n + 1)).reverse = v :: as) : st.map (ce_val ad) = (as.map (ce_val ad)).reverse ++ ce_val ad v :: (st.drop (n + 1)).map (ce_val ad) := by
  have h1 : st.take (n + 1) = as.reverse ++ [v] := by rw [← List.reverse_reverse (st.take (n + 1)), h, List.reverse_cons]
  have h2 : st.map (ce_val ad) = (st.take (n + 1)).map (ce_val ad) ++ (st.drop (n + 1)).map (ce_val ad) := by rw [← List.map_append, List.take_append_drop]
  rw [h2, h1, List.map_append, ← List.map_reverse]
  simp
theorem ce_alen {st : List ce_V} {n : Nat} {v : ce_V} {as : List ce_V} (h : (st.take (n + 1)).reverse = v :: as) (hn : n + 1 ≤ st.length) : as.length = n := by
  have := congrArg List.length h
  simp at this
  omega
section CEVI
variable {l : Launch} {cc : ByteArray} {own : String} {nL : Nat} {rt : Option FieldType} {d MC MS : Nat} {pcs : List Nat} {i pc : Nat}
theorem ok_virtual {op : ce_Op} {y : MethodName} {n d' mc ms ix p1 p2 p3 p4 t : Nat} {T : u_T} {N : Nat} {F : List ce_V → ce_S → ce_Rs} (hop : ce_isC op (n + 1) mc ms MC MS F) (hp : pcs.getD i 0 = pc) (hp' : pcs.getD (i + 1) 0 = pc + 3) (hd : decode cc pc = .ok (.invokevirtual ix, 3)) (hD : d' < d) (hc : ce_callee l y n d' mc ms F) (hso : ce_so t = 0) (hcl : ∀ j, vwCl[ce_ci t j]? = some (y.cls, T, N)) (hrec : ∀ a S res, F a S = some res → ∃ j as, a = .inr (.inl (t, j)) :: as) (g1 : lw_tbl[p1]? = some (Cond.methodLink own ix y)) (g2 : lw_tbl[p2]? = some (Cond.instanceMethod y)) (g3 : lw_tbl[p3]? = some (Cond.selects y.cls y y)) (g4 : lw_tbl[p4]? = some (Cond.initialized y.cls)) : ce_Ok l cc own nL rt d MC MS pcs i op := by
  intro nn ls st S k res h hk p e s m args below meth c D ca b0 ad0 S0 ad H locs rls hC h61 hX hR hT h1 h2
  obtain ⟨hx, hb, hml, hown, ⟨w0, hts⟩, hr, hlk, hG⟩ := id hC
  obtain ⟨a1, a2, a3, a4, r, S', hF, hk2⟩ := hop i nn ls st S k res h
  obtain ⟨cc', nL', rt', hctr, hcode, hnl, hm1, hm2, hlen⟩ := hc
  obtain ⟨j, as, hje⟩ := hrec _ _ _ hF
  have hTa : ce_okT S (st.take (n + 1)).reverse := fun v hv => hT v (List.mem_of_mem_take (List.mem_reverse.mp hv))
  have hTr : ce_okT S (st.drop (n + 1)) := fun v hv => hT v (List.mem_of_mem_drop hv)
  rw [hp]
  rw [hje] at hF hTa
  have hM := hctr D ca b0 ad S _ _ hF hR.2.2.2.1 hTa (ce_h61 hR.2.2.2.2.2 h61)
  have hst := ce_stk (ad := ad) hje
  refine ce_after hp' hk hC h61 hX hR hTr a1 a2 hk2 (va_runV (As := as.map (ce_val ad)) (b := ad t j) ⟨hx, hb, hml, hown, hts⟩ hM (cwV (C := y.cls) n hts (ce_gIn (ex := [.methodLink own ix y, .instanceMethod y, .selects y.cls y y, .initialized y.cls]) hcode (by
      intro w hw
      rcases List.mem_cons.mp hw with e | hw
      · subst e; exact ce_tw_at g1 rfl
      rcases List.mem_cons.mp hw with e | hw
      · subst e; exact ce_tw_at g2 rfl
      rcases List.mem_cons.mp hw with e | hw
      · subst e; exact ce_tw_at g3 rfl
      rcases List.mem_cons.mp hw with e | hw
      · subst e; exact ce_tw_at g4 rfl
      · cases hw)) rfl rfl rfl ⟨rfl, hm1, hm2, hlen⟩ ⟨hD, by show 8 + (nL' + 11) + 60 * d' ≤ 60 * d; omega⟩) ⟨ce_blind, ce_recv hG hR.1 (ce_okT_hd hTa) hso (hcl j), fun U hU hW => ⟨rfl, ce_pre hG h61 hX hR U hU hW⟩⟩ rfl (by rw [List.length_map]; exact ce_alen hje a4) hR.2.2.1.1 hst (lv_room (ce_cat8 a3)) hd ⟨a1, a2⟩)
theorem ok_nest {op : ce_Op} {y : MethodName} {host : String} {n d' mc ms ix p2 p3 : Nat} {F : List ce_V → ce_S → ce_Rs} (hop : ce_isC op n mc ms MC MS F) (hp : pcs.getD i 0 = pc) (hp' : pcs.getD (i + 1) 0 = pc + 3) (hd : decode cc pc = .ok (.invokestatic ix, 3)) (hD : d' < d) (hc : ce_callee l y n d' mc ms F) (g1 : ∀ (D : va_G) (ca : Nat → ClassId) (U : State), ce_G D ca U → va_Nw (Cond.methodLinkNest own ix y host) U) (g2 : lw_tbl[p2]? = some (Cond.static y)) (g3 : lw_tbl[p3]? = some (Cond.initialized y.cls)) : ce_Ok l cc own nL rt d MC MS pcs i op := by
  intro nn ls st S k res h hk p e s m args below meth c D ca b0 ad0 S0 ad H locs rls hC h61 hX hR hT h1 h2
  obtain ⟨hx, hb, hml, hown, ⟨w0, hts⟩, hr, hlk, hG⟩ := id hC
  obtain ⟨a1, a2, a3, a4, r, S', hF, hk2⟩ := hop i nn ls st S k res h
  obtain ⟨cc', nL', rt', hctr, hcode, hnl, hm1, hm2, hlen⟩ := hc
  have hTa : ce_okT S (st.take n).reverse := fun v hv => hT v (List.mem_of_mem_take (List.mem_reverse.mp hv))
  have hTr : ce_okT S (st.drop n) := fun v hv => hT v (List.mem_of_mem_drop hv)
  have hM := hctr D ca b0 ad S _ _ hF hR.2.2.2.1 hTa (ce_h61 hR.2.2.2.2.2 h61)
  rw [hp]
  have hst : st.map (ce_val ad) = ((st.take n).reverse.map (ce_val ad)).reverse ++ (st.drop n).map (ce_val ad) := by
    rw [← List.map_reverse, List.reverse_reverse, ← List.map_append, List.take_append_drop]
  have hgi := ce_gIn (w0 := w0) (ex := []) hcode (by intro w hw; cases hw)
  exact ce_after hp' hk hC h61 hX hR hTr a1 a2 hk2 (va_runSN (As := (st.take n).reverse.map (ce_val ad)) ⟨hx, hb, hml, hown, hts⟩ hM ⟨va_cnB n hts hgi rfl rfl rfl (g1 D ca s hG) (ce_wIn hts g3 rfl) ⟨hm1, hm2, hlen⟩ ⟨hD, by show 8 + (nL' + 11) + 60 * d' ≤ 60 * d; omega⟩, ce_wIn hts g2 rfl, trivial⟩ ⟨ce_blind, fun U hU hW => ⟨rfl, ce_pre hG h61 hX hR U hU hW⟩⟩ rfl (by simp; omega) hR.2.2.1.1 hst (lv_room (ce_cat8 a3)) hd ⟨a1, a2⟩)
/-- a method of the kinds: which one is run goes by the kind -/
theorem ok_kind {op : ce_Op} {x : MethodName} {n d' ix p1 p2 p3 p4 m0 : Nat} {b1 : ByteArray} {r0 : Option FieldType} {F : List ce_V → ce_S → ce_Rs} (hop : ce_isC op (n + 1) 0 0 MC MS F) (hp : pcs.getD i 0 = pc) (hp' : pcs.getD (i + 1) 0 = pc + 3) (hd : decode cc pc = .ok (.invokevirtual ix, 3)) (hD : d' < d) (hrec : ∀ a S res, F a S = some res → ∃ j as, a = .inr (.inl (10, j)) :: as) (hxc : x.cls = RX3) (hlx : (parseMethodDescriptor x.desc).map (fun d => d.parameters.length) = some n)
    (hy : ∀ j, ∃ (y : MethodName) (q1 q2 q3 : Nat) (Fy : List ce_V → ce_S → ce_Rs), ce_callee l y n d' 0 0 Fy ∧ lw_tbl[q1]? = some (Cond.selects (ce_kn j) x y) ∧ lw_tbl[q2]? = some (Cond.instanceMethod y) ∧ lw_tbl[q3]? = some (Cond.initialized y.cls) ∧ ∀ as S, F (.inr (.inl (10, j)) :: as) S = Fy (.inr (.inl (10, j)) :: as) S)
    (g1 : lw_tbl[p1]? = some (Cond.methodLink own ix x)) (g2 : lw_tbl[p2]? = some (Cond.sameMethod RX3 RX3 x.name x.desc)) (g3 : lw_tbl[p3]? = some (Cond.instanceMethod x)) (g4 : lw_tbl[p4]? = some (Cond.code x b1 m0 r0)) : ce_Ok l cc own nL rt d MC MS pcs i op := by
  intro nn ls st S k res h hk p e s m args below meth c D ca b0 ad0 S0 ad H locs rls hC h61 hX hR hT h1 h2
  obtain ⟨hx, hb, hml, hown, ⟨w0, hts⟩, hr, hlk, hG⟩ := id hC
  obtain ⟨a1, a2, a3, a4, r, S', hF, hk2⟩ := hop i nn ls st S k res h
  obtain ⟨j, as, hje⟩ := hrec _ _ _ hF
  obtain ⟨y, q1, q2, q3, Fy, ⟨cc', nL', rt', hctr, hcode, hnl, hm1, hm2, hlen⟩, s1, s2, s3, hFy⟩ := hy j
  have hTa : ce_okT S (st.take (n + 1)).reverse := fun v hv => hT v (List.mem_of_mem_take (List.mem_reverse.mp hv))
  have hTr : ce_okT S (st.drop (n + 1)) := fun v hv => hT v (List.mem_of_mem_drop hv)
  rw [hp]
  rw [hje] at hF hTa
  rw [hFy] at hF
  have hM := hctr D ca b0 ad S _ _ hF hR.2.2.2.1 hTa (ce_h61 hR.2.2.2.2.2 h61)
  have hst := ce_stk (ad := ad) hje
  obtain ⟨T, hT2⟩ := ce_kn_ci j
  have hgi := ce_gIn (w0 := w0) (ex := []) hcode (by intro w hw; cases hw)
  have hxe : (⟨RX3, x.name, x.desc⟩ : MethodName) = x := by rw [← hxc]
  have cw : va_CU (ce_rm d MC MS) s args own (ce_kn j) RX3 ix x y cc' nL' rt' (Cond.code y cc' nL' rt' :: ce_tw) (ce_rm d' 0 0) 0 0 n := by
    refine ⟨⟨rfl, rfl, hD, by show 8 + (nL' + 11) + 60 * d' ≤ 60 * d; omega, pay_in hts hgi, List.mem_cons_self⟩, hts _ (List.mem_cons_of_mem _ hcode), ce_wIn hts s3 rfl, ⟨by decide +kernel, by decide +kernel⟩, fun sig h => ?_, ce_wIn hts g1 rfl, ?_, ?_, ce_wIn hts s1 rfl, ce_wIn hts s2 rfl⟩
    · rw [h] at hlx
      exact (Option.some.inj hlx).symm
    · rw [hxc]; exact ce_wIn hts g2 rfl
    · rw [hxe]; exact va_Decl.of (ce_wIn (P := fun w => w.before args s = true) hts g3 rfl) (ce_wIn (P := fun w => w.before args s = true) hts g4 rfl)
  exact ce_after hp' hk hC h61 hX hR hTr a1 a2 hk2 (va_runU (As := as.map (ce_val ad)) (b := ad 10 j) ⟨hx, hb, hml, hown, hts⟩ hM cw ⟨ce_blind, ce_recv hG hR.1 (ce_okT_hd hTa) rfl hT2, fun U hU hW => ⟨rfl, ce_pre hG h61 hX hR U hU hW⟩⟩ rfl (by rw [List.length_map]; exact ce_alen hje a4) hR.2.2.1.1 hst (lv_room (ce_cat8 a3)) hd ⟨a1, a2⟩)
end CEVI
end
section
/-! super.m(..), where the named one may have it from its own -/
theorem ce_sub {vm : Vm} {a b : ClassId} {k : Class} (h : vm.classes[a]? = some k) (hs : k.super = some b) : vm.isSubclass a b = true := by
  have hlt : a < vm.classes.size := (Array.getElem?_eq_some_iff.mp h).1
  unfold Vm.isSubclass
  obtain ⟨n, hn⟩ : ∃ n, vm.classes.size = n + 1 := ⟨vm.classes.size - 1, (Nat.succ_pred_eq_of_pos (Nat.lt_of_le_of_lt (Nat.zero_le _) hlt)).symm⟩
  rw [hn]
  simp [Vm.isSubclassAux, h, hs]
section CESU
variable {p : Program} {l : Launch} {e : Env} {R : Room} {s : State} {m : MethodId} {args : Array Value} {below : List Frame} {meth : Method} {c : Code} {H : Heap} {locs : List Loc} {cells slots : Nat}
theorem ce_runSU {x y : MethodName} {bytes cc : ByteArray} {maxL nL mc ms n index : Nat} {ret : Option FieldType} {ws : List Cond} {rm : Room} {Pc : Array Value → State → Prop} {Qc : Array Value → State → Outcome → State → Prop} {free : Addr → Prop} {Ts : List Cond} {own C : String} {cC : ClassId} {b : Addr} {As rest : List Value} {g : JFrame}
    (hat : ClassAt s C cC) (S : CallFix p m c cc nL s args Ts own) (hM : Met l y ws rm Pc Qc mc ms free)
    (hback : rm.cells = mc ∧ rm.slots = ms ∧ rm.frames + 1 ≤ R.frames ∧ 8 + (maxL + 11) + rm.locals ≤ R.locals ∧ (∀ w ∈ ws, ∀ (a' : Array Value) (U : State), s.WarmedH U.vm → w.before a' U = true) ∧ Cond.code y bytes maxL ret ∈ ws)
    (hlink : (Cond.methodLink own index x).before args s = true) (hsame : (Cond.sameMethod x.cls y.cls x.name x.desc).before args s = true) (hyx : y = ⟨y.cls, x.name, x.desc⟩) (hsup : (Cond.superclass own x.cls).before args s = true) (hsub : x.cls = y.cls ∨ (Cond.superclass x.cls y.cls).before args s = true)
    (hinst : (Cond.instanceMethod y).before args s = true) (hini : (Cond.initialized y.cls).before args s = true) (hcode : (Cond.code y bytes maxL ret).before args s = true) (hno : x.name ≠ "<init>") (hlen : ∀ sig, parseMethodDescriptor y.desc = some sig → n = sig.parameters.length) (hp : PreV s H C b Pc As)
    (hg : g.method = m) (hn : As.length = n) (hsize : g.locals.size = nL) (hstack : g.stack = As.reverse ++ .ref b :: rest) (hW : 2 * g.monitorRoom + (rest.map fun v => v.category).sum ≤ 8) (hdg : decode cc g.pc = .ok (.invokespecial index, 3)) (hf : cells + mc ≤ R.cells ∧ slots + ms ≤ R.slots) :
    va_Run p l e R s m args below meth c H locs cells slots mc ms g rest (Qc (Value.ref b :: As).toArray) (free) := by
  obtain ⟨hrc, hrs, hfr, hlo, hws, hcw⟩ := hback
  have hK : Back l R p e below s args y 3 8 (PreOf R mc ms Pc) (PostOf Qc mc ms free) := back_of (bytes := bytes) (maxL := maxL) (ret := ret) hM hp.1 hrc hrs hfr hlo hws hcw (fun a' U hW => word_at hW (Or.inl (by first | rfl | simp [Cond.onTables, Cond.keeps, Cond.steady])) hini)
  obtain ⟨hx, hb, hml, ho, -⟩ := S
  obtain ⟨-, ⟨cellB, hcB, hoB, hclB⟩, hPc⟩ := hp
  obtain ⟨hfc, kB, hkB, -⟩ := hat
  cases hfc.symm.trans hclB
  intro T hT X
  obtain ⟨mk, methM, hnamed, hmethM, hstM, habM⟩ := Cond.instanceMethod_spec hinst
  obtain ⟨methM', cM, hmethM', -, -, -, -, -, -, hsigM⟩ := Cond.code_spec hnamed hcode
  cases hmethM.symm.trans hmethM'
  obtain ⟨ps, dk, kp, hps, hdk, hkp, hsuper, -, -, hnid⟩ := Cond.superclass_spec ho hsup
  have hn0 : s.methodNamed? ⟨y.cls, x.name, x.desc⟩ = some mk := by rw [← hyx]; exact hnamed
  have hsubc : s.vm.isSubclass ps mk.cls = true := by
    rcases hsub with e | e
    · have hpm : ps = mk.cls := Option.some.inj (hps.symm.trans (by rw [e]; exact findClass_of_methodNamed hnamed))
      rw [hpm]; simp [Vm.isSubclass, Vm.isSubclassAux]
    · obtain ⟨ps2, dk2, kp2, hps2, hdk2, hkp2, hsuper2, -, -, -⟩ := Cond.superclass_spec hps e
      have hpm : ps2 = mk.cls := Option.some.inj (hps2.symm.trans (findClass_of_methodNamed hnamed))
      rw [← hpm]
      exact ce_sub hdk2 hsuper2
  obtain ⟨vm₁, X₁, hstep₁⟩ := X.invokespecialUp hx ho hlink hsame hn0 hmethM hstM habM hno hdk hnid hps hsuper hsubc (a := b) (cell := cellB) (by rw [hT]; exact hcB)
    (fun z h => by rw [h] at hoB; cases hoB) hkB (g := g) hg (argsL := As) (rest := rest) (hn.trans (hlen _ hsigM)) hstack (by rw [hb]; exact hdg)
  obtain ⟨v, ⟨U', l2, c2, s2⟩, X', ⟨g', mk', t, L, e1, e2, hq, h1, hL, h2, h3⟩, hsteps⟩ := hK m meth c ⟨T.setVm vm₁, locs, cells, slots⟩ { g with stack := rest } (.invokespecial index) mk (Value.ref b :: As).toArray X₁ hg (hsize.trans hml.symm) (by rw [hb]; exact hdg) hW (X₁.named hnamed) ⟨hf.1, hf.2, hPc (T.setVm vm₁) hT X₁.warmed⟩
  dsimp only [Pt.U, Pt.locs, Pt.cells, Pt.slots] at X' e1 e2 h1 h2 h3 hsteps
  subst h1; subst h2; subst h3
  exact ⟨v, (T.setVm vm₁).calling g' mk' (Value.ref b :: As).toArray, t, U', L, hT, X', hL, e1, e2, hq, fun target h => hstep₁ _ (by rw [doInvoke_state]; exact hsteps.trans h)⟩
end CESU
section CESV
variable {l : Launch} {cc : ByteArray} {own : String} {nL : Nat} {rt : Option FieldType} {d MC MS : Nat} {pcs : List Nat} {i pc : Nat}
theorem ok_super {op : ce_Op} {x y : MethodName} {n d' ix p1 p2 p3 p4 p5 : Nat} {F : List ce_V → ce_S → ce_Rs} (hop : ce_isC op (n + 1) 0 0 MC MS F) (hp : pcs.getD i 0 = pc) (hp' : pcs.getD (i + 1) 0 = pc + 3) (hd : decode cc pc = .ok (.invokespecial ix, 3)) (hD : d' < d) (hc : ce_callee l y n d' 0 0 F) (hrec : ∀ a S res, F a S = some res → ∃ j as, a = .inr (.inl (10, j)) :: as) (hyx : y = ⟨y.cls, x.name, x.desc⟩) (hno : x.name ≠ "<init>")
    (g1 : lw_tbl[p1]? = some (Cond.methodLink own ix x)) (g2 : lw_tbl[p2]? = some (Cond.sameMethod x.cls y.cls x.name x.desc)) (g3 : lw_tbl[p3]? = some (Cond.superclass own x.cls)) (g4 : lw_tbl[p4]? = some (Cond.instanceMethod y)) (g5 : lw_tbl[p5]? = some (Cond.initialized y.cls)) (g6 : x.cls = y.cls ∨ ∃ p6 : Nat, lw_tbl[p6]? = some (Cond.superclass x.cls y.cls)) : ce_Ok l cc own nL rt d MC MS pcs i op := by
  intro nn ls st S k res h hk p e s m args below meth c D ca b0 ad0 S0 ad H locs rls hC h61 hX hR hT h1 h2
  obtain ⟨hx, hb, hml, hown, ⟨w0, hts⟩, hr, hlk, hG⟩ := id hC
  obtain ⟨a1, a2, a3, a4, r, S', hF, hk2⟩ := hop i nn ls st S k res h
  obtain ⟨cc', nL', rt', hctr, hcode, hnl, hm1, hm2, hlen⟩ := hc
  obtain ⟨j, as, hje⟩ := hrec _ _ _ hF
  have hTa : ce_okT S (st.take (n + 1)).reverse := fun v hv => hT v (List.mem_of_mem_take (List.mem_reverse.mp hv))
  have hTr : ce_okT S (st.drop (n + 1)) := fun v hv => hT v (List.mem_of_mem_drop hv)
  rw [hp]
  rw [hje] at hF hTa
  have hM := hctr D ca b0 ad S _ _ hF hR.2.2.2.1 hTa (ce_h61 hR.2.2.2.2.2 h61)
  have hst := ce_stk (ad := ad) hje
  obtain ⟨T, hT2⟩ := ce_kn_ci j
  have hgi := ce_gIn (w0 := w0) (ex := []) hcode (by intro w hw; cases hw)
  exact ce_after hp' hk hC h61 hX hR hTr a1 a2 hk2 (ce_runSU (x := x) (As := as.map (ce_val ad)) (b := ad 10 j) (hG.1.1 _ _ hT2).2 ⟨hx, hb, hml, hown, hts⟩ hM ⟨rfl, rfl, hD, by show 8 + (nL' + 11) + 60 * d' ≤ 60 * d; omega, pay_in hts hgi, List.mem_cons_self⟩ (ce_wIn hts g1 rfl) (ce_wIn hts g2 rfl) hyx (ce_wIn hts g3 rfl) (g6.imp id (fun z => by obtain ⟨p6, g6⟩ := z; exact ce_wIn (P := fun w => w.before args s = true) hts g6 rfl)) (ce_wIn hts g4 rfl) (ce_wIn hts g5 rfl) (hts _ (List.mem_cons_of_mem _ hcode)) hno (fun sig h => by rw [h] at hlen; exact (Option.some.inj hlen).symm) ⟨ce_blind, ce_recv hG hR.1 (ce_okT_hd hTa) rfl hT2, fun U hU hW => ⟨rfl, ce_pre hG h61 hX hR U hU hW⟩⟩ rfl (by rw [List.length_map]; exact ce_alen hje a4) hR.2.2.1.1 hst (lv_room (ce_cat8 a3)) hd ⟨a1, a2⟩)
end CESV
end
section
/-! a step ends the method, or goes on at one place -/
def ce_Tail (op : ce_Op) : Prop := ∀ (i : Nat) (nn : Nat × Nat) (ls : List (Option ce_V)) (st : List ce_V) (S : ce_S) (k : ce_K) (res : Option ce_V × ce_S), op i nn ls st S k = some res →
  (∀ k', op i nn ls st S k' = some res) ∨ ∃ (i' : Nat) (nn' : Nat × Nat) (ls' : List (Option ce_V)) (st' : List ce_V) (S' : ce_S), k i' nn' ls' st' S' = some res ∧ ∀ k' : ce_K, k' i' nn' ls' st' S' = some res → op i nn ls st S k' = some res
theorem ce_ta1 {op : ce_Op} {i : Nat} {nn : Nat × Nat} {ls : List (Option ce_V)} {st : List ce_V} {S : ce_S} {k : ce_K} {res : Option ce_V × ce_S} (i' : Nat) (nn' : Nat × Nat) (ls' : List (Option ce_V)) (st' : List ce_V) (S' : ce_S) (e : ∀ k', op i nn ls st S k' = k' i' nn' ls' st' S') (h : op i nn ls st S k = some res) : (∀ k', op i nn ls st S k' = some res) ∨ ∃ (i' : Nat) (nn' : Nat × Nat) (ls' : List (Option ce_V)) (st' : List ce_V) (S' : ce_S), k i' nn' ls' st' S' = some res ∧ ∀ k' : ce_K, k' i' nn' ls' st' S' = some res → op i nn ls st S k' = some res := Or.inr ⟨i', nn', ls', st', S', (e k) ▸ h, fun k' q => (e k').trans q⟩
theorem ce_ta0 {op : ce_Op} {i : Nat} {nn : Nat × Nat} {ls : List (Option ce_V)} {st : List ce_V} {S : ce_S} {k : ce_K} {res : Option ce_V × ce_S} {r : ce_Rs} (e : ∀ k', op i nn ls st S k' = r) (h : op i nn ls st S k = some res) : (∀ k', op i nn ls st S k' = some res) ∨ ∃ (i' : Nat) (nn' : Nat × Nat) (ls' : List (Option ce_V)) (st' : List ce_V) (S' : ce_S), k i' nn' ls' st' S' = some res ∧ ∀ k' : ce_K, k' i' nn' ls' st' S' = some res → op i nn ls st S k' = some res := Or.inl fun k' => (e k').trans ((e k).symm.trans h)
theorem ta_int {v : Int32} : ce_Tail (o_int v) := fun _ _ _ _ _ _ _ h => ce_ta1 _ _ _ _ _ (fun _ => rfl) h
theorem ta_long {v : Int64} : ce_Tail (o_long v) := fun _ _ _ _ _ _ _ h => ce_ta1 _ _ _ _ _ (fun _ => rfl) h
theorem ta_goto {t : Nat} : ce_Tail (o_goto t) := fun _ _ _ _ _ _ _ h => ce_ta1 _ _ _ _ _ (fun _ => rfl) h
theorem ta_istore {j : Nat} : ce_Tail (o_istore j) := by
  intro i nn ls st S k res h
  unfold o_istore at h ⊢
  split at h
  · exact Or.inr ⟨_, _, _, _, _, h, fun k' q => q⟩
  · cases h
theorem ta_astore {j : Nat} : ce_Tail (o_astore j) := by
  intro i nn ls st S k res h
  unfold o_astore at h ⊢
  split at h
  · exact Or.inr ⟨_, _, _, _, _, h, fun k' q => q⟩
  · cases h
theorem ta_bin {f : Int32 → Int32 → Int32} : ce_Tail (o_bin f) := by
  intro i nn ls st S k res h
  unfold o_bin at h ⊢
  split at h
  · exact Or.inr ⟨_, _, _, _, _, h, fun k' q => q⟩
  · cases h
theorem ta_un {f : Int32 → Int32} : ce_Tail (o_un f) := by
  intro i nn ls st S k res h
  unfold o_un at h ⊢
  split at h
  · exact Or.inr ⟨_, _, _, _, _, h, fun k' q => q⟩
  · cases h
theorem ta_i2l : ce_Tail (o_i2l) := by
  intro i nn ls st S k res h
  unfold o_i2l at h ⊢
  split at h
  · exact Or.inr ⟨_, _, _, _, _, h, fun k' q => q⟩
  · cases h
theorem ta_lcmp : ce_Tail (o_lcmp) := by
  intro i nn ls st S k res h
  unfold o_lcmp at h ⊢
  split at h
  · exact Or.inr ⟨_, _, _, _, _, h, fun k' q => q⟩
  · cases h
theorem ta_dup2 : ce_Tail (o_dup2) := by
  intro i nn ls st S k res h
  unfold o_dup2 at h ⊢
  split at h
  · exact Or.inr ⟨_, _, _, _, _, h, fun k' q => q⟩
  · cases h
theorem ta_pop : ce_Tail (o_pop) := by
  intro i nn ls st S k res h
  unfold o_pop at h ⊢
  split at h
  · exact Or.inr ⟨_, _, _, _, _, h, fun k' q => q⟩
  · cases h
theorem ta_iload {j : Nat} : ce_Tail (o_iload j) := by
  intro i nn ls st S k res h
  unfold o_iload at h ⊢
  split at h
  · exact Or.inr ⟨_, _, _, _, _, h, fun k' q => q⟩
  · cases h
theorem ta_aload {j : Nat} : ce_Tail (o_aload j) := by
  intro i nn ls st S k res h
  unfold o_aload at h ⊢
  split at h
  · exact Or.inr ⟨_, _, _, _, _, h, fun k' q => q⟩
  · cases h
theorem ta_iinc {j : Nat} {d : Int32} : ce_Tail (o_iinc j d) := by
  intro i nn ls st S k res h
  unfold o_iinc at h ⊢
  split at h
  · exact Or.inr ⟨_, _, _, _, _, h, fun k' q => q⟩
  · cases h
theorem ta_dup : ce_Tail o_dup := by
  intro i nn ls st S k res h
  unfold o_dup at h ⊢
  split at h
  · exact Or.inr ⟨_, _, _, _, _, h, fun k' q => q⟩
  · exact Or.inr ⟨_, _, _, _, _, h, fun k' q => q⟩
  · cases h
theorem ta_ifeq {t : Nat} : ce_Tail (o_ifeq t) := by
  intro i nn ls st S k res h
  unfold o_ifeq at h ⊢
  split at h
  · split at h
    · rename_i hc
      simp only [if_pos hc]
      first | cases h | exact Or.inr ⟨_, _, _, _, _, h, fun k' q => q⟩
    · rename_i hc
      simp only [if_neg hc]
      first | cases h | exact Or.inr ⟨_, _, _, _, _, h, fun k' q => q⟩
  · cases h
theorem ta_cmpeq {t : Nat} : ce_Tail (o_cmpeq t) := by
  intro i nn ls st S k res h
  unfold o_cmpeq at h ⊢
  split at h
  · split at h
    · rename_i hc
      simp only [if_pos hc]
      first | cases h | exact Or.inr ⟨_, _, _, _, _, h, fun k' q => q⟩
    · rename_i hc
      simp only [if_neg hc]
      first | cases h | exact Or.inr ⟨_, _, _, _, _, h, fun k' q => q⟩
  · cases h
theorem ta_ifne {t : Nat} : ce_Tail (o_ifne t) := by
  intro i nn ls st S k res h
  unfold o_ifne at h ⊢
  split at h
  · split at h
    · rename_i hc
      simp only [if_pos hc]
      first | cases h | exact Or.inr ⟨_, _, _, _, _, h, fun k' q => q⟩
    · rename_i hc
      simp only [if_neg hc]
      first | cases h | exact Or.inr ⟨_, _, _, _, _, h, fun k' q => q⟩
  · cases h
theorem ta_cmpne {t : Nat} : ce_Tail (o_cmpne t) := by
  intro i nn ls st S k res h
  unfold o_cmpne at h ⊢
  split at h
  · split at h
    · rename_i hc
      simp only [if_pos hc]
      first | cases h | exact Or.inr ⟨_, _, _, _, _, h, fun k' q => q⟩
    · rename_i hc
      simp only [if_neg hc]
      first | cases h | exact Or.inr ⟨_, _, _, _, _, h, fun k' q => q⟩
  · cases h
theorem ta_iflt {t : Nat} : ce_Tail (o_iflt t) := by
  intro i nn ls st S k res h
  unfold o_iflt at h ⊢
  split at h
  · split at h
    · rename_i hc
      simp only [if_pos hc]
      first | cases h | exact Or.inr ⟨_, _, _, _, _, h, fun k' q => q⟩
    · rename_i hc
      simp only [if_neg hc]
      first | cases h | exact Or.inr ⟨_, _, _, _, _, h, fun k' q => q⟩
  · cases h
theorem ta_cmplt {t : Nat} : ce_Tail (o_cmplt t) := by
  intro i nn ls st S k res h
  unfold o_cmplt at h ⊢
  split at h
  · split at h
    · rename_i hc
      simp only [if_pos hc]
      first | cases h | exact Or.inr ⟨_, _, _, _, _, h, fun k' q => q⟩
    · rename_i hc
      simp only [if_neg hc]
      first | cases h | exact Or.inr ⟨_, _, _, _, _, h, fun k' q => q⟩
  · cases h
theorem ta_ifge {t : Nat} : ce_Tail (o_ifge t) := by
  intro i nn ls st S k res h
  unfold o_ifge at h ⊢
  split at h
  · split at h
    · rename_i hc
      simp only [if_pos hc]
      first | cases h | exact Or.inr ⟨_, _, _, _, _, h, fun k' q => q⟩
    · rename_i hc
      simp only [if_neg hc]
      first | cases h | exact Or.inr ⟨_, _, _, _, _, h, fun k' q => q⟩
  · cases h
theorem ta_cmpge {t : Nat} : ce_Tail (o_cmpge t) := by
  intro i nn ls st S k res h
  unfold o_cmpge at h ⊢
  split at h
  · split at h
    · rename_i hc
      simp only [if_pos hc]
      first | cases h | exact Or.inr ⟨_, _, _, _, _, h, fun k' q => q⟩
    · rename_i hc
      simp only [if_neg hc]
      first | cases h | exact Or.inr ⟨_, _, _, _, _, h, fun k' q => q⟩
  · cases h
theorem ta_ifgt {t : Nat} : ce_Tail (o_ifgt t) := by
  intro i nn ls st S k res h
  unfold o_ifgt at h ⊢
  split at h
  · split at h
    · rename_i hc
      simp only [if_pos hc]
      first | cases h | exact Or.inr ⟨_, _, _, _, _, h, fun k' q => q⟩
    · rename_i hc
      simp only [if_neg hc]
      first | cases h | exact Or.inr ⟨_, _, _, _, _, h, fun k' q => q⟩
  · cases h
theorem ta_cmpgt {t : Nat} : ce_Tail (o_cmpgt t) := by
  intro i nn ls st S k res h
  unfold o_cmpgt at h ⊢
  split at h
  · split at h
    · rename_i hc
      simp only [if_pos hc]
      first | cases h | exact Or.inr ⟨_, _, _, _, _, h, fun k' q => q⟩
    · rename_i hc
      simp only [if_neg hc]
      first | cases h | exact Or.inr ⟨_, _, _, _, _, h, fun k' q => q⟩
  · cases h
theorem ta_ifle {t : Nat} : ce_Tail (o_ifle t) := by
  intro i nn ls st S k res h
  unfold o_ifle at h ⊢
  split at h
  · split at h
    · rename_i hc
      simp only [if_pos hc]
      first | cases h | exact Or.inr ⟨_, _, _, _, _, h, fun k' q => q⟩
    · rename_i hc
      simp only [if_neg hc]
      first | cases h | exact Or.inr ⟨_, _, _, _, _, h, fun k' q => q⟩
  · cases h
theorem ta_cmple {t : Nat} : ce_Tail (o_cmple t) := by
  intro i nn ls st S k res h
  unfold o_cmple at h ⊢
  split at h
  · split at h
    · rename_i hc
      simp only [if_pos hc]
      first | cases h | exact Or.inr ⟨_, _, _, _, _, h, fun k' q => q⟩
    · rename_i hc
      simp only [if_neg hc]
      first | cases h | exact Or.inr ⟨_, _, _, _, _, h, fun k' q => q⟩
  · cases h
theorem ta_div : ce_Tail (o_div) := by
  intro i nn ls st S k res h
  unfold o_div at h ⊢
  split at h
  · split at h
    · rename_i hc
      simp only [if_pos hc]
      first | cases h | exact Or.inr ⟨_, _, _, _, _, h, fun k' q => q⟩
    · rename_i hc
      simp only [if_neg hc]
      first | cases h | exact Or.inr ⟨_, _, _, _, _, h, fun k' q => q⟩
  · cases h
theorem ta_rem : ce_Tail (o_rem) := by
  intro i nn ls st S k res h
  unfold o_rem at h ⊢
  split at h
  · split at h
    · rename_i hc
      simp only [if_pos hc]
      first | cases h | exact Or.inr ⟨_, _, _, _, _, h, fun k' q => q⟩
    · rename_i hc
      simp only [if_neg hc]
      first | cases h | exact Or.inr ⟨_, _, _, _, _, h, fun k' q => q⟩
  · cases h
theorem ta_getI {t f : Nat} : ce_Tail (o_getI t f) := by
  intro i nn ls st S k res h
  unfold o_getI at h ⊢
  split at h
  · split at h
    · rename_i hc
      simp only [if_pos hc]
      first | cases h | exact Or.inr ⟨_, _, _, _, _, h, fun k' q => q⟩
    · rename_i hc
      simp only [if_neg hc]
      first | cases h | exact Or.inr ⟨_, _, _, _, _, h, fun k' q => q⟩
  · cases h
theorem ta_getS {t t' : Nat} {g : Nat → Nat} : ce_Tail (o_getS t t' g) := by
  intro i nn ls st S k res h
  unfold o_getS at h ⊢
  split at h
  · split at h
    · rename_i hc
      simp only [if_pos hc]
      first | cases h | exact Or.inr ⟨_, _, _, _, _, h, fun k' q => q⟩
    · rename_i hc
      simp only [if_neg hc]
      first | cases h | exact Or.inr ⟨_, _, _, _, _, h, fun k' q => q⟩
  · cases h
theorem ta_getM {t f t' : Nat} : ce_Tail (o_getM t f t') := by
  intro i nn ls st S k res h
  unfold o_getM at h ⊢
  split at h
  · split at h
    · rename_i hc
      simp only [if_pos hc]
      first | cases h | exact Or.inr ⟨_, _, _, _, _, h, fun k' q => q⟩
    · rename_i hc
      simp only [if_neg hc]
      first | cases h | exact Or.inr ⟨_, _, _, _, _, h, fun k' q => q⟩
  · cases h
theorem ta_putI {t f : Nat} : ce_Tail (o_putI t f) := by
  intro i nn ls st S k res h
  unfold o_putI at h ⊢
  split at h
  · split at h
    · rename_i hc
      simp only [if_pos hc]
      first | cases h | exact Or.inr ⟨_, _, _, _, _, h, fun k' q => q⟩
    · rename_i hc
      simp only [if_neg hc]
      first | cases h | exact Or.inr ⟨_, _, _, _, _, h, fun k' q => q⟩
  · cases h
theorem ta_alen {t : Nat} : ce_Tail (o_alen t) := by
  intro i nn ls st S k res h
  unfold o_alen at h ⊢
  split at h
  · split at h
    · rename_i hc
      simp only [if_pos hc]
      first | cases h | exact Or.inr ⟨_, _, _, _, _, h, fun k' q => q⟩
    · rename_i hc
      simp only [if_neg hc]
      first | cases h | exact Or.inr ⟨_, _, _, _, _, h, fun k' q => q⟩
  · cases h
theorem ta_mmax : ce_Tail (o_mmax) := by
  intro i nn ls st S k res h
  unfold o_mmax at h ⊢
  split at h
  · split at h
    · rename_i hc
      simp only [if_pos hc]
      first | cases h | exact Or.inr ⟨_, _, _, _, _, h, fun k' q => q⟩
    · rename_i hc
      simp only [if_neg hc]
      first | cases h | exact Or.inr ⟨_, _, _, _, _, h, fun k' q => q⟩
  · cases h
theorem ta_mmin : ce_Tail (o_mmin) := by
  intro i nn ls st S k res h
  unfold o_mmin at h ⊢
  split at h
  · split at h
    · rename_i hc
      simp only [if_pos hc]
      first | cases h | exact Or.inr ⟨_, _, _, _, _, h, fun k' q => q⟩
    · rename_i hc
      simp only [if_neg hc]
      first | cases h | exact Or.inr ⟨_, _, _, _, _, h, fun k' q => q⟩
  · cases h
theorem ta_inst {f : Nat → Int32} : ce_Tail (o_inst f) := by
  intro i nn ls st S k res h
  unfold o_inst at h ⊢
  split at h
  · split at h
    · rename_i hc
      simp only [if_pos hc]
      first | cases h | exact Or.inr ⟨_, _, _, _, _, h, fun k' q => q⟩
    · rename_i hc
      simp only [if_neg hc]
      first | cases h | exact Or.inr ⟨_, _, _, _, _, h, fun k' q => q⟩
  · cases h
theorem ta_putZ {t f : Nat} : ce_Tail (o_putZ t f) := by
  intro i nn ls st S k res h
  unfold o_putZ at h ⊢
  split at h
  · split at h
    · rename_i hc
      simp only [if_pos hc]
      split at h
      · rename_i hc2
        simp only [if_pos hc2]
        first | cases h | exact Or.inr ⟨_, _, _, _, _, h, fun k' q => q⟩
      · rename_i hc2
        simp only [if_neg hc2]
        first | cases h | exact Or.inr ⟨_, _, _, _, _, h, fun k' q => q⟩
    · cases h
  · cases h
theorem ta_putM {t f t' : Nat} : ce_Tail (o_putM t f t') := by
  intro i nn ls st S k res h
  unfold o_putM at h ⊢
  split at h
  · split at h
    · rename_i hc
      simp only [if_pos hc]
      split at h
      · rename_i hc2
        simp only [if_pos hc2]
        first | cases h | exact Or.inr ⟨_, _, _, _, _, h, fun k' q => q⟩
      · rename_i hc2
        simp only [if_neg hc2]
        first | cases h | exact Or.inr ⟨_, _, _, _, _, h, fun k' q => q⟩
    · cases h
  · cases h
theorem ta_ild {t : Nat} : ce_Tail (o_ild t) := by
  intro i nn ls st S k res h
  unfold o_ild at h ⊢
  split at h
  · split at h
    · rename_i hc
      simp only [if_pos hc]
      split at h
      · rename_i hc2
        simp only [if_pos hc2]
        first | cases h | exact Or.inr ⟨_, _, _, _, _, h, fun k' q => q⟩
      · rename_i hc2
        simp only [if_neg hc2]
        first | cases h | exact Or.inr ⟨_, _, _, _, _, h, fun k' q => q⟩
    · cases h
  · cases h
theorem ta_ist {t : Nat} : ce_Tail (o_ist t) := by
  intro i nn ls st S k res h
  unfold o_ist at h ⊢
  split at h
  · split at h
    · rename_i hc
      simp only [if_pos hc]
      split at h
      · rename_i hc2
        simp only [if_pos hc2]
        first | cases h | exact Or.inr ⟨_, _, _, _, _, h, fun k' q => q⟩
      · rename_i hc2
        simp only [if_neg hc2]
        first | cases h | exact Or.inr ⟨_, _, _, _, _, h, fun k' q => q⟩
    · cases h
  · cases h
theorem ta_ald {t t' : Nat} {g : Nat → Nat} : ce_Tail (o_ald t t' g) := by
  intro i nn ls st S k res h
  unfold o_ald at h ⊢
  split at h
  · split at h
    · rename_i hc
      simp only [if_pos hc]
      split at h
      · rename_i hc2
        simp only [if_pos hc2]
        first | cases h | exact Or.inr ⟨_, _, _, _, _, h, fun k' q => q⟩
      · rename_i hc2
        simp only [if_neg hc2]
        first | cases h | exact Or.inr ⟨_, _, _, _, _, h, fun k' q => q⟩
    · cases h
  · cases h
theorem ta_aldQ : ce_Tail o_aldQ := by
  intro i nn ls st S k res h
  unfold o_aldQ at h ⊢
  split at h
  · rename_i j q r
    split at h
    · rename_i hc
      simp only [if_pos hc]
      split at h
      · cases h
      · rename_i hc2
        simp only [if_neg hc2]
        cases hQ : ce_Q S j.toNatClampNeg with
        | none => rw [hQ] at h; cases h
        | some x => rw [hQ] at h; exact Or.inr ⟨_, _, _, _, _, h, fun k' q => q⟩
    · cases h
  · cases h
theorem ta_cv {n mc ms MC MS : Nat} {F : List ce_V → ce_S → Option ce_S} : ce_Tail (o_cv n F mc ms MC MS) := by
  intro i nn ls st S k res h
  unfold o_cv at h ⊢
  split at h
  · rename_i hc
    simp only [if_pos hc]
    cases hF : F (st.take n).reverse S with
    | none => rw [hF] at h; cases h
    | some q => rw [hF] at h; exact Or.inr ⟨_, _, _, _, _, h, fun k' q => q⟩
  · cases h
theorem ta_ci {n mc ms MC MS : Nat} {F : List ce_V → ce_S → Option (Int32 × ce_S)} : ce_Tail (o_ci n F mc ms MC MS) := by
  intro i nn ls st S k res h
  unfold o_ci at h ⊢
  split at h
  · rename_i hc
    simp only [if_pos hc]
    cases hF : F (st.take n).reverse S with
    | none => rw [hF] at h; cases h
    | some q => rw [hF] at h; exact Or.inr ⟨_, _, _, _, _, h, fun k' q => q⟩
  · cases h
theorem ta_cl {n mc ms MC MS : Nat} {F : List ce_V → ce_S → Option (Int64 × ce_S)} : ce_Tail (o_cl n F mc ms MC MS) := by
  intro i nn ls st S k res h
  unfold o_cl at h ⊢
  split at h
  · rename_i hc
    simp only [if_pos hc]
    cases hF : F (st.take n).reverse S with
    | none => rw [hF] at h; cases h
    | some q => rw [hF] at h; exact Or.inr ⟨_, _, _, _, _, h, fun k' q => q⟩
  · cases h
theorem ta_cr {n t mc ms MC MS : Nat} {F : List ce_V → ce_S → Option (Nat × ce_S)} : ce_Tail (o_cr n t F mc ms MC MS) := by
  intro i nn ls st S k res h
  unfold o_cr at h ⊢
  split at h
  · rename_i hc
    simp only [if_pos hc]
    cases hF : F (st.take n).reverse S with
    | none => rw [hF] at h; cases h
    | some q => rw [hF] at h; exact Or.inr ⟨_, _, _, _, _, h, fun k' q => q⟩
  · cases h
theorem ta_iret : ce_Tail o_iret := fun _ _ _ _ _ _ _ h => ce_ta0 (fun _ => rfl) h
theorem ta_lret : ce_Tail o_lret := fun _ _ _ _ _ _ _ h => ce_ta0 (fun _ => rfl) h
theorem ta_aret : ce_Tail o_aret := fun _ _ _ _ _ _ _ h => ce_ta0 (fun _ => rfl) h
theorem ta_vret : ce_Tail o_vret := fun _ _ _ _ _ _ _ h => ce_ta0 (fun _ => rfl) h
theorem ta_zret : ce_Tail o_zret := fun _ _ _ _ _ _ _ h => ce_ta0 (fun _ => rfl) h
theorem ta_sw {ks : List (Int32 × Nat)} {d : Nat} : ce_Tail (o_sw ks d) := by
  intro i nn ls st S k res h
  unfold o_sw at h ⊢
  split at h
  · rename_i x r
    have key : ∀ (ks : List (Int32 × Nat)), ∃ t, ∀ kk : Nat → ce_Rs, ce_sw x ks d kk = kk t := by
      intro ks
      induction ks with
      | nil => exact ⟨d, fun _ => rfl⟩
      | cons q l ih =>
        by_cases e : x = q.1
        · exact ⟨q.2, fun kk => by unfold ce_sw; rw [if_pos e]⟩
        · obtain ⟨t, ht⟩ := ih
          exact ⟨t, fun kk => by unfold ce_sw; rw [if_neg e]; exact ht kk⟩
    obtain ⟨t, ht⟩ := key ks
    rw [ht] at h
    exact Or.inr ⟨t, nn, ls, r, S, h, fun k' q => (ht _).trans q⟩
  · cases h
def ce_TL : List ce_Op → Prop
  | [] => True
  | o :: r => ce_Tail o ∧ ce_TL r
theorem ce_TL.at : ∀ (tb : List ce_Op), ce_TL tb → ∀ i, ce_Tail (tb.getD i ce_bad) := by
  intro tb
  induction tb with
  | nil => intro _ i _ _ _ _ _ _ _ h; cases h
  | cons o r ih =>
    intro h i
    cases i with
    | zero => exact h.1
    | succ i => exact ih h.2 i
theorem ce_mono {tb : List ce_Op} (hT : ce_TL tb) : ∀ (n : Nat) (i : Nat) (nn : Nat × Nat) (ls : List (Option ce_V)) (st : List ce_V) (S : ce_S) (res : Option ce_V × ce_S), ce_run tb n i nn ls st S = some res → ce_run tb (n + 1) i nn ls st S = some res := by
  intro n
  induction n with
  | zero => intro i nn ls st S res h; cases h
  | succ n ih =>
    intro i nn ls st S res h
    have h : (tb.getD i ce_bad) i nn ls st S (ce_run tb n) = some res := h
    show (tb.getD i ce_bad) i nn ls st S (ce_run tb (n + 1)) = some res
    rcases hT.at tb i i nn ls st S _ res h with q | ⟨i', nn', ls', st', S', h1, h2⟩
    · exact q _
    · exact h2 _ (ih _ _ _ _ _ _ h1)
theorem ce_monoLe {tb : List ce_Op} (hT : ce_TL tb) {n m : Nat} (hnm : n ≤ m) {i : Nat} {nn : Nat × Nat} {ls : List (Option ce_V)} {st : List ce_V} {S : ce_S} {res : Option ce_V × ce_S} (h : ce_run tb n i nn ls st S = some res) : ce_run tb m i nn ls st S = some res := by
  induction m with
  | zero => rw [Nat.le_zero.mp hnm] at h; exact h
  | succ m ih =>
    rcases Nat.lt_or_ge n (m + 1) with q | q
    · exact ce_mono hT m _ _ _ _ _ _ (ih (by omega))
    · rw [show m + 1 = n by omega]; exact h
def ce_Ev (tb : List ce_Op) (i : Nat) (nn : Nat × Nat) (ls : List (Option ce_V)) (st : List ce_V) (S : ce_S) (res : Option ce_V × ce_S) : Prop := ∃ n, ce_run tb n i nn ls st S = some res
theorem ce_Ev.uniq {tb : List ce_Op} (hT : ce_TL tb) {i : Nat} {nn : Nat × Nat} {ls : List (Option ce_V)} {st : List ce_V} {S : ce_S} {r1 r2 : Option ce_V × ce_S} (h1 : ce_Ev tb i nn ls st S r1) (h2 : ce_Ev tb i nn ls st S r2) : r1 = r2 := by
  obtain ⟨n1, h1⟩ := h1
  obtain ⟨n2, h2⟩ := h2
  have a := ce_monoLe hT (Nat.le_max_left n1 n2) h1
  have b := ce_monoLe hT (Nat.le_max_right n1 n2) h2
  exact Option.some.inj (a.symm.trans b)
theorem ce_Ev.step {tb : List ce_Op} (hT : ce_TL tb) {i : Nat} {nn : Nat × Nat} {ls : List (Option ce_V)} {st : List ce_V} {S : ce_S} {k : ce_K} {res : Option ce_V × ce_S} (h : (tb.getD i ce_bad) i nn ls st S k = some res) (hk : ∀ i' nn' ls' st' S', k i' nn' ls' st' S' = some res → ce_Ev tb i' nn' ls' st' S' res) : ce_Ev tb i nn ls st S res := by
  rcases hT.at tb i i nn ls st S _ res h with q | ⟨i', nn', ls', st', S', h1, h2⟩
  · exact ⟨1, q _⟩
  · obtain ⟨n, hn⟩ := hk _ _ _ _ _ h1
    exact ⟨n + 1, h2 _ hn⟩
/-- a stretch: at most K steps, up to a place of 'cut' -/
noncomputable def ce_sg (tb : List ce_Op) (cut : List Nat) (K : Nat) (kk : ce_K) : ce_K := Nat.rec (motive := fun _ => ce_K) (fun _ _ _ _ _ => none) (fun _ ih i nn ls st S => (tb.getD i ce_bad) i nn ls st S (fun i' nn' ls' st' S' => if cut.elem i' = true then kk i' nn' ls' st' S' else ih i' nn' ls' st' S')) K
theorem ce_Ev.sg {tb : List ce_Op} (hT : ce_TL tb) {cut : List Nat} {kk : ce_K} {res : Option ce_V × ce_S} (hk : ∀ i' nn' ls' st' S', kk i' nn' ls' st' S' = some res → ce_Ev tb i' nn' ls' st' S' res) : ∀ (K i : Nat) (nn : Nat × Nat) (ls : List (Option ce_V)) (st : List ce_V) (S : ce_S), ce_sg tb cut K kk i nn ls st S = some res → ce_Ev tb i nn ls st S res := by
  intro K
  induction K with
  | zero => intro i nn ls st S h; cases h
  | succ K ih =>
    intro i nn ls st S h
    refine ce_Ev.step hT (k := fun i' nn' ls' st' S' => if cut.elem i' = true then kk i' nn' ls' st' S' else ce_sg tb cut K kk i' nn' ls' st' S') h (fun i' nn' ls' st' S' h2 => ?_)
    by_cases hc : cut.elem i' = true
    · exact hk _ _ _ _ _ (by simpa only [if_pos hc] using h2)
    · exact ih _ _ _ _ _ (by simpa only [if_neg hc] using h2)
noncomputable def ce_kk (tb : List ce_Op) (res : Option ce_V × ce_S) : ce_K := fun i nn ls st S => (Classical.propDecidable (ce_Ev tb i nn ls st S res)).casesOn (fun _ => none) (fun _ => some res)
theorem ce_kk_of {tb : List ce_Op} {res : Option ce_V × ce_S} {i : Nat} {nn : Nat × Nat} {ls : List (Option ce_V)} {st : List ce_V} {S : ce_S} (h : ce_Ev tb i nn ls st S res) : ce_kk tb res i nn ls st S = some res := by
  unfold ce_kk
  cases Classical.propDecidable (ce_Ev tb i nn ls st S res) with
  | isTrue _ => rfl
  | isFalse q => exact absurd h q
theorem ce_of_kk {tb : List ce_Op} {res : Option ce_V × ce_S} {i : Nat} {nn : Nat × Nat} {ls : List (Option ce_V)} {st : List ce_V} {S : ce_S} (h : ce_kk tb res i nn ls st S = some res) : ce_Ev tb i nn ls st S res := by
  unfold ce_kk at h
  cases hq : Classical.propDecidable (ce_Ev tb i nn ls st S res) with
  | isTrue q => exact q
  | isFalse q => rw [hq] at h; cases h
/-- by a stretch whose meaning is known -/
theorem ce_by {tb : List ce_Op} (hT : ce_TL tb) {cut : List Nat} {K i : Nat} {nn : Nat × Nat} {ls : List (Option ce_V)} {st : List ce_V} {S : ce_S} {E : ce_K → ce_Rs} {res : Option ce_V × ce_S} (hE : ∀ kk, ce_sg tb cut K kk i nn ls st S = E kk) (h : E (ce_kk tb res) = some res) : ce_Ev tb i nn ls st S res := ce_Ev.sg hT (fun _ _ _ _ _ q => ce_of_kk q) K i nn ls st S ((hE _).trans h)
/-! a method's function: what its steps come to -/
def ce_gd (t : Option Nat) (nL : Nat) (a : List ce_V) : Prop := a.length ≤ nL ∧ (∀ v ∈ a, ∀ x, v ≠ .inr (.inr x)) ∧ (∀ t', t = some t' → ∃ j as, a = .inr (.inl (t', j)) :: as)
def ce_ls (nL : Nat) (a : List ce_V) : List (Option ce_V) := a.map some ++ List.replicate (nL - a.length) none
theorem ce_pickOf {α : Type} (P : α → Prop) (c : Prop) : ∃ f : Option α, (∀ x, f = some x → c ∧ P x) ∧ ((c ∧ ∃ x, P x) → ∃ x, f = some x) := by
  rcases Classical.em (c ∧ ∃ x, P x) with ⟨h0, x, h⟩ | h
  · exact ⟨some x, fun y e => by cases e; exact ⟨h0, h⟩, fun _ => ⟨x, rfl⟩⟩
  · exact ⟨none, (fun y e => by cases e), fun q => absurd q h⟩
noncomputable def ce_pick {α : Type} (P : α → Prop) (c : Prop) : Option α := Classical.choose (ce_pickOf P c)
theorem ce_pick_of {α : Type} {P : α → Prop} {c : Prop} {x : α} (h : ce_pick P c = some x) : c ∧ P x := (Classical.choose_spec (ce_pickOf P c)).1 x h
theorem ce_pick_eq {α : Type} {P : α → Prop} {c : Prop} {x : α} (hc : c) (h : P x) (hu : ∀ y, P y → y = x) : ce_pick P c = some x := by
  obtain ⟨y, hy⟩ := (Classical.choose_spec (ce_pickOf P c)).2 ⟨hc, x, h⟩
  have hy : ce_pick P c = some y := hy
  rw [hy, hu y (ce_pick_of hy).2]
noncomputable def ce_fV (tb : List ce_Op) (nL : Nat) (t : Option Nat) : List ce_V → ce_S → Option ce_S := fun a S => ce_pick (fun S' => ce_Ev tb 0 (0, 0) (ce_ls nL a) [] S (none, S')) (ce_gd t nL a)
noncomputable def ce_fI (tb : List ce_Op) (nL : Nat) (t : Option Nat) : List ce_V → ce_S → Option (Int32 × ce_S) := fun a S => ce_pick (fun q => ce_Ev tb 0 (0, 0) (ce_ls nL a) [] S (some (.inl q.1), q.2)) (ce_gd t nL a)
noncomputable def ce_fL (tb : List ce_Op) (nL : Nat) (t : Option Nat) : List ce_V → ce_S → Option (Int64 × ce_S) := fun a S => ce_pick (fun q => ce_Ev tb 0 (0, 0) (ce_ls nL a) [] S (some (.inr (.inr q.1)), q.2)) (ce_gd t nL a)
noncomputable def ce_fR (tb : List ce_Op) (nL : Nat) (t : Option Nat) (rt : Nat) : List ce_V → ce_S → Option (Nat × ce_S) := fun a S => ce_pick (fun q => ce_Ev tb 0 (0, 0) (ce_ls nL a) [] S (some (.inr (.inl (rt, q.1))), q.2)) (ce_gd t nL a)
theorem ce_fV_eq {tb : List ce_Op} {nL : Nat} {t : Option Nat} {a : List ce_V} {S S' : ce_S} (hT : ce_TL tb) (hg : ce_gd t nL a) (h : ce_Ev tb 0 (0, 0) (ce_ls nL a) [] S (none, S')) : ce_fV tb nL t a S = some S' := ce_pick_eq hg h (fun y hy => by have := hy.uniq hT h; simpa using this)
theorem ce_fI_eq {tb : List ce_Op} {nL : Nat} {t : Option Nat} {a : List ce_V} {S S' : ce_S} {x : Int32} (hT : ce_TL tb) (hg : ce_gd t nL a) (h : ce_Ev tb 0 (0, 0) (ce_ls nL a) [] S (some (.inl x), S')) : ce_fI tb nL t a S = some (x, S') := ce_pick_eq hg h (fun y hy => by have := hy.uniq hT h; obtain ⟨y1, y2⟩ := y; cases this; rfl)
theorem ce_fL_eq {tb : List ce_Op} {nL : Nat} {t : Option Nat} {a : List ce_V} {S S' : ce_S} {x : Int64} (hT : ce_TL tb) (hg : ce_gd t nL a) (h : ce_Ev tb 0 (0, 0) (ce_ls nL a) [] S (some (.inr (.inr x)), S')) : ce_fL tb nL t a S = some (x, S') := ce_pick_eq hg h (fun y hy => by have := hy.uniq hT h; obtain ⟨y1, y2⟩ := y; cases this; rfl)
theorem ce_fR_eq {tb : List ce_Op} {nL : Nat} {t : Option Nat} {a : List ce_V} {S S' : ce_S} {rt x : Nat} (hT : ce_TL tb) (hg : ce_gd t nL a) (h : ce_Ev tb 0 (0, 0) (ce_ls nL a) [] S (some (.inr (.inl (rt, x))), S')) : ce_fR tb nL t rt a S = some (x, S') := ce_pick_eq hg h (fun y hy => by have := hy.uniq hT h; obtain ⟨y1, y2⟩ := y; cases this; rfl)
theorem ce_fV_run {tb : List ce_Op} {nL : Nat} {t : Option Nat} : ∀ (a : List ce_V) (S : ce_S) (res : Option ce_V × ce_S), ce_wV (ce_fV tb nL t) a S = some res → a.length ≤ nL ∧ (∀ v ∈ a, ∀ x, v ≠ .inr (.inr x)) ∧ ∃ n, ce_run tb n 0 (0, 0) (a.map some ++ List.replicate (nL - a.length) none) [] S = some res := by
  intro a S res h
  unfold ce_wV at h
  cases hF : ce_fV tb nL t a S with
  | none => rw [hF] at h; cases h
  | some q => rw [hF] at h; cases h; obtain ⟨h1, h2⟩ := ce_pick_of hF; exact ⟨h1.1, h1.2.1, h2⟩
theorem ce_fI_run {tb : List ce_Op} {nL : Nat} {t : Option Nat} : ∀ (a : List ce_V) (S : ce_S) (res : Option ce_V × ce_S), ce_wI (ce_fI tb nL t) a S = some res → a.length ≤ nL ∧ (∀ v ∈ a, ∀ x, v ≠ .inr (.inr x)) ∧ ∃ n, ce_run tb n 0 (0, 0) (a.map some ++ List.replicate (nL - a.length) none) [] S = some res := by
  intro a S res h
  unfold ce_wI at h
  cases hF : ce_fI tb nL t a S with
  | none => rw [hF] at h; cases h
  | some q => rw [hF] at h; cases h; obtain ⟨h1, h2⟩ := ce_pick_of hF; exact ⟨h1.1, h1.2.1, h2⟩
theorem ce_fL_run {tb : List ce_Op} {nL : Nat} {t : Option Nat} : ∀ (a : List ce_V) (S : ce_S) (res : Option ce_V × ce_S), ce_wL (ce_fL tb nL t) a S = some res → a.length ≤ nL ∧ (∀ v ∈ a, ∀ x, v ≠ .inr (.inr x)) ∧ ∃ n, ce_run tb n 0 (0, 0) (a.map some ++ List.replicate (nL - a.length) none) [] S = some res := by
  intro a S res h
  unfold ce_wL at h
  cases hF : ce_fL tb nL t a S with
  | none => rw [hF] at h; cases h
  | some q => rw [hF] at h; cases h; obtain ⟨h1, h2⟩ := ce_pick_of hF; exact ⟨h1.1, h1.2.1, h2⟩
theorem ce_fR_run {tb : List ce_Op} {nL rt : Nat} {t : Option Nat} : ∀ (a : List ce_V) (S : ce_S) (res : Option ce_V × ce_S), ce_wR rt (ce_fR tb nL t rt) a S = some res → a.length ≤ nL ∧ (∀ v ∈ a, ∀ x, v ≠ .inr (.inr x)) ∧ ∃ n, ce_run tb n 0 (0, 0) (a.map some ++ List.replicate (nL - a.length) none) [] S = some res := by
  intro a S res h
  unfold ce_wR at h
  cases hF : ce_fR tb nL t rt a S with
  | none => rw [hF] at h; cases h
  | some q => rw [hF] at h; cases h; obtain ⟨h1, h2⟩ := ce_pick_of hF; exact ⟨h1.1, h1.2.1, h2⟩
theorem ce_fV_rec {tb : List ce_Op} {nL t : Nat} (a : List ce_V) (S : ce_S) (res : Option ce_V × ce_S) (h : ce_wV (ce_fV tb nL (some t)) a S = some res) : ∃ j as, a = .inr (.inl (t, j)) :: as := by
  unfold ce_wV at h
  cases hF : ce_fV tb nL (some t) a S with
  | none => rw [hF] at h; cases h
  | some q => exact (ce_pick_of hF).1.2.2 t rfl
theorem ce_fI_rec {tb : List ce_Op} {nL t : Nat} (a : List ce_V) (S : ce_S) (res : Option ce_V × ce_S) (h : ce_wI (ce_fI tb nL (some t)) a S = some res) : ∃ j as, a = .inr (.inl (t, j)) :: as := by
  unfold ce_wI at h
  cases hF : ce_fI tb nL (some t) a S with
  | none => rw [hF] at h; cases h
  | some q => exact (ce_pick_of hF).1.2.2 t rfl
theorem ce_fL_rec {tb : List ce_Op} {nL t : Nat} (a : List ce_V) (S : ce_S) (res : Option ce_V × ce_S) (h : ce_wL (ce_fL tb nL (some t)) a S = some res) : ∃ j as, a = .inr (.inl (t, j)) :: as := by
  unfold ce_wL at h
  cases hF : ce_fL tb nL (some t) a S with
  | none => rw [hF] at h; cases h
  | some q => exact (ce_pick_of hF).1.2.2 t rfl
theorem ce_fR_rec {tb : List ce_Op} {nL t rt : Nat} (a : List ce_V) (S : ce_S) (res : Option ce_V × ce_S) (h : ce_wR rt (ce_fR tb nL (some t) rt) a S = some res) : ∃ j as, a = .inr (.inl (t, j)) :: as := by
  unfold ce_wR at h
  cases hF : ce_fR tb nL (some t) rt a S with
  | none => rw [hF] at h; cases h
  | some q => exact (ce_pick_of hF).1.2.2 t rfl
end
