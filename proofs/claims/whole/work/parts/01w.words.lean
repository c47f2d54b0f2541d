/-! the tables' words, by their places -/
theorem wd_0 : lw_tbl[0]? = some (Jvm.Cond.selects "CarpetEleven$Tape" ({ cls := "CarpetEleven$Tape", name := "advance", desc := "()V" } : Jvm.MethodName) ({ cls := "CarpetEleven$Tape", name := "advance", desc := "()V" } : Jvm.MethodName)) := by decide +kernel
theorem wd_1 : lw_tbl[1]? = some (Jvm.Cond.selects "CarpetEleven$Tape" ({ cls := "CarpetEleven$Tape", name := "wordToken", desc := "()I" } : Jvm.MethodName) ({ cls := "CarpetEleven$Tape", name := "wordToken", desc := "()I" } : Jvm.MethodName)) := by decide +kernel
theorem wd_2 : lw_tbl[2]? = some (Jvm.Cond.selects "CarpetEleven$Tape" ({ cls := "CarpetEleven$Tape", name := "spells", desc := "(Ljava/lang/String;)Z" } : Jvm.MethodName) ({ cls := "CarpetEleven$Tape", name := "spells", desc := "(Ljava/lang/String;)Z" } : Jvm.MethodName)) := by decide +kernel
theorem wd_3 : lw_tbl[3]? = some (Jvm.Cond.selects "CarpetEleven$Tape" ({ cls := "CarpetEleven$Tape", name := "numberToken", desc := "()I" } : Jvm.MethodName) ({ cls := "CarpetEleven$Tape", name := "numberToken", desc := "()I" } : Jvm.MethodName)) := by decide +kernel
theorem wd_4 : lw_tbl[4]? = some (Jvm.Cond.selects "CarpetEleven$Tape" ({ cls := "CarpetEleven$Tape", name := "part", desc := "(I)V" } : Jvm.MethodName) ({ cls := "CarpetEleven$Tape", name := "part", desc := "(I)V" } : Jvm.MethodName)) := by decide +kernel
theorem wd_5 : lw_tbl[5]? = some (Jvm.Cond.selects "CarpetEleven$Tape" ({ cls := "CarpetEleven$Tape", name := "expect", desc := "(I)V" } : Jvm.MethodName) ({ cls := "CarpetEleven$Tape", name := "expect", desc := "(I)V" } : Jvm.MethodName)) := by decide +kernel
theorem wd_6 : lw_tbl[6]? = some (Jvm.Cond.selects "CarpetEleven$Tape" ({ cls := "CarpetEleven$Tape", name := "fail", desc := "()V" } : Jvm.MethodName) ({ cls := "CarpetEleven$Tape", name := "fail", desc := "()V" } : Jvm.MethodName)) := by decide +kernel
theorem wd_7 : lw_tbl[7]? = some (Jvm.Cond.selects "CarpetEleven$Tape" ({ cls := "CarpetEleven$Tape", name := "either", desc := "(I)V" } : Jvm.MethodName) ({ cls := "CarpetEleven$Tape", name := "either", desc := "(I)V" } : Jvm.MethodName)) := by decide +kernel
theorem wd_8 : lw_tbl[8]? = some (Jvm.Cond.selects "CarpetEleven$Tape" ({ cls := "CarpetEleven$Tape", name := "both", desc := "(I)V" } : Jvm.MethodName) ({ cls := "CarpetEleven$Tape", name := "both", desc := "(I)V" } : Jvm.MethodName)) := by decide +kernel
theorem wd_9 : lw_tbl[9]? = some (Jvm.Cond.selects "CarpetEleven$Tape" ({ cls := "CarpetEleven$Tape", name := "denied", desc := "(I)V" } : Jvm.MethodName) ({ cls := "CarpetEleven$Tape", name := "denied", desc := "(I)V" } : Jvm.MethodName)) := by decide +kernel
theorem wd_10 : lw_tbl[10]? = some (Jvm.Cond.selects "CarpetEleven$Tape" ({ cls := "CarpetEleven$Tape", name := "emit", desc := "(I)V" } : Jvm.MethodName) ({ cls := "CarpetEleven$Tape", name := "emit", desc := "(I)V" } : Jvm.MethodName)) := by decide +kernel
theorem wd_11 : lw_tbl[11]? = some (Jvm.Cond.selects "CarpetEleven$Tape" ({ cls := "CarpetEleven$Tape", name := "sum", desc := "(I)V" } : Jvm.MethodName) ({ cls := "CarpetEleven$Tape", name := "sum", desc := "(I)V" } : Jvm.MethodName)) := by decide +kernel
theorem wd_12 : lw_tbl[12]? = some (Jvm.Cond.selects "CarpetEleven$Tape" ({ cls := "CarpetEleven$Tape", name := "term", desc := "(I)V" } : Jvm.MethodName) ({ cls := "CarpetEleven$Tape", name := "term", desc := "(I)V" } : Jvm.MethodName)) := by decide +kernel
theorem wd_13 : lw_tbl[13]? = some (Jvm.Cond.selects "CarpetEleven$Tape" ({ cls := "CarpetEleven$Tape", name := "one", desc := "(I)V" } : Jvm.MethodName) ({ cls := "CarpetEleven$Tape", name := "one", desc := "(I)V" } : Jvm.MethodName)) := by decide +kernel
theorem wd_14 : lw_tbl[14]? = some (Jvm.Cond.selects "CarpetEleven" ({ cls := "CarpetEleven", name := "comes", desc := "(II)I" } : Jvm.MethodName) ({ cls := "CarpetEleven", name := "comes", desc := "(II)I" } : Jvm.MethodName)) := by decide +kernel
theorem wd_15 : lw_tbl[15]? = some (Jvm.Cond.selects "CarpetEleven" ({ cls := "CarpetEleven", name := "setCost", desc := "(II)I" } : Jvm.MethodName) ({ cls := "CarpetEleven", name := "setCost", desc := "(II)I" } : Jvm.MethodName)) := by decide +kernel
theorem wd_16 : lw_tbl[16]? = some (Jvm.Cond.selects "CarpetEleven" ({ cls := "CarpetEleven", name := "isSeller", desc := "(I)Z" } : Jvm.MethodName) ({ cls := "CarpetEleven", name := "isSeller", desc := "(I)Z" } : Jvm.MethodName)) := by decide +kernel
theorem wd_17 : lw_tbl[17]? = some (Jvm.Cond.selects "CarpetEleven" ({ cls := "CarpetEleven", name := "endByRule", desc := "(III)LCarpetEleven$Seller;" } : Jvm.MethodName) ({ cls := "CarpetEleven", name := "endByRule", desc := "(III)LCarpetEleven$Seller;" } : Jvm.MethodName)) := by decide +kernel
theorem wd_18 : lw_tbl[18]? = some (Jvm.Cond.selects "CarpetEleven" ({ cls := "CarpetEleven", name := "saysSo", desc := "(IILCarpetEleven$Sheet;)Z" } : Jvm.MethodName) ({ cls := "CarpetEleven", name := "saysSo", desc := "(IILCarpetEleven$Sheet;)Z" } : Jvm.MethodName)) := by decide +kernel
theorem wd_19 : lw_tbl[19]? = some (Jvm.Cond.selects "CarpetEleven" ({ cls := "CarpetEleven", name := "crowdHasHope", desc := "()Z" } : Jvm.MethodName) ({ cls := "CarpetEleven", name := "crowdHasHope", desc := "()Z" } : Jvm.MethodName)) := by decide +kernel
theorem wd_20 : lw_tbl[20]? = some (Jvm.Cond.selects "CarpetEleven" ({ cls := "CarpetEleven", name := "crowdSells", desc := "(II)I" } : Jvm.MethodName) ({ cls := "CarpetEleven", name := "crowdSells", desc := "(II)I" } : Jvm.MethodName)) := by decide +kernel
theorem wd_21 : lw_tbl[21]? = some (Jvm.Cond.selects "CarpetEleven" ({ cls := "CarpetEleven", name := "standsBySeed", desc := "(II)I" } : Jvm.MethodName) ({ cls := "CarpetEleven", name := "standsBySeed", desc := "(II)I" } : Jvm.MethodName)) := by decide +kernel
theorem wd_22 : lw_tbl[22]? = some (Jvm.Cond.selects "CarpetEleven" ({ cls := "CarpetEleven", name := "howMany", desc := "(I)I" } : Jvm.MethodName) ({ cls := "CarpetEleven", name := "howMany", desc := "(I)I" } : Jvm.MethodName)) := by decide +kernel
theorem wd_23 : lw_tbl[23]? = some (Jvm.Cond.selects "CarpetElevenModel" ({ cls := "CarpetElevenModel", name := "firstRule", desc := "()V" } : Jvm.MethodName) ({ cls := "CarpetElevenModel", name := "firstRule", desc := "()V" } : Jvm.MethodName)) := by decide +kernel
theorem wd_24 : lw_tbl[24]? = some (Jvm.Cond.selects "CarpetElevenModel" ({ cls := "CarpetElevenModel", name := "writes", desc := "(I)V" } : Jvm.MethodName) ({ cls := "CarpetElevenModel", name := "writes", desc := "(I)V" } : Jvm.MethodName)) := by decide +kernel
theorem wd_25 : lw_tbl[25]? = some (Jvm.Cond.selects "CarpetElevenModel" ({ cls := "CarpetElevenModel", name := "reads", desc := "()V" } : Jvm.MethodName) ({ cls := "CarpetElevenModel", name := "reads", desc := "()V" } : Jvm.MethodName)) := by decide +kernel
theorem wd_26 : lw_tbl[26]? = some (Jvm.Cond.selects "CarpetElevenModel" ({ cls := "CarpetElevenModel", name := "isAt", desc := "(II)Z" } : Jvm.MethodName) ({ cls := "CarpetElevenModel", name := "isAt", desc := "(II)Z" } : Jvm.MethodName)) := by decide +kernel
theorem wd_27 : lw_tbl[27]? = some (Jvm.Cond.selects "CarpetElevenModel" ({ cls := "CarpetElevenModel", name := "isWord", desc := "([I)Z" } : Jvm.MethodName) ({ cls := "CarpetElevenModel", name := "isWord", desc := "([I)Z" } : Jvm.MethodName)) := by decide +kernel
theorem wd_28 : lw_tbl[28]? = some (Jvm.Cond.selects "CarpetElevenModel" ({ cls := "CarpetElevenModel", name := "readsRow", desc := "()Z" } : Jvm.MethodName) ({ cls := "CarpetElevenModel", name := "readsRow", desc := "()Z" } : Jvm.MethodName)) := by decide +kernel
theorem wd_29 : lw_tbl[29]? = some (Jvm.Cond.selects "CarpetElevenModel" ({ cls := "CarpetElevenModel", name := "ahead", desc := "()I" } : Jvm.MethodName) ({ cls := "CarpetElevenModel", name := "ahead", desc := "()I" } : Jvm.MethodName)) := by decide +kernel
theorem wd_30 : lw_tbl[30]? = some (Jvm.Cond.selects "CarpetElevenModel" ({ cls := "CarpetElevenModel", name := "mayNot", desc := "()Z" } : Jvm.MethodName) ({ cls := "CarpetElevenModel", name := "mayNot", desc := "()Z" } : Jvm.MethodName)) := by decide +kernel
theorem wd_31 : lw_tbl[31]? = some (Jvm.Cond.selects "CarpetElevenModel" ({ cls := "CarpetElevenModel", name := "top", desc := "()I" } : Jvm.MethodName) ({ cls := "CarpetElevenModel", name := "top", desc := "()I" } : Jvm.MethodName)) := by decide +kernel
theorem wd_32 : lw_tbl[32]? = some (Jvm.Cond.selects "CarpetElevenModel" ({ cls := "CarpetElevenModel", name := "holds", desc := "(I)V" } : Jvm.MethodName) ({ cls := "CarpetElevenModel", name := "holds", desc := "(I)V" } : Jvm.MethodName)) := by decide +kernel
theorem wd_33 : lw_tbl[33]? = some (Jvm.Cond.selects "CarpetElevenModel" ({ cls := "CarpetElevenModel", name := "behind", desc := "()I" } : Jvm.MethodName) ({ cls := "CarpetElevenModel", name := "behind", desc := "()I" } : Jvm.MethodName)) := by decide +kernel
theorem wd_34 : lw_tbl[34]? = some (Jvm.Cond.selects "CarpetElevenModel" ({ cls := "CarpetElevenModel", name := "letsFrom", desc := "(I)V" } : Jvm.MethodName) ({ cls := "CarpetElevenModel", name := "letsFrom", desc := "(I)V" } : Jvm.MethodName)) := by decide +kernel
theorem wd_35 : lw_tbl[35]? = some (Jvm.Cond.selects "CarpetElevenModel" ({ cls := "CarpetElevenModel", name := "lets", desc := "()V" } : Jvm.MethodName) ({ cls := "CarpetElevenModel", name := "lets", desc := "()V" } : Jvm.MethodName)) := by decide +kernel
theorem wd_36 : lw_tbl[36]? = some (Jvm.Cond.selects "CarpetElevenModel" ({ cls := "CarpetElevenModel", name := "comes", desc := "(II)I" } : Jvm.MethodName) ({ cls := "CarpetElevenModel", name := "comes", desc := "(II)I" } : Jvm.MethodName)) := by decide +kernel
theorem wd_37 : lw_tbl[37]? = some (Jvm.Cond.selects "CarpetElevenModel" ({ cls := "CarpetElevenModel", name := "begins", desc := "(I)V" } : Jvm.MethodName) ({ cls := "CarpetElevenModel", name := "begins", desc := "(I)V" } : Jvm.MethodName)) := by decide +kernel
theorem wd_38 : lw_tbl[38]? = some (Jvm.Cond.selects "CarpetElevenModel" ({ cls := "CarpetElevenModel", name := "says", desc := "(IIII)I" } : Jvm.MethodName) ({ cls := "CarpetElevenModel", name := "says", desc := "(IIII)I" } : Jvm.MethodName)) := by decide +kernel
theorem wd_39 : lw_tbl[39]? = some (Jvm.Cond.selects "CarpetElevenModel" ({ cls := "CarpetElevenModel", name := "named", desc := "(IIII)I" } : Jvm.MethodName) ({ cls := "CarpetElevenModel", name := "named", desc := "(IIII)I" } : Jvm.MethodName)) := by decide +kernel
theorem wd_40 : lw_tbl[40]? = some (Jvm.Cond.selects "CarpetElevenModel" ({ cls := "CarpetElevenModel", name := "leastOf", desc := "(III)I" } : Jvm.MethodName) ({ cls := "CarpetElevenModel", name := "leastOf", desc := "(III)I" } : Jvm.MethodName)) := by decide +kernel
theorem wd_41 : lw_tbl[41]? = some (Jvm.Cond.selects "CarpetElevenModel" ({ cls := "CarpetElevenModel", name := "isSeller", desc := "(I)Z" } : Jvm.MethodName) ({ cls := "CarpetElevenModel", name := "isSeller", desc := "(I)Z" } : Jvm.MethodName)) := by decide +kernel
theorem wd_42 : lw_tbl[42]? = some (Jvm.Cond.selects "CarpetElevenModel" ({ cls := "CarpetElevenModel", name := "staysOf", desc := "(I)I" } : Jvm.MethodName) ({ cls := "CarpetElevenModel", name := "staysOf", desc := "(I)I" } : Jvm.MethodName)) := by decide +kernel
theorem wd_43 : lw_tbl[43]? = some (Jvm.Cond.selects "CarpetElevenModel" ({ cls := "CarpetElevenModel", name := "speaks", desc := "(II)I" } : Jvm.MethodName) ({ cls := "CarpetElevenModel", name := "speaks", desc := "(II)I" } : Jvm.MethodName)) := by decide +kernel
theorem wd_44 : lw_tbl[44]? = some (Jvm.Cond.selects "CarpetElevenModel" ({ cls := "CarpetElevenModel", name := "stepsOf", desc := "(II)I" } : Jvm.MethodName) ({ cls := "CarpetElevenModel", name := "stepsOf", desc := "(II)I" } : Jvm.MethodName)) := by decide +kernel
theorem wd_45 : lw_tbl[45]? = some (Jvm.Cond.selects "CarpetElevenModel" ({ cls := "CarpetElevenModel", name := "doesTake", desc := "(IIII)Z" } : Jvm.MethodName) ({ cls := "CarpetElevenModel", name := "doesTake", desc := "(IIII)Z" } : Jvm.MethodName)) := by decide +kernel
theorem wd_46 : lw_tbl[46]? = some (Jvm.Cond.selects "CarpetElevenModel" ({ cls := "CarpetElevenModel", name := "agrees", desc := "(I)I" } : Jvm.MethodName) ({ cls := "CarpetElevenModel", name := "agrees", desc := "(I)I" } : Jvm.MethodName)) := by decide +kernel
theorem wd_47 : lw_tbl[47]? = some (Jvm.Cond.selects "CarpetElevenModel" ({ cls := "CarpetElevenModel", name := "keeps", desc := "(I)V" } : Jvm.MethodName) ({ cls := "CarpetElevenModel", name := "keeps", desc := "(I)V" } : Jvm.MethodName)) := by decide +kernel
theorem wd_48 : lw_tbl[48]? = some (Jvm.Cond.selects "CarpetElevenModel" ({ cls := "CarpetElevenModel", name := "standing", desc := "(I)I" } : Jvm.MethodName) ({ cls := "CarpetElevenModel", name := "standing", desc := "(I)I" } : Jvm.MethodName)) := by decide +kernel
theorem wd_49 : lw_tbl[49]? = some (Jvm.Cond.selects "CarpetElevenModel" ({ cls := "CarpetElevenModel", name := "putsBack", desc := "(II)V" } : Jvm.MethodName) ({ cls := "CarpetElevenModel", name := "putsBack", desc := "(II)V" } : Jvm.MethodName)) := by decide +kernel
theorem wd_50 : lw_tbl[50]? = some (Jvm.Cond.selects "CarpetElevenModel" ({ cls := "CarpetElevenModel", name := "thinks", desc := "(IIIZ)I" } : Jvm.MethodName) ({ cls := "CarpetElevenModel", name := "thinks", desc := "(IIIZ)I" } : Jvm.MethodName)) := by decide +kernel
theorem wd_51 : lw_tbl[51]? = some (Jvm.Cond.selects "CarpetElevenModel" ({ cls := "CarpetElevenModel", name := "bids", desc := "(IIII)V" } : Jvm.MethodName) ({ cls := "CarpetElevenModel", name := "bids", desc := "(IIII)V" } : Jvm.MethodName)) := by decide +kernel
theorem wd_52 : lw_tbl[52]? = some (Jvm.Cond.selects "CarpetElevenModel" ({ cls := "CarpetElevenModel", name := "isJustSo", desc := "(II)Z" } : Jvm.MethodName) ({ cls := "CarpetElevenModel", name := "isJustSo", desc := "(II)Z" } : Jvm.MethodName)) := by decide +kernel
theorem wd_53 : lw_tbl[53]? = some (Jvm.Cond.selects "CarpetElevenModel" ({ cls := "CarpetElevenModel", name := "goesBuyer", desc := "(III)V" } : Jvm.MethodName) ({ cls := "CarpetElevenModel", name := "goesBuyer", desc := "(III)V" } : Jvm.MethodName)) := by decide +kernel
theorem wd_54 : lw_tbl[54]? = some (Jvm.Cond.selects "CarpetElevenModel" ({ cls := "CarpetElevenModel", name := "drawnBy", desc := "(II)I" } : Jvm.MethodName) ({ cls := "CarpetElevenModel", name := "drawnBy", desc := "(II)I" } : Jvm.MethodName)) := by decide +kernel
theorem wd_55 : lw_tbl[55]? = some (Jvm.Cond.selects "CarpetElevenModel" ({ cls := "CarpetElevenModel", name := "hasCells", desc := "(III)Z" } : Jvm.MethodName) ({ cls := "CarpetElevenModel", name := "hasCells", desc := "(III)Z" } : Jvm.MethodName)) := by decide +kernel
theorem wd_56 : lw_tbl[56]? = some (Jvm.Cond.initialized "CarpetElevenLaw") := by decide +kernel
theorem wd_57 : lw_tbl[57]? = some (Jvm.Cond.initialized "CarpetEleven") := by decide +kernel
theorem wd_58 : lw_tbl[58]? = some (Jvm.Cond.initialized "CarpetEleven$Tape") := by decide +kernel
theorem wd_59 : lw_tbl[59]? = some (Jvm.Cond.initialized "CarpetEleven$Kind") := by decide +kernel
theorem wd_60 : lw_tbl[60]? = some (Jvm.Cond.initialized "CarpetEleven$Halver") := by decide +kernel
theorem wd_61 : lw_tbl[61]? = some (Jvm.Cond.initialized "CarpetEleven$Stiff") := by decide +kernel
theorem wd_62 : lw_tbl[62]? = some (Jvm.Cond.initialized "CarpetEleven$Slip") := by decide +kernel
theorem wd_63 : lw_tbl[63]? = some (Jvm.Cond.initialized "CarpetEleven$Brother") := by decide +kernel
theorem wd_64 : lw_tbl[64]? = some (Jvm.Cond.initialized "CarpetEleven$Eager") := by decide +kernel
theorem wd_65 : lw_tbl[65]? = some (Jvm.Cond.initialized "CarpetEleven$Seller") := by decide +kernel
theorem wd_66 : lw_tbl[66]? = some (Jvm.Cond.initialized "CarpetEleven$Sheet") := by decide +kernel
theorem wd_67 : lw_tbl[67]? = some (Jvm.Cond.initialized "java/lang/String") := by decide +kernel
theorem wd_68 : lw_tbl[68]? = some (Jvm.Cond.initialized "java/lang/StringLatin1") := by decide +kernel
theorem wd_69 : lw_tbl[69]? = some (Jvm.Cond.initialized "jdk/internal/util/Preconditions") := by decide +kernel
theorem wd_70 : lw_tbl[70]? = some (Jvm.Cond.initialized "java/lang/StringUTF16") := by decide +kernel
theorem wd_71 : lw_tbl[71]? = some (Jvm.Cond.initialized "CarpetEleven$Text") := by decide +kernel
theorem wd_72 : lw_tbl[72]? = some (Jvm.Cond.initialized "java/lang/Math") := by decide +kernel
theorem wd_73 : lw_tbl[73]? = some (Jvm.Cond.initialized "java/lang/System") := by decide +kernel
theorem wd_74 : lw_tbl[74]? = some (Jvm.Cond.initialized "CarpetEleven$Scene") := by decide +kernel
theorem wd_75 : lw_tbl[75]? = some (Jvm.Cond.initialized "CarpetElevenModel") := by decide +kernel
theorem wd_76 : lw_tbl[76]? = some (Jvm.Cond.classLink "CarpetElevenLaw" (7 : Nat) "CarpetEleven") := by decide +kernel
theorem wd_77 : lw_tbl[77]? = some (Jvm.Cond.instantiable "CarpetEleven" (14 : Nat)) := by decide +kernel
theorem wd_78 : lw_tbl[78]? = some (Jvm.Cond.methodLink "CarpetElevenLaw" (9 : Nat) ({ cls := "CarpetEleven", name := "<init>", desc := "()V" } : Jvm.MethodName)) := by decide +kernel
theorem wd_79 : lw_tbl[79]? = some (Jvm.Cond.instanceMethod ({ cls := "CarpetEleven", name := "<init>", desc := "()V" } : Jvm.MethodName)) := by decide +kernel
theorem wd_80 : lw_tbl[80]? = some (Jvm.Cond.code ({ cls := "CarpetEleven", name := "<init>", desc := "()V" } : Jvm.MethodName) prog_1_method_1_code (2 : Nat) (Option.none : Option Jvm.ClassFile.FieldType)) := by decide +kernel
theorem wd_81 : lw_tbl[81]? = some (Jvm.Cond.methodLink "CarpetEleven" (1 : Nat) ({ cls := "java/lang/Object", name := "<init>", desc := "()V" } : Jvm.MethodName)) := by decide +kernel
theorem wd_82 : lw_tbl[82]? = some (Jvm.Cond.instanceMethod ({ cls := "java/lang/Object", name := "<init>", desc := "()V" } : Jvm.MethodName)) := by decide +kernel
theorem wd_83 : lw_tbl[83]? = some (Jvm.Cond.code ({ cls := "java/lang/Object", name := "<init>", desc := "()V" } : Jvm.MethodName) object_method_1_code (1 : Nat) (Option.none : Option Jvm.ClassFile.FieldType)) := by decide +kernel
theorem wd_84 : lw_tbl[84]? = some (Jvm.Cond.classLink "CarpetEleven" (9 : Nat) "CarpetEleven$Kind") := by decide +kernel
theorem wd_85 : lw_tbl[85]? = some (Jvm.Cond.arrayOver (Jvm.ClassFile.FieldType.object "CarpetEleven$Kind")) := by decide +kernel
theorem wd_86 : lw_tbl[86]? = some (Jvm.Cond.classLink "CarpetEleven" (15 : Nat) "CarpetEleven$Seller") := by decide +kernel
theorem wd_87 : lw_tbl[87]? = some (Jvm.Cond.arrayOver (Jvm.ClassFile.FieldType.object "CarpetEleven$Seller")) := by decide +kernel
theorem wd_88 : lw_tbl[88]? = some (Jvm.Cond.classLink "CarpetEleven" (21 : Nat) "CarpetEleven$Text") := by decide +kernel
theorem wd_89 : lw_tbl[89]? = some (Jvm.Cond.arrayOver (Jvm.ClassFile.FieldType.object "CarpetEleven$Text")) := by decide +kernel
theorem wd_90 : lw_tbl[90]? = some (Jvm.Cond.classLink "CarpetEleven" (27 : Nat) "CarpetEleven$Tape") := by decide +kernel
theorem wd_91 : lw_tbl[91]? = some (Jvm.Cond.instantiable "CarpetEleven$Tape" (11 : Nat)) := by decide +kernel
theorem wd_92 : lw_tbl[92]? = some (Jvm.Cond.methodLinkNest "CarpetEleven" (29 : Nat) ({ cls := "CarpetEleven$Tape", name := "<init>", desc := "()V" } : Jvm.MethodName) "CarpetEleven") := by decide +kernel
theorem wd_93 : lw_tbl[93]? = some (Jvm.Cond.instanceMethod ({ cls := "CarpetEleven$Tape", name := "<init>", desc := "()V" } : Jvm.MethodName)) := by decide +kernel
theorem wd_94 : lw_tbl[94]? = some (Jvm.Cond.code ({ cls := "CarpetEleven$Tape", name := "<init>", desc := "()V" } : Jvm.MethodName) prog_11_method_1_code (1 : Nat) (Option.none : Option Jvm.ClassFile.FieldType)) := by decide +kernel
theorem wd_95 : lw_tbl[95]? = some (Jvm.Cond.methodLink "CarpetEleven$Tape" (3 : Nat) ({ cls := "java/lang/Object", name := "<init>", desc := "()V" } : Jvm.MethodName)) := by decide +kernel
theorem wd_96 : lw_tbl[96]? = some (Jvm.Cond.fieldLink "CarpetEleven$Tape" (9 : Nat) "CarpetEleven$Tape" "size" "I") := by decide +kernel
theorem wd_97 : lw_tbl[97]? = some (Jvm.Cond.fieldLink "CarpetEleven" (178 : Nat) "CarpetEleven$Tape" "size" "I") := by decide +kernel
theorem wd_98 : lw_tbl[98]? = some (Jvm.Cond.fieldLink "CarpetEleven$Tape" (15 : Nat) "CarpetEleven$Tape" "letters" "[I") := by decide +kernel
theorem wd_99 : lw_tbl[99]? = some (Jvm.Cond.fieldLink "CarpetEleven$Tape" (19 : Nat) "CarpetEleven$Tape" "steps" "[I") := by decide +kernel
theorem wd_100 : lw_tbl[100]? = some (Jvm.Cond.fieldLink "CarpetEleven$Tape" (22 : Nat) "CarpetEleven$Tape" "place" "I") := by decide +kernel
theorem wd_101 : lw_tbl[101]? = some (Jvm.Cond.fieldLink "CarpetEleven$Tape" (25 : Nat) "CarpetEleven$Tape" "token" "I") := by decide +kernel
theorem wd_102 : lw_tbl[102]? = some (Jvm.Cond.fieldLink "CarpetEleven$Tape" (28 : Nat) "CarpetEleven$Tape" "tokenPlace" "I") := by decide +kernel
theorem wd_103 : lw_tbl[103]? = some (Jvm.Cond.fieldLink "CarpetEleven$Tape" (31 : Nat) "CarpetEleven$Tape" "tokenNumber" "I") := by decide +kernel
theorem wd_104 : lw_tbl[104]? = some (Jvm.Cond.fieldLink "CarpetEleven$Tape" (34 : Nat) "CarpetEleven$Tape" "stepCount" "I") := by decide +kernel
theorem wd_105 : lw_tbl[105]? = some (Jvm.Cond.fieldLink "CarpetEleven$Tape" (37 : Nat) "CarpetEleven$Tape" "leastEnd" "I") := by decide +kernel
theorem wd_106 : lw_tbl[106]? = some (Jvm.Cond.fieldLink "CarpetEleven$Tape" (40 : Nat) "CarpetEleven$Tape" "firstEnd" "I") := by decide +kernel
theorem wd_107 : lw_tbl[107]? = some (Jvm.Cond.fieldLink "CarpetEleven$Tape" (43 : Nat) "CarpetEleven$Tape" "fault" "I") := by decide +kernel
theorem wd_108 : lw_tbl[108]? = some (Jvm.Cond.lays "CarpetEleven$Tape" "CarpetEleven$Tape" "size" "I") := by decide +kernel
theorem wd_109 : lw_tbl[109]? = some (Jvm.Cond.soleField "CarpetEleven$Tape" "size") := by decide +kernel
theorem wd_110 : lw_tbl[110]? = some (Jvm.Cond.laysFinal "CarpetEleven$Tape" "CarpetEleven$Tape" "letters" "[I") := by decide +kernel
theorem wd_111 : lw_tbl[111]? = some (Jvm.Cond.soleField "CarpetEleven$Tape" "letters") := by decide +kernel
theorem wd_112 : lw_tbl[112]? = some (Jvm.Cond.laysFinal "CarpetEleven$Tape" "CarpetEleven$Tape" "steps" "[I") := by decide +kernel
theorem wd_113 : lw_tbl[113]? = some (Jvm.Cond.soleField "CarpetEleven$Tape" "steps") := by decide +kernel
theorem wd_114 : lw_tbl[114]? = some (Jvm.Cond.lays "CarpetEleven$Tape" "CarpetEleven$Tape" "place" "I") := by decide +kernel
theorem wd_115 : lw_tbl[115]? = some (Jvm.Cond.soleField "CarpetEleven$Tape" "place") := by decide +kernel
theorem wd_116 : lw_tbl[116]? = some (Jvm.Cond.lays "CarpetEleven$Tape" "CarpetEleven$Tape" "token" "I") := by decide +kernel
theorem wd_117 : lw_tbl[117]? = some (Jvm.Cond.soleField "CarpetEleven$Tape" "token") := by decide +kernel
theorem wd_118 : lw_tbl[118]? = some (Jvm.Cond.lays "CarpetEleven$Tape" "CarpetEleven$Tape" "tokenPlace" "I") := by decide +kernel
theorem wd_119 : lw_tbl[119]? = some (Jvm.Cond.soleField "CarpetEleven$Tape" "tokenPlace") := by decide +kernel
theorem wd_120 : lw_tbl[120]? = some (Jvm.Cond.lays "CarpetEleven$Tape" "CarpetEleven$Tape" "tokenNumber" "I") := by decide +kernel
theorem wd_121 : lw_tbl[121]? = some (Jvm.Cond.soleField "CarpetEleven$Tape" "tokenNumber") := by decide +kernel
theorem wd_122 : lw_tbl[122]? = some (Jvm.Cond.lays "CarpetEleven$Tape" "CarpetEleven$Tape" "stepCount" "I") := by decide +kernel
theorem wd_123 : lw_tbl[123]? = some (Jvm.Cond.soleField "CarpetEleven$Tape" "stepCount") := by decide +kernel
theorem wd_124 : lw_tbl[124]? = some (Jvm.Cond.lays "CarpetEleven$Tape" "CarpetEleven$Tape" "leastEnd" "I") := by decide +kernel
theorem wd_125 : lw_tbl[125]? = some (Jvm.Cond.soleField "CarpetEleven$Tape" "leastEnd") := by decide +kernel
theorem wd_126 : lw_tbl[126]? = some (Jvm.Cond.lays "CarpetEleven$Tape" "CarpetEleven$Tape" "firstEnd" "I") := by decide +kernel
theorem wd_127 : lw_tbl[127]? = some (Jvm.Cond.soleField "CarpetEleven$Tape" "firstEnd") := by decide +kernel
theorem wd_128 : lw_tbl[128]? = some (Jvm.Cond.lays "CarpetEleven$Tape" "CarpetEleven$Tape" "fault" "I") := by decide +kernel
theorem wd_129 : lw_tbl[129]? = some (Jvm.Cond.soleField "CarpetEleven$Tape" "fault") := by decide +kernel
theorem wd_130 : lw_tbl[130]? = some (Jvm.Cond.superclass "CarpetEleven$Tape" "java/lang/Object") := by decide +kernel
theorem wd_131 : lw_tbl[131]? = some (Jvm.Cond.arrayClass Jvm.ClassFile.FieldType.int) := by decide +kernel
theorem wd_132 : lw_tbl[132]? = some (Jvm.Cond.classLink "CarpetEleven" (34 : Nat) "CarpetEleven$Sheet") := by decide +kernel
theorem wd_133 : lw_tbl[133]? = some (Jvm.Cond.arrayOver (Jvm.ClassFile.FieldType.object "CarpetEleven$Sheet")) := by decide +kernel
theorem wd_134 : lw_tbl[134]? = some (Jvm.Cond.instantiable "CarpetEleven$Kind" (0 : Nat)) := by decide +kernel
theorem wd_135 : lw_tbl[135]? = some (Jvm.Cond.methodLinkNest "CarpetEleven" (56 : Nat) ({ cls := "CarpetEleven$Kind", name := "<init>", desc := "()V" } : Jvm.MethodName) "CarpetEleven") := by decide +kernel
theorem wd_136 : lw_tbl[136]? = some (Jvm.Cond.instanceMethod ({ cls := "CarpetEleven$Kind", name := "<init>", desc := "()V" } : Jvm.MethodName)) := by decide +kernel
theorem wd_137 : lw_tbl[137]? = some (Jvm.Cond.code ({ cls := "CarpetEleven$Kind", name := "<init>", desc := "()V" } : Jvm.MethodName) prog_5_method_1_code (1 : Nat) (Option.none : Option Jvm.ClassFile.FieldType)) := by decide +kernel
theorem wd_138 : lw_tbl[138]? = some (Jvm.Cond.methodLink "CarpetEleven$Kind" (1 : Nat) ({ cls := "java/lang/Object", name := "<init>", desc := "()V" } : Jvm.MethodName)) := by decide +kernel
theorem wd_139 : lw_tbl[139]? = some (Jvm.Cond.superclass "CarpetEleven$Kind" "java/lang/Object") := by decide +kernel
theorem wd_140 : lw_tbl[140]? = some (Jvm.Cond.classLink "CarpetEleven" (57 : Nat) "CarpetEleven$Halver") := by decide +kernel
theorem wd_141 : lw_tbl[141]? = some (Jvm.Cond.instantiable "CarpetEleven$Halver" (0 : Nat)) := by decide +kernel
theorem wd_142 : lw_tbl[142]? = some (Jvm.Cond.methodLinkNest "CarpetEleven" (59 : Nat) ({ cls := "CarpetEleven$Halver", name := "<init>", desc := "()V" } : Jvm.MethodName) "CarpetEleven") := by decide +kernel
theorem wd_143 : lw_tbl[143]? = some (Jvm.Cond.instanceMethod ({ cls := "CarpetEleven$Halver", name := "<init>", desc := "()V" } : Jvm.MethodName)) := by decide +kernel
theorem wd_144 : lw_tbl[144]? = some (Jvm.Cond.code ({ cls := "CarpetEleven$Halver", name := "<init>", desc := "()V" } : Jvm.MethodName) prog_4_method_1_code (1 : Nat) (Option.none : Option Jvm.ClassFile.FieldType)) := by decide +kernel
theorem wd_145 : lw_tbl[145]? = some (Jvm.Cond.methodLinkNest "CarpetEleven$Halver" (1 : Nat) ({ cls := "CarpetEleven$Kind", name := "<init>", desc := "()V" } : Jvm.MethodName) "CarpetEleven") := by decide +kernel
theorem wd_146 : lw_tbl[146]? = some (Jvm.Cond.superclass "CarpetEleven$Halver" "CarpetEleven$Kind") := by decide +kernel
theorem wd_147 : lw_tbl[147]? = some (Jvm.Cond.classLink "CarpetEleven" (60 : Nat) "CarpetEleven$Stiff") := by decide +kernel
theorem wd_148 : lw_tbl[148]? = some (Jvm.Cond.instantiable "CarpetEleven$Stiff" (0 : Nat)) := by decide +kernel
theorem wd_149 : lw_tbl[149]? = some (Jvm.Cond.methodLinkNest "CarpetEleven" (62 : Nat) ({ cls := "CarpetEleven$Stiff", name := "<init>", desc := "()V" } : Jvm.MethodName) "CarpetEleven") := by decide +kernel
theorem wd_150 : lw_tbl[150]? = some (Jvm.Cond.instanceMethod ({ cls := "CarpetEleven$Stiff", name := "<init>", desc := "()V" } : Jvm.MethodName)) := by decide +kernel
theorem wd_151 : lw_tbl[151]? = some (Jvm.Cond.code ({ cls := "CarpetEleven$Stiff", name := "<init>", desc := "()V" } : Jvm.MethodName) prog_10_method_1_code (1 : Nat) (Option.none : Option Jvm.ClassFile.FieldType)) := by decide +kernel
theorem wd_152 : lw_tbl[152]? = some (Jvm.Cond.methodLinkNest "CarpetEleven$Stiff" (1 : Nat) ({ cls := "CarpetEleven$Kind", name := "<init>", desc := "()V" } : Jvm.MethodName) "CarpetEleven") := by decide +kernel
theorem wd_153 : lw_tbl[153]? = some (Jvm.Cond.superclass "CarpetEleven$Stiff" "CarpetEleven$Kind") := by decide +kernel
theorem wd_154 : lw_tbl[154]? = some (Jvm.Cond.classLink "CarpetEleven" (63 : Nat) "CarpetEleven$Slip") := by decide +kernel
theorem wd_155 : lw_tbl[155]? = some (Jvm.Cond.instantiable "CarpetEleven$Slip" (0 : Nat)) := by decide +kernel
theorem wd_156 : lw_tbl[156]? = some (Jvm.Cond.methodLinkNest "CarpetEleven" (65 : Nat) ({ cls := "CarpetEleven$Slip", name := "<init>", desc := "()V" } : Jvm.MethodName) "CarpetEleven") := by decide +kernel
theorem wd_157 : lw_tbl[157]? = some (Jvm.Cond.instanceMethod ({ cls := "CarpetEleven$Slip", name := "<init>", desc := "()V" } : Jvm.MethodName)) := by decide +kernel
theorem wd_158 : lw_tbl[158]? = some (Jvm.Cond.code ({ cls := "CarpetEleven$Slip", name := "<init>", desc := "()V" } : Jvm.MethodName) prog_9_method_1_code (1 : Nat) (Option.none : Option Jvm.ClassFile.FieldType)) := by decide +kernel
theorem wd_159 : lw_tbl[159]? = some (Jvm.Cond.methodLinkNest "CarpetEleven$Slip" (1 : Nat) ({ cls := "CarpetEleven$Stiff", name := "<init>", desc := "()V" } : Jvm.MethodName) "CarpetEleven") := by decide +kernel
theorem wd_160 : lw_tbl[160]? = some (Jvm.Cond.superclass "CarpetEleven$Slip" "CarpetEleven$Stiff") := by decide +kernel
theorem wd_161 : lw_tbl[161]? = some (Jvm.Cond.classLink "CarpetEleven" (66 : Nat) "CarpetEleven$Brother") := by decide +kernel
theorem wd_162 : lw_tbl[162]? = some (Jvm.Cond.instantiable "CarpetEleven$Brother" (0 : Nat)) := by decide +kernel
theorem wd_163 : lw_tbl[163]? = some (Jvm.Cond.methodLinkNest "CarpetEleven" (68 : Nat) ({ cls := "CarpetEleven$Brother", name := "<init>", desc := "()V" } : Jvm.MethodName) "CarpetEleven") := by decide +kernel
theorem wd_164 : lw_tbl[164]? = some (Jvm.Cond.instanceMethod ({ cls := "CarpetEleven$Brother", name := "<init>", desc := "()V" } : Jvm.MethodName)) := by decide +kernel
theorem wd_165 : lw_tbl[165]? = some (Jvm.Cond.code ({ cls := "CarpetEleven$Brother", name := "<init>", desc := "()V" } : Jvm.MethodName) prog_2_method_1_code (1 : Nat) (Option.none : Option Jvm.ClassFile.FieldType)) := by decide +kernel
theorem wd_166 : lw_tbl[166]? = some (Jvm.Cond.methodLinkNest "CarpetEleven$Brother" (1 : Nat) ({ cls := "CarpetEleven$Halver", name := "<init>", desc := "()V" } : Jvm.MethodName) "CarpetEleven") := by decide +kernel
theorem wd_167 : lw_tbl[167]? = some (Jvm.Cond.superclass "CarpetEleven$Brother" "CarpetEleven$Halver") := by decide +kernel
theorem wd_168 : lw_tbl[168]? = some (Jvm.Cond.classLink "CarpetEleven" (69 : Nat) "CarpetEleven$Eager") := by decide +kernel
theorem wd_169 : lw_tbl[169]? = some (Jvm.Cond.instantiable "CarpetEleven$Eager" (0 : Nat)) := by decide +kernel
theorem wd_170 : lw_tbl[170]? = some (Jvm.Cond.methodLinkNest "CarpetEleven" (71 : Nat) ({ cls := "CarpetEleven$Eager", name := "<init>", desc := "()V" } : Jvm.MethodName) "CarpetEleven") := by decide +kernel
theorem wd_171 : lw_tbl[171]? = some (Jvm.Cond.instanceMethod ({ cls := "CarpetEleven$Eager", name := "<init>", desc := "()V" } : Jvm.MethodName)) := by decide +kernel
theorem wd_172 : lw_tbl[172]? = some (Jvm.Cond.code ({ cls := "CarpetEleven$Eager", name := "<init>", desc := "()V" } : Jvm.MethodName) prog_3_method_1_code (1 : Nat) (Option.none : Option Jvm.ClassFile.FieldType)) := by decide +kernel
theorem wd_173 : lw_tbl[173]? = some (Jvm.Cond.methodLinkNest "CarpetEleven$Eager" (1 : Nat) ({ cls := "CarpetEleven$Halver", name := "<init>", desc := "()V" } : Jvm.MethodName) "CarpetEleven") := by decide +kernel
theorem wd_174 : lw_tbl[174]? = some (Jvm.Cond.superclass "CarpetEleven$Eager" "CarpetEleven$Halver") := by decide +kernel
theorem wd_175 : lw_tbl[175]? = some (Jvm.Cond.instantiable "CarpetEleven$Seller" (8 : Nat)) := by decide +kernel
theorem wd_176 : lw_tbl[176]? = some (Jvm.Cond.methodLink "CarpetEleven" (72 : Nat) ({ cls := "CarpetEleven$Seller", name := "<init>", desc := "(LCarpetEleven$Kind;)V" } : Jvm.MethodName)) := by decide +kernel
theorem wd_177 : lw_tbl[177]? = some (Jvm.Cond.instanceMethod ({ cls := "CarpetEleven$Seller", name := "<init>", desc := "(LCarpetEleven$Kind;)V" } : Jvm.MethodName)) := by decide +kernel
theorem wd_178 : lw_tbl[178]? = some (Jvm.Cond.code ({ cls := "CarpetEleven$Seller", name := "<init>", desc := "(LCarpetEleven$Kind;)V" } : Jvm.MethodName) prog_7_method_1_code (2 : Nat) (Option.none : Option Jvm.ClassFile.FieldType)) := by decide +kernel
theorem wd_179 : lw_tbl[179]? = some (Jvm.Cond.methodLink "CarpetEleven$Seller" (3 : Nat) ({ cls := "java/lang/Object", name := "<init>", desc := "()V" } : Jvm.MethodName)) := by decide +kernel
theorem wd_180 : lw_tbl[180]? = some (Jvm.Cond.fieldLink "CarpetEleven$Seller" (33 : Nat) "CarpetEleven$Seller" "kind" "LCarpetEleven$Kind;") := by decide +kernel
theorem wd_181 : lw_tbl[181]? = some (Jvm.Cond.fieldLink "CarpetEleven" (171 : Nat) "CarpetEleven$Seller" "kind" "LCarpetEleven$Kind;") := by decide +kernel
theorem wd_182 : lw_tbl[182]? = some (Jvm.Cond.fieldLink "CarpetEleven$Seller" (9 : Nat) "CarpetEleven$Seller" "kindNumber" "I") := by decide +kernel
theorem wd_183 : lw_tbl[183]? = some (Jvm.Cond.fieldLink "CarpetEleven" (149 : Nat) "CarpetEleven$Seller" "kindNumber" "I") := by decide +kernel
theorem wd_184 : lw_tbl[184]? = some (Jvm.Cond.fieldLink "CarpetEleven$Seller" (15 : Nat) "CarpetEleven$Seller" "cost" "I") := by decide +kernel
theorem wd_185 : lw_tbl[185]? = some (Jvm.Cond.fieldLink "CarpetEleven$Text" (48 : Nat) "CarpetEleven$Seller" "cost" "I") := by decide +kernel
theorem wd_186 : lw_tbl[186]? = some (Jvm.Cond.fieldLink "CarpetEleven" (152 : Nat) "CarpetEleven$Seller" "cost" "I") := by decide +kernel
theorem wd_187 : lw_tbl[187]? = some (Jvm.Cond.fieldLink "CarpetEleven$Seller" (18 : Nat) "CarpetEleven$Seller" "number" "I") := by decide +kernel
theorem wd_188 : lw_tbl[188]? = some (Jvm.Cond.fieldLink "CarpetEleven" (155 : Nat) "CarpetEleven$Seller" "number" "I") := by decide +kernel
theorem wd_189 : lw_tbl[189]? = some (Jvm.Cond.fieldLink "CarpetEleven$Seller" (21 : Nat) "CarpetEleven$Seller" "said" "I") := by decide +kernel
theorem wd_190 : lw_tbl[190]? = some (Jvm.Cond.fieldLink "CarpetEleven$Text" (61 : Nat) "CarpetEleven$Seller" "said" "I") := by decide +kernel
theorem wd_191 : lw_tbl[191]? = some (Jvm.Cond.fieldLink "CarpetEleven" (146 : Nat) "CarpetEleven$Seller" "said" "I") := by decide +kernel
theorem wd_192 : lw_tbl[192]? = some (Jvm.Cond.fieldLink "CarpetEleven$Seller" (24 : Nat) "CarpetEleven$Seller" "cups" "I") := by decide +kernel
theorem wd_193 : lw_tbl[193]? = some (Jvm.Cond.fieldLink "CarpetEleven$Text" (64 : Nat) "CarpetEleven$Seller" "cups" "I") := by decide +kernel
theorem wd_194 : lw_tbl[194]? = some (Jvm.Cond.fieldLink "CarpetEleven" (158 : Nat) "CarpetEleven$Seller" "cups" "I") := by decide +kernel
theorem wd_195 : lw_tbl[195]? = some (Jvm.Cond.fieldLink "CarpetEleven$Seller" (27 : Nat) "CarpetEleven$Seller" "stands" "I") := by decide +kernel
theorem wd_196 : lw_tbl[196]? = some (Jvm.Cond.fieldLink "CarpetEleven" (161 : Nat) "CarpetEleven$Seller" "stands" "I") := by decide +kernel
theorem wd_197 : lw_tbl[197]? = some (Jvm.Cond.fieldLink "CarpetEleven$Seller" (30 : Nat) "CarpetEleven$Seller" "price" "I") := by decide +kernel
theorem wd_198 : lw_tbl[198]? = some (Jvm.Cond.fieldLink "CarpetEleven" (164 : Nat) "CarpetEleven$Seller" "price" "I") := by decide +kernel
theorem wd_199 : lw_tbl[199]? = some (Jvm.Cond.lays "CarpetEleven$Seller" "CarpetEleven$Seller" "kind" "LCarpetEleven$Kind;") := by decide +kernel
theorem wd_200 : lw_tbl[200]? = some (Jvm.Cond.soleField "CarpetEleven$Seller" "kind") := by decide +kernel
theorem wd_201 : lw_tbl[201]? = some (Jvm.Cond.lays "CarpetEleven$Seller" "CarpetEleven$Seller" "kindNumber" "I") := by decide +kernel
theorem wd_202 : lw_tbl[202]? = some (Jvm.Cond.soleField "CarpetEleven$Seller" "kindNumber") := by decide +kernel
theorem wd_203 : lw_tbl[203]? = some (Jvm.Cond.lays "CarpetEleven$Seller" "CarpetEleven$Seller" "cost" "I") := by decide +kernel
theorem wd_204 : lw_tbl[204]? = some (Jvm.Cond.soleField "CarpetEleven$Seller" "cost") := by decide +kernel
theorem wd_205 : lw_tbl[205]? = some (Jvm.Cond.lays "CarpetEleven$Seller" "CarpetEleven$Seller" "number" "I") := by decide +kernel
theorem wd_206 : lw_tbl[206]? = some (Jvm.Cond.soleField "CarpetEleven$Seller" "number") := by decide +kernel
theorem wd_207 : lw_tbl[207]? = some (Jvm.Cond.lays "CarpetEleven$Seller" "CarpetEleven$Seller" "said" "I") := by decide +kernel
theorem wd_208 : lw_tbl[208]? = some (Jvm.Cond.soleField "CarpetEleven$Seller" "said") := by decide +kernel
theorem wd_209 : lw_tbl[209]? = some (Jvm.Cond.lays "CarpetEleven$Seller" "CarpetEleven$Seller" "cups" "I") := by decide +kernel
theorem wd_210 : lw_tbl[210]? = some (Jvm.Cond.soleField "CarpetEleven$Seller" "cups") := by decide +kernel
theorem wd_211 : lw_tbl[211]? = some (Jvm.Cond.lays "CarpetEleven$Seller" "CarpetEleven$Seller" "stands" "I") := by decide +kernel
theorem wd_212 : lw_tbl[212]? = some (Jvm.Cond.soleField "CarpetEleven$Seller" "stands") := by decide +kernel
theorem wd_213 : lw_tbl[213]? = some (Jvm.Cond.lays "CarpetEleven$Seller" "CarpetEleven$Seller" "price" "I") := by decide +kernel
theorem wd_214 : lw_tbl[214]? = some (Jvm.Cond.soleField "CarpetEleven$Seller" "price") := by decide +kernel
theorem wd_215 : lw_tbl[215]? = some (Jvm.Cond.superclass "CarpetEleven$Seller" "java/lang/Object") := by decide +kernel
theorem wd_216 : lw_tbl[216]? = some (Jvm.Cond.instantiable "CarpetEleven$Sheet" (3 : Nat)) := by decide +kernel
theorem wd_217 : lw_tbl[217]? = some (Jvm.Cond.methodLinkNest "CarpetEleven" (79 : Nat) ({ cls := "CarpetEleven$Sheet", name := "<init>", desc := "()V" } : Jvm.MethodName) "CarpetEleven") := by decide +kernel
theorem wd_218 : lw_tbl[218]? = some (Jvm.Cond.instanceMethod ({ cls := "CarpetEleven$Sheet", name := "<init>", desc := "()V" } : Jvm.MethodName)) := by decide +kernel
theorem wd_219 : lw_tbl[219]? = some (Jvm.Cond.code ({ cls := "CarpetEleven$Sheet", name := "<init>", desc := "()V" } : Jvm.MethodName) prog_8_method_1_code (1 : Nat) (Option.none : Option Jvm.ClassFile.FieldType)) := by decide +kernel
theorem wd_220 : lw_tbl[220]? = some (Jvm.Cond.methodLink "CarpetEleven$Sheet" (3 : Nat) ({ cls := "java/lang/Object", name := "<init>", desc := "()V" } : Jvm.MethodName)) := by decide +kernel
theorem wd_221 : lw_tbl[221]? = some (Jvm.Cond.fieldLink "CarpetEleven$Sheet" (9 : Nat) "CarpetEleven$Sheet" "items" "[I") := by decide +kernel
theorem wd_222 : lw_tbl[222]? = some (Jvm.Cond.fieldLink "CarpetEleven" (271 : Nat) "CarpetEleven$Sheet" "items" "[I") := by decide +kernel
theorem wd_223 : lw_tbl[223]? = some (Jvm.Cond.fieldLink "CarpetEleven$Sheet" (15 : Nat) "CarpetEleven$Sheet" "sort" "I") := by decide +kernel
theorem wd_224 : lw_tbl[224]? = some (Jvm.Cond.fieldLink "CarpetEleven" (265 : Nat) "CarpetEleven$Sheet" "sort" "I") := by decide +kernel
theorem wd_225 : lw_tbl[225]? = some (Jvm.Cond.fieldLink "CarpetEleven$Sheet" (19 : Nat) "CarpetEleven$Sheet" "size" "I") := by decide +kernel
theorem wd_226 : lw_tbl[226]? = some (Jvm.Cond.fieldLink "CarpetEleven" (223 : Nat) "CarpetEleven$Sheet" "size" "I") := by decide +kernel
theorem wd_227 : lw_tbl[227]? = some (Jvm.Cond.laysFinal "CarpetEleven$Sheet" "CarpetEleven$Sheet" "items" "[I") := by decide +kernel
theorem wd_228 : lw_tbl[228]? = some (Jvm.Cond.soleField "CarpetEleven$Sheet" "items") := by decide +kernel
theorem wd_229 : lw_tbl[229]? = some (Jvm.Cond.lays "CarpetEleven$Sheet" "CarpetEleven$Sheet" "sort" "I") := by decide +kernel
theorem wd_230 : lw_tbl[230]? = some (Jvm.Cond.soleField "CarpetEleven$Sheet" "sort") := by decide +kernel
theorem wd_231 : lw_tbl[231]? = some (Jvm.Cond.lays "CarpetEleven$Sheet" "CarpetEleven$Sheet" "size" "I") := by decide +kernel
theorem wd_232 : lw_tbl[232]? = some (Jvm.Cond.soleField "CarpetEleven$Sheet" "size") := by decide +kernel
theorem wd_233 : lw_tbl[233]? = some (Jvm.Cond.superclass "CarpetEleven$Sheet" "java/lang/Object") := by decide +kernel
theorem wd_234 : lw_tbl[234]? = some (Jvm.Cond.stringRef "CarpetEleven" (80 : Nat) "least cost + shoes * 2 - ( hour < 9 ) * 10 ; first 2 * cost + shoes * 20 ; pull 0 ;") := by decide +kernel
theorem wd_235 : lw_tbl[235]? = some (Jvm.Cond.methodLink "CarpetEleven" (82 : Nat) ({ cls := "java/lang/String", name := "length", desc := "()I" } : Jvm.MethodName)) := by decide +kernel
theorem wd_236 : lw_tbl[236]? = some (Jvm.Cond.instanceMethod ({ cls := "java/lang/String", name := "length", desc := "()I" } : Jvm.MethodName)) := by decide +kernel
theorem wd_237 : lw_tbl[237]? = some (Jvm.Cond.selects "java/lang/String" ({ cls := "java/lang/String", name := "length", desc := "()I" } : Jvm.MethodName) ({ cls := "java/lang/String", name := "length", desc := "()I" } : Jvm.MethodName)) := by decide +kernel
theorem wd_238 : lw_tbl[238]? = some (Jvm.Cond.code ({ cls := "java/lang/String", name := "length", desc := "()I" } : Jvm.MethodName) prog_16_method_54_code (1 : Nat) (Option.some Jvm.ClassFile.FieldType.int)) := by decide +kernel
theorem wd_239 : lw_tbl[239]? = some (Jvm.Cond.methodLink "java/lang/String" (335 : Nat) ({ cls := "java/lang/String", name := "coder", desc := "()B" } : Jvm.MethodName)) := by decide +kernel
theorem wd_240 : lw_tbl[240]? = some (Jvm.Cond.instanceMethod ({ cls := "java/lang/String", name := "coder", desc := "()B" } : Jvm.MethodName)) := by decide +kernel
theorem wd_241 : lw_tbl[241]? = some (Jvm.Cond.selects "java/lang/String" ({ cls := "java/lang/String", name := "coder", desc := "()B" } : Jvm.MethodName) ({ cls := "java/lang/String", name := "coder", desc := "()B" } : Jvm.MethodName)) := by decide +kernel
theorem wd_242 : lw_tbl[242]? = some (Jvm.Cond.code ({ cls := "java/lang/String", name := "coder", desc := "()B" } : Jvm.MethodName) prog_16_method_152_code (1 : Nat) (Option.some Jvm.ClassFile.FieldType.byte)) := by decide +kernel
theorem wd_243 : lw_tbl[243]? = some (Jvm.Cond.fieldLink "java/lang/String" (38 : Nat) "java/lang/String" "COMPACT_STRINGS" "Z") := by decide +kernel
theorem wd_244 : lw_tbl[244]? = some (Jvm.Cond.laysStatic "java/lang/String" "COMPACT_STRINGS" "Z") := by decide +kernel
theorem wd_245 : lw_tbl[245]? = some (Jvm.Cond.methodLink "CarpetEleven" (88 : Nat) ({ cls := "java/lang/String", name := "charAt", desc := "(I)C" } : Jvm.MethodName)) := by decide +kernel
theorem wd_246 : lw_tbl[246]? = some (Jvm.Cond.instanceMethod ({ cls := "java/lang/String", name := "charAt", desc := "(I)C" } : Jvm.MethodName)) := by decide +kernel
theorem wd_247 : lw_tbl[247]? = some (Jvm.Cond.selects "java/lang/String" ({ cls := "java/lang/String", name := "charAt", desc := "(I)C" } : Jvm.MethodName) ({ cls := "java/lang/String", name := "charAt", desc := "(I)C" } : Jvm.MethodName)) := by decide +kernel
theorem wd_248 : lw_tbl[248]? = some (Jvm.Cond.code ({ cls := "java/lang/String", name := "charAt", desc := "(I)C" } : Jvm.MethodName) prog_16_method_56_code (2 : Nat) (Option.some Jvm.ClassFile.FieldType.char)) := by decide +kernel
theorem wd_249 : lw_tbl[249]? = some (Jvm.Cond.methodLink "java/lang/String" (492 : Nat) ({ cls := "java/lang/String", name := "isLatin1", desc := "()Z" } : Jvm.MethodName)) := by decide +kernel
theorem wd_250 : lw_tbl[250]? = some (Jvm.Cond.instanceMethod ({ cls := "java/lang/String", name := "isLatin1", desc := "()Z" } : Jvm.MethodName)) := by decide +kernel
theorem wd_251 : lw_tbl[251]? = some (Jvm.Cond.selects "java/lang/String" ({ cls := "java/lang/String", name := "isLatin1", desc := "()Z" } : Jvm.MethodName) ({ cls := "java/lang/String", name := "isLatin1", desc := "()Z" } : Jvm.MethodName)) := by decide +kernel
theorem wd_252 : lw_tbl[252]? = some (Jvm.Cond.code ({ cls := "java/lang/String", name := "isLatin1", desc := "()Z" } : Jvm.MethodName) prog_16_method_154_code (1 : Nat) (Option.some Jvm.ClassFile.FieldType.boolean)) := by decide +kernel
theorem wd_253 : lw_tbl[253]? = some (Jvm.Cond.methodLink "java/lang/String" (495 : Nat) ({ cls := "java/lang/StringLatin1", name := "charAt", desc := "([BI)C" } : Jvm.MethodName)) := by decide +kernel
theorem wd_254 : lw_tbl[254]? = some (Jvm.Cond.static ({ cls := "java/lang/StringLatin1", name := "charAt", desc := "([BI)C" } : Jvm.MethodName)) := by decide +kernel
theorem wd_255 : lw_tbl[255]? = some (Jvm.Cond.code ({ cls := "java/lang/StringLatin1", name := "charAt", desc := "([BI)C" } : Jvm.MethodName) prog_17_method_2_code (2 : Nat) (Option.some Jvm.ClassFile.FieldType.char)) := by decide +kernel
theorem wd_256 : lw_tbl[256]? = some (Jvm.Cond.methodLink "java/lang/StringLatin1" (9 : Nat) ({ cls := "java/lang/String", name := "checkIndex", desc := "(II)V" } : Jvm.MethodName)) := by decide +kernel
theorem wd_257 : lw_tbl[257]? = some (Jvm.Cond.static ({ cls := "java/lang/String", name := "checkIndex", desc := "(II)V" } : Jvm.MethodName)) := by decide +kernel
theorem wd_258 : lw_tbl[258]? = some (Jvm.Cond.code ({ cls := "java/lang/String", name := "checkIndex", desc := "(II)V" } : Jvm.MethodName) prog_16_method_155_code (2 : Nat) (Option.none : Option Jvm.ClassFile.FieldType)) := by decide +kernel
theorem wd_259 : lw_tbl[259]? = some (Jvm.Cond.fieldLink "java/lang/String" (1053 : Nat) "jdk/internal/util/Preconditions" "SIOOBE_FORMATTER" "Ljava/util/function/BiFunction;") := by decide +kernel
theorem wd_260 : lw_tbl[260]? = some (Jvm.Cond.laysStatic "jdk/internal/util/Preconditions" "SIOOBE_FORMATTER" "Ljava/util/function/BiFunction;") := by decide +kernel
theorem wd_261 : lw_tbl[261]? = some (Jvm.Cond.methodLink "java/lang/String" (1059 : Nat) ({ cls := "jdk/internal/util/Preconditions", name := "checkIndex", desc := "(IILjava/util/function/BiFunction;)I" } : Jvm.MethodName)) := by decide +kernel
theorem wd_262 : lw_tbl[262]? = some (Jvm.Cond.static ({ cls := "jdk/internal/util/Preconditions", name := "checkIndex", desc := "(IILjava/util/function/BiFunction;)I" } : Jvm.MethodName)) := by decide +kernel
theorem wd_263 : lw_tbl[263]? = some (Jvm.Cond.code ({ cls := "jdk/internal/util/Preconditions", name := "checkIndex", desc := "(IILjava/util/function/BiFunction;)I" } : Jvm.MethodName) prog_20_method_11_code (3 : Nat) (Option.some Jvm.ClassFile.FieldType.int)) := by decide +kernel
theorem wd_264 : lw_tbl[264]? = some (Jvm.Cond.methodLink "java/lang/String" (498 : Nat) ({ cls := "java/lang/StringUTF16", name := "charAt", desc := "([BI)C" } : Jvm.MethodName)) := by decide +kernel
theorem wd_265 : lw_tbl[265]? = some (Jvm.Cond.static ({ cls := "java/lang/StringUTF16", name := "charAt", desc := "([BI)C" } : Jvm.MethodName)) := by decide +kernel
theorem wd_266 : lw_tbl[266]? = some (Jvm.Cond.code ({ cls := "java/lang/StringUTF16", name := "charAt", desc := "([BI)C" } : Jvm.MethodName) prog_18_method_83_code (2 : Nat) (Option.some Jvm.ClassFile.FieldType.char)) := by decide +kernel
theorem wd_267 : lw_tbl[267]? = some (Jvm.Cond.methodLink "java/lang/StringUTF16" (67 : Nat) ({ cls := "java/lang/StringUTF16", name := "checkIndex", desc := "(I[B)V" } : Jvm.MethodName)) := by decide +kernel
theorem wd_268 : lw_tbl[268]? = some (Jvm.Cond.static ({ cls := "java/lang/StringUTF16", name := "checkIndex", desc := "(I[B)V" } : Jvm.MethodName)) := by decide +kernel
theorem wd_269 : lw_tbl[269]? = some (Jvm.Cond.code ({ cls := "java/lang/StringUTF16", name := "checkIndex", desc := "(I[B)V" } : Jvm.MethodName) prog_18_method_91_code (2 : Nat) (Option.none : Option Jvm.ClassFile.FieldType)) := by decide +kernel
theorem wd_270 : lw_tbl[270]? = some (Jvm.Cond.methodLink "java/lang/StringUTF16" (48 : Nat) ({ cls := "java/lang/StringUTF16", name := "length", desc := "([B)I" } : Jvm.MethodName)) := by decide +kernel
theorem wd_271 : lw_tbl[271]? = some (Jvm.Cond.static ({ cls := "java/lang/StringUTF16", name := "length", desc := "([B)I" } : Jvm.MethodName)) := by decide +kernel
theorem wd_272 : lw_tbl[272]? = some (Jvm.Cond.code ({ cls := "java/lang/StringUTF16", name := "length", desc := "([B)I" } : Jvm.MethodName) prog_18_method_6_code (1 : Nat) (Option.some Jvm.ClassFile.FieldType.int)) := by decide +kernel
theorem wd_273 : lw_tbl[273]? = some (Jvm.Cond.methodLink "java/lang/StringUTF16" (414 : Nat) ({ cls := "java/lang/String", name := "checkIndex", desc := "(II)V" } : Jvm.MethodName)) := by decide +kernel
theorem wd_274 : lw_tbl[274]? = some (Jvm.Cond.methodLink "java/lang/StringUTF16" (71 : Nat) ({ cls := "java/lang/StringUTF16", name := "getChar", desc := "([BI)C" } : Jvm.MethodName)) := by decide +kernel
theorem wd_275 : lw_tbl[275]? = some (Jvm.Cond.static ({ cls := "java/lang/StringUTF16", name := "getChar", desc := "([BI)C" } : Jvm.MethodName)) := by decide +kernel
theorem wd_276 : lw_tbl[276]? = some (Jvm.Cond.code ({ cls := "java/lang/StringUTF16", name := "getChar", desc := "([BI)C" } : Jvm.MethodName) prog_18_method_5_code (2 : Nat) (Option.some Jvm.ClassFile.FieldType.char)) := by decide +kernel
theorem wd_277 : lw_tbl[277]? = some (Jvm.Cond.fieldLink "java/lang/StringUTF16" (44 : Nat) "java/lang/StringUTF16" "$assertionsDisabled" "Z") := by decide +kernel
theorem wd_278 : lw_tbl[278]? = some (Jvm.Cond.laysStatic "java/lang/StringUTF16" "$assertionsDisabled" "Z") := by decide +kernel
theorem wd_279 : lw_tbl[279]? = some (Jvm.Cond.fieldLink "java/lang/StringUTF16" (59 : Nat) "java/lang/StringUTF16" "HI_BYTE_SHIFT" "I") := by decide +kernel
theorem wd_280 : lw_tbl[280]? = some (Jvm.Cond.laysStatic "java/lang/StringUTF16" "HI_BYTE_SHIFT" "I") := by decide +kernel
theorem wd_281 : lw_tbl[281]? = some (Jvm.Cond.fieldLink "java/lang/StringUTF16" (63 : Nat) "java/lang/StringUTF16" "LO_BYTE_SHIFT" "I") := by decide +kernel
theorem wd_282 : lw_tbl[282]? = some (Jvm.Cond.laysStatic "java/lang/StringUTF16" "LO_BYTE_SHIFT" "I") := by decide +kernel
theorem wd_283 : lw_tbl[283]? = some (Jvm.Cond.methodLink "CarpetEleven" (92 : Nat) ({ cls := "CarpetEleven$Tape", name := "add", desc := "(I)V" } : Jvm.MethodName)) := by decide +kernel
theorem wd_284 : lw_tbl[284]? = some (Jvm.Cond.instanceMethod ({ cls := "CarpetEleven$Tape", name := "add", desc := "(I)V" } : Jvm.MethodName)) := by decide +kernel
theorem wd_285 : lw_tbl[285]? = some (Jvm.Cond.selects "CarpetEleven$Tape" ({ cls := "CarpetEleven$Tape", name := "add", desc := "(I)V" } : Jvm.MethodName) ({ cls := "CarpetEleven$Tape", name := "add", desc := "(I)V" } : Jvm.MethodName)) := by decide +kernel
theorem wd_286 : lw_tbl[286]? = some (Jvm.Cond.code ({ cls := "CarpetEleven$Tape", name := "add", desc := "(I)V" } : Jvm.MethodName) prog_11_method_2_code (2 : Nat) (Option.none : Option Jvm.ClassFile.FieldType)) := by decide +kernel
theorem wd_287 : lw_tbl[287]? = some (Jvm.Cond.methodLink "CarpetEleven" (96 : Nat) ({ cls := "CarpetEleven$Tape", name := "read", desc := "()I" } : Jvm.MethodName)) := by decide +kernel
theorem wd_288 : lw_tbl[288]? = some (Jvm.Cond.instanceMethod ({ cls := "CarpetEleven$Tape", name := "read", desc := "()I" } : Jvm.MethodName)) := by decide +kernel
theorem wd_289 : lw_tbl[289]? = some (Jvm.Cond.selects "CarpetEleven$Tape" ({ cls := "CarpetEleven$Tape", name := "read", desc := "()I" } : Jvm.MethodName) ({ cls := "CarpetEleven$Tape", name := "read", desc := "()I" } : Jvm.MethodName)) := by decide +kernel
theorem wd_290 : lw_tbl[290]? = some (Jvm.Cond.code ({ cls := "CarpetEleven$Tape", name := "read", desc := "()I" } : Jvm.MethodName) prog_11_method_3_code (1 : Nat) (Option.some Jvm.ClassFile.FieldType.int)) := by decide +kernel
theorem wd_291 : lw_tbl[291]? = some (Jvm.Cond.methodLink "CarpetEleven$Tape" (46 : Nat) ({ cls := "CarpetEleven$Tape", name := "advance", desc := "()V" } : Jvm.MethodName)) := by decide +kernel
theorem wd_292 : lw_tbl[292]? = some (Jvm.Cond.privateMethod ({ cls := "CarpetEleven$Tape", name := "advance", desc := "()V" } : Jvm.MethodName)) := by decide +kernel
theorem wd_293 : lw_tbl[293]? = some (Jvm.Cond.instanceMethod ({ cls := "CarpetEleven$Tape", name := "advance", desc := "()V" } : Jvm.MethodName)) := by decide +kernel
theorem wd_294 : lw_tbl[294]? = some (Jvm.Cond.code ({ cls := "CarpetEleven$Tape", name := "advance", desc := "()V" } : Jvm.MethodName) prog_11_method_15_code (1 : Nat) (Option.none : Option Jvm.ClassFile.FieldType)) := by decide +kernel
theorem wd_295 : lw_tbl[295]? = some (Jvm.Cond.methodLink "CarpetEleven$Tape" (85 : Nat) ({ cls := "CarpetEleven$Tape", name := "isBlank", desc := "(I)Z" } : Jvm.MethodName)) := by decide +kernel
theorem wd_296 : lw_tbl[296]? = some (Jvm.Cond.static ({ cls := "CarpetEleven$Tape", name := "isBlank", desc := "(I)Z" } : Jvm.MethodName)) := by decide +kernel
theorem wd_297 : lw_tbl[297]? = some (Jvm.Cond.code ({ cls := "CarpetEleven$Tape", name := "isBlank", desc := "(I)Z" } : Jvm.MethodName) prog_11_method_20_code (1 : Nat) (Option.some Jvm.ClassFile.FieldType.boolean)) := by decide +kernel
theorem wd_298 : lw_tbl[298]? = some (Jvm.Cond.methodLink "CarpetEleven$Tape" (89 : Nat) ({ cls := "CarpetEleven$Tape", name := "isSmallLetter", desc := "(I)Z" } : Jvm.MethodName)) := by decide +kernel
theorem wd_299 : lw_tbl[299]? = some (Jvm.Cond.static ({ cls := "CarpetEleven$Tape", name := "isSmallLetter", desc := "(I)Z" } : Jvm.MethodName)) := by decide +kernel
theorem wd_300 : lw_tbl[300]? = some (Jvm.Cond.code ({ cls := "CarpetEleven$Tape", name := "isSmallLetter", desc := "(I)Z" } : Jvm.MethodName) prog_11_method_21_code (1 : Nat) (Option.some Jvm.ClassFile.FieldType.boolean)) := by decide +kernel
theorem wd_301 : lw_tbl[301]? = some (Jvm.Cond.methodLink "CarpetEleven$Tape" (92 : Nat) ({ cls := "CarpetEleven$Tape", name := "wordToken", desc := "()I" } : Jvm.MethodName)) := by decide +kernel
theorem wd_302 : lw_tbl[302]? = some (Jvm.Cond.privateMethod ({ cls := "CarpetEleven$Tape", name := "wordToken", desc := "()I" } : Jvm.MethodName)) := by decide +kernel
theorem wd_303 : lw_tbl[303]? = some (Jvm.Cond.instanceMethod ({ cls := "CarpetEleven$Tape", name := "wordToken", desc := "()I" } : Jvm.MethodName)) := by decide +kernel
theorem wd_304 : lw_tbl[304]? = some (Jvm.Cond.code ({ cls := "CarpetEleven$Tape", name := "wordToken", desc := "()I" } : Jvm.MethodName) prog_11_method_18_code (1 : Nat) (Option.some Jvm.ClassFile.FieldType.int)) := by decide +kernel
theorem wd_305 : lw_tbl[305]? = some (Jvm.Cond.stringRef "CarpetEleven$Tape" (106 : Nat) "least") := by decide +kernel
theorem wd_306 : lw_tbl[306]? = some (Jvm.Cond.methodLink "CarpetEleven$Tape" (108 : Nat) ({ cls := "CarpetEleven$Tape", name := "spells", desc := "(Ljava/lang/String;)Z" } : Jvm.MethodName)) := by decide +kernel
theorem wd_307 : lw_tbl[307]? = some (Jvm.Cond.privateMethod ({ cls := "CarpetEleven$Tape", name := "spells", desc := "(Ljava/lang/String;)Z" } : Jvm.MethodName)) := by decide +kernel
theorem wd_308 : lw_tbl[308]? = some (Jvm.Cond.instanceMethod ({ cls := "CarpetEleven$Tape", name := "spells", desc := "(Ljava/lang/String;)Z" } : Jvm.MethodName)) := by decide +kernel
theorem wd_309 : lw_tbl[309]? = some (Jvm.Cond.code ({ cls := "CarpetEleven$Tape", name := "spells", desc := "(Ljava/lang/String;)Z" } : Jvm.MethodName) prog_11_method_19_code (3 : Nat) (Option.some Jvm.ClassFile.FieldType.boolean)) := by decide +kernel
theorem wd_310 : lw_tbl[310]? = some (Jvm.Cond.methodLink "CarpetEleven$Tape" (134 : Nat) ({ cls := "java/lang/String", name := "length", desc := "()I" } : Jvm.MethodName)) := by decide +kernel
theorem wd_311 : lw_tbl[311]? = some (Jvm.Cond.methodLink "CarpetEleven$Tape" (139 : Nat) ({ cls := "java/lang/String", name := "charAt", desc := "(I)C" } : Jvm.MethodName)) := by decide +kernel
theorem wd_312 : lw_tbl[312]? = some (Jvm.Cond.stringRef "CarpetEleven$Tape" (112 : Nat) "first") := by decide +kernel
theorem wd_313 : lw_tbl[313]? = some (Jvm.Cond.stringRef "CarpetEleven$Tape" (114 : Nat) "pull") := by decide +kernel
theorem wd_314 : lw_tbl[314]? = some (Jvm.Cond.stringRef "CarpetEleven$Tape" (116 : Nat) "or") := by decide +kernel
theorem wd_315 : lw_tbl[315]? = some (Jvm.Cond.stringRef "CarpetEleven$Tape" (118 : Nat) "and") := by decide +kernel
theorem wd_316 : lw_tbl[316]? = some (Jvm.Cond.stringRef "CarpetEleven$Tape" (120 : Nat) "not") := by decide +kernel
theorem wd_317 : lw_tbl[317]? = some (Jvm.Cond.stringRef "CarpetEleven$Tape" (122 : Nat) "cost") := by decide +kernel
theorem wd_318 : lw_tbl[318]? = some (Jvm.Cond.stringRef "CarpetEleven$Tape" (124 : Nat) "shoes") := by decide +kernel
theorem wd_319 : lw_tbl[319]? = some (Jvm.Cond.stringRef "CarpetEleven$Tape" (126 : Nat) "hour") := by decide +kernel
theorem wd_320 : lw_tbl[320]? = some (Jvm.Cond.stringRef "CarpetEleven$Tape" (128 : Nat) "bid") := by decide +kernel
theorem wd_321 : lw_tbl[321]? = some (Jvm.Cond.stringRef "CarpetEleven$Tape" (130 : Nat) "said") := by decide +kernel
theorem wd_322 : lw_tbl[322]? = some (Jvm.Cond.stringRef "CarpetEleven$Tape" (132 : Nat) "cups") := by decide +kernel
theorem wd_323 : lw_tbl[323]? = some (Jvm.Cond.methodLink "CarpetEleven$Tape" (96 : Nat) ({ cls := "CarpetEleven$Tape", name := "isDigit", desc := "(I)Z" } : Jvm.MethodName)) := by decide +kernel
theorem wd_324 : lw_tbl[324]? = some (Jvm.Cond.static ({ cls := "CarpetEleven$Tape", name := "isDigit", desc := "(I)Z" } : Jvm.MethodName)) := by decide +kernel
theorem wd_325 : lw_tbl[325]? = some (Jvm.Cond.code ({ cls := "CarpetEleven$Tape", name := "isDigit", desc := "(I)Z" } : Jvm.MethodName) prog_11_method_22_code (1 : Nat) (Option.some Jvm.ClassFile.FieldType.boolean)) := by decide +kernel
theorem wd_326 : lw_tbl[326]? = some (Jvm.Cond.methodLink "CarpetEleven$Tape" (99 : Nat) ({ cls := "CarpetEleven$Tape", name := "numberToken", desc := "()I" } : Jvm.MethodName)) := by decide +kernel
theorem wd_327 : lw_tbl[327]? = some (Jvm.Cond.privateMethod ({ cls := "CarpetEleven$Tape", name := "numberToken", desc := "()I" } : Jvm.MethodName)) := by decide +kernel
theorem wd_328 : lw_tbl[328]? = some (Jvm.Cond.instanceMethod ({ cls := "CarpetEleven$Tape", name := "numberToken", desc := "()I" } : Jvm.MethodName)) := by decide +kernel
theorem wd_329 : lw_tbl[329]? = some (Jvm.Cond.code ({ cls := "CarpetEleven$Tape", name := "numberToken", desc := "()I" } : Jvm.MethodName) prog_11_method_16_code (1 : Nat) (Option.some Jvm.ClassFile.FieldType.int)) := by decide +kernel
theorem wd_330 : lw_tbl[330]? = some (Jvm.Cond.methodLink "CarpetEleven$Tape" (102 : Nat) ({ cls := "CarpetEleven$Tape", name := "signToken", desc := "(I)I" } : Jvm.MethodName)) := by decide +kernel
theorem wd_331 : lw_tbl[331]? = some (Jvm.Cond.static ({ cls := "CarpetEleven$Tape", name := "signToken", desc := "(I)I" } : Jvm.MethodName)) := by decide +kernel
theorem wd_332 : lw_tbl[332]? = some (Jvm.Cond.code ({ cls := "CarpetEleven$Tape", name := "signToken", desc := "(I)I" } : Jvm.MethodName) prog_11_method_17_code (1 : Nat) (Option.some Jvm.ClassFile.FieldType.int)) := by decide +kernel
theorem wd_333 : lw_tbl[333]? = some (Jvm.Cond.methodLink "CarpetEleven$Tape" (49 : Nat) ({ cls := "CarpetEleven$Tape", name := "part", desc := "(I)V" } : Jvm.MethodName)) := by decide +kernel
theorem wd_334 : lw_tbl[334]? = some (Jvm.Cond.privateMethod ({ cls := "CarpetEleven$Tape", name := "part", desc := "(I)V" } : Jvm.MethodName)) := by decide +kernel
theorem wd_335 : lw_tbl[335]? = some (Jvm.Cond.instanceMethod ({ cls := "CarpetEleven$Tape", name := "part", desc := "(I)V" } : Jvm.MethodName)) := by decide +kernel
theorem wd_336 : lw_tbl[336]? = some (Jvm.Cond.code ({ cls := "CarpetEleven$Tape", name := "part", desc := "(I)V" } : Jvm.MethodName) prog_11_method_5_code (2 : Nat) (Option.none : Option Jvm.ClassFile.FieldType)) := by decide +kernel
theorem wd_337 : lw_tbl[337]? = some (Jvm.Cond.methodLink "CarpetEleven$Tape" (61 : Nat) ({ cls := "CarpetEleven$Tape", name := "expect", desc := "(I)V" } : Jvm.MethodName)) := by decide +kernel
theorem wd_338 : lw_tbl[338]? = some (Jvm.Cond.privateMethod ({ cls := "CarpetEleven$Tape", name := "expect", desc := "(I)V" } : Jvm.MethodName)) := by decide +kernel
theorem wd_339 : lw_tbl[339]? = some (Jvm.Cond.instanceMethod ({ cls := "CarpetEleven$Tape", name := "expect", desc := "(I)V" } : Jvm.MethodName)) := by decide +kernel
theorem wd_340 : lw_tbl[340]? = some (Jvm.Cond.code ({ cls := "CarpetEleven$Tape", name := "expect", desc := "(I)V" } : Jvm.MethodName) prog_11_method_6_code (2 : Nat) (Option.none : Option Jvm.ClassFile.FieldType)) := by decide +kernel
theorem wd_341 : lw_tbl[341]? = some (Jvm.Cond.methodLink "CarpetEleven$Tape" (53 : Nat) ({ cls := "CarpetEleven$Tape", name := "fail", desc := "()V" } : Jvm.MethodName)) := by decide +kernel
theorem wd_342 : lw_tbl[342]? = some (Jvm.Cond.privateMethod ({ cls := "CarpetEleven$Tape", name := "fail", desc := "()V" } : Jvm.MethodName)) := by decide +kernel
theorem wd_343 : lw_tbl[343]? = some (Jvm.Cond.instanceMethod ({ cls := "CarpetEleven$Tape", name := "fail", desc := "()V" } : Jvm.MethodName)) := by decide +kernel
theorem wd_344 : lw_tbl[344]? = some (Jvm.Cond.code ({ cls := "CarpetEleven$Tape", name := "fail", desc := "()V" } : Jvm.MethodName) prog_11_method_7_code (1 : Nat) (Option.none : Option Jvm.ClassFile.FieldType)) := by decide +kernel
theorem wd_345 : lw_tbl[345]? = some (Jvm.Cond.methodLink "CarpetEleven$Tape" (64 : Nat) ({ cls := "CarpetEleven$Tape", name := "either", desc := "(I)V" } : Jvm.MethodName)) := by decide +kernel
theorem wd_346 : lw_tbl[346]? = some (Jvm.Cond.privateMethod ({ cls := "CarpetEleven$Tape", name := "either", desc := "(I)V" } : Jvm.MethodName)) := by decide +kernel
theorem wd_347 : lw_tbl[347]? = some (Jvm.Cond.instanceMethod ({ cls := "CarpetEleven$Tape", name := "either", desc := "(I)V" } : Jvm.MethodName)) := by decide +kernel
theorem wd_348 : lw_tbl[348]? = some (Jvm.Cond.code ({ cls := "CarpetEleven$Tape", name := "either", desc := "(I)V" } : Jvm.MethodName) prog_11_method_8_code (3 : Nat) (Option.none : Option Jvm.ClassFile.FieldType)) := by decide +kernel
theorem wd_349 : lw_tbl[349]? = some (Jvm.Cond.methodLink "CarpetEleven$Tape" (67 : Nat) ({ cls := "CarpetEleven$Tape", name := "both", desc := "(I)V" } : Jvm.MethodName)) := by decide +kernel
theorem wd_350 : lw_tbl[350]? = some (Jvm.Cond.privateMethod ({ cls := "CarpetEleven$Tape", name := "both", desc := "(I)V" } : Jvm.MethodName)) := by decide +kernel
theorem wd_351 : lw_tbl[351]? = some (Jvm.Cond.instanceMethod ({ cls := "CarpetEleven$Tape", name := "both", desc := "(I)V" } : Jvm.MethodName)) := by decide +kernel
theorem wd_352 : lw_tbl[352]? = some (Jvm.Cond.code ({ cls := "CarpetEleven$Tape", name := "both", desc := "(I)V" } : Jvm.MethodName) prog_11_method_9_code (3 : Nat) (Option.none : Option Jvm.ClassFile.FieldType)) := by decide +kernel
theorem wd_353 : lw_tbl[353]? = some (Jvm.Cond.methodLink "CarpetEleven$Tape" (73 : Nat) ({ cls := "CarpetEleven$Tape", name := "denied", desc := "(I)V" } : Jvm.MethodName)) := by decide +kernel
theorem wd_354 : lw_tbl[354]? = some (Jvm.Cond.privateMethod ({ cls := "CarpetEleven$Tape", name := "denied", desc := "(I)V" } : Jvm.MethodName)) := by decide +kernel
theorem wd_355 : lw_tbl[355]? = some (Jvm.Cond.instanceMethod ({ cls := "CarpetEleven$Tape", name := "denied", desc := "(I)V" } : Jvm.MethodName)) := by decide +kernel
theorem wd_356 : lw_tbl[356]? = some (Jvm.Cond.code ({ cls := "CarpetEleven$Tape", name := "denied", desc := "(I)V" } : Jvm.MethodName) prog_11_method_10_code (3 : Nat) (Option.none : Option Jvm.ClassFile.FieldType)) := by decide +kernel
theorem wd_357 : lw_tbl[357]? = some (Jvm.Cond.methodLink "CarpetEleven$Tape" (70 : Nat) ({ cls := "CarpetEleven$Tape", name := "emit", desc := "(I)V" } : Jvm.MethodName)) := by decide +kernel
theorem wd_358 : lw_tbl[358]? = some (Jvm.Cond.privateMethod ({ cls := "CarpetEleven$Tape", name := "emit", desc := "(I)V" } : Jvm.MethodName)) := by decide +kernel
theorem wd_359 : lw_tbl[359]? = some (Jvm.Cond.instanceMethod ({ cls := "CarpetEleven$Tape", name := "emit", desc := "(I)V" } : Jvm.MethodName)) := by decide +kernel
theorem wd_360 : lw_tbl[360]? = some (Jvm.Cond.code ({ cls := "CarpetEleven$Tape", name := "emit", desc := "(I)V" } : Jvm.MethodName) prog_11_method_14_code (2 : Nat) (Option.none : Option Jvm.ClassFile.FieldType)) := by decide +kernel
theorem wd_361 : lw_tbl[361]? = some (Jvm.Cond.methodLink "CarpetEleven$Tape" (76 : Nat) ({ cls := "CarpetEleven$Tape", name := "sum", desc := "(I)V" } : Jvm.MethodName)) := by decide +kernel
theorem wd_362 : lw_tbl[362]? = some (Jvm.Cond.privateMethod ({ cls := "CarpetEleven$Tape", name := "sum", desc := "(I)V" } : Jvm.MethodName)) := by decide +kernel
theorem wd_363 : lw_tbl[363]? = some (Jvm.Cond.instanceMethod ({ cls := "CarpetEleven$Tape", name := "sum", desc := "(I)V" } : Jvm.MethodName)) := by decide +kernel
theorem wd_364 : lw_tbl[364]? = some (Jvm.Cond.code ({ cls := "CarpetEleven$Tape", name := "sum", desc := "(I)V" } : Jvm.MethodName) prog_11_method_11_code (4 : Nat) (Option.none : Option Jvm.ClassFile.FieldType)) := by decide +kernel
theorem wd_365 : lw_tbl[365]? = some (Jvm.Cond.methodLink "CarpetEleven$Tape" (79 : Nat) ({ cls := "CarpetEleven$Tape", name := "term", desc := "(I)V" } : Jvm.MethodName)) := by decide +kernel
theorem wd_366 : lw_tbl[366]? = some (Jvm.Cond.privateMethod ({ cls := "CarpetEleven$Tape", name := "term", desc := "(I)V" } : Jvm.MethodName)) := by decide +kernel
theorem wd_367 : lw_tbl[367]? = some (Jvm.Cond.instanceMethod ({ cls := "CarpetEleven$Tape", name := "term", desc := "(I)V" } : Jvm.MethodName)) := by decide +kernel
theorem wd_368 : lw_tbl[368]? = some (Jvm.Cond.code ({ cls := "CarpetEleven$Tape", name := "term", desc := "(I)V" } : Jvm.MethodName) prog_11_method_12_code (3 : Nat) (Option.none : Option Jvm.ClassFile.FieldType)) := by decide +kernel
theorem wd_369 : lw_tbl[369]? = some (Jvm.Cond.methodLink "CarpetEleven$Tape" (82 : Nat) ({ cls := "CarpetEleven$Tape", name := "one", desc := "(I)V" } : Jvm.MethodName)) := by decide +kernel
theorem wd_370 : lw_tbl[370]? = some (Jvm.Cond.privateMethod ({ cls := "CarpetEleven$Tape", name := "one", desc := "(I)V" } : Jvm.MethodName)) := by decide +kernel
theorem wd_371 : lw_tbl[371]? = some (Jvm.Cond.instanceMethod ({ cls := "CarpetEleven$Tape", name := "one", desc := "(I)V" } : Jvm.MethodName)) := by decide +kernel
theorem wd_372 : lw_tbl[372]? = some (Jvm.Cond.code ({ cls := "CarpetEleven$Tape", name := "one", desc := "(I)V" } : Jvm.MethodName) prog_11_method_13_code (2 : Nat) (Option.none : Option Jvm.ClassFile.FieldType)) := by decide +kernel
theorem wd_373 : lw_tbl[373]? = some (Jvm.Cond.methodLink "CarpetEleven" (99 : Nat) ({ cls := "CarpetEleven$Tape", name := "made", desc := "()LCarpetEleven$Text;" } : Jvm.MethodName)) := by decide +kernel
theorem wd_374 : lw_tbl[374]? = some (Jvm.Cond.instanceMethod ({ cls := "CarpetEleven$Tape", name := "made", desc := "()LCarpetEleven$Text;" } : Jvm.MethodName)) := by decide +kernel
theorem wd_375 : lw_tbl[375]? = some (Jvm.Cond.selects "CarpetEleven$Tape" ({ cls := "CarpetEleven$Tape", name := "made", desc := "()LCarpetEleven$Text;" } : Jvm.MethodName) ({ cls := "CarpetEleven$Tape", name := "made", desc := "()LCarpetEleven$Text;" } : Jvm.MethodName)) := by decide +kernel
theorem wd_376 : lw_tbl[376]? = some (Jvm.Cond.code ({ cls := "CarpetEleven$Tape", name := "made", desc := "()LCarpetEleven$Text;" } : Jvm.MethodName) prog_11_method_4_code (1 : Nat) (Option.some (Jvm.ClassFile.FieldType.object "CarpetEleven$Text"))) := by decide +kernel
theorem wd_377 : lw_tbl[377]? = some (Jvm.Cond.classLink "CarpetEleven$Tape" (56 : Nat) "CarpetEleven$Text") := by decide +kernel
theorem wd_378 : lw_tbl[378]? = some (Jvm.Cond.instantiable "CarpetEleven$Text" (4 : Nat)) := by decide +kernel
theorem wd_379 : lw_tbl[379]? = some (Jvm.Cond.methodLink "CarpetEleven$Tape" (58 : Nat) ({ cls := "CarpetEleven$Text", name := "<init>", desc := "([IIII)V" } : Jvm.MethodName)) := by decide +kernel
theorem wd_380 : lw_tbl[380]? = some (Jvm.Cond.instanceMethod ({ cls := "CarpetEleven$Text", name := "<init>", desc := "([IIII)V" } : Jvm.MethodName)) := by decide +kernel
theorem wd_381 : lw_tbl[381]? = some (Jvm.Cond.code ({ cls := "CarpetEleven$Text", name := "<init>", desc := "([IIII)V" } : Jvm.MethodName) prog_12_method_1_code (6 : Nat) (Option.none : Option Jvm.ClassFile.FieldType)) := by decide +kernel
theorem wd_382 : lw_tbl[382]? = some (Jvm.Cond.methodLink "CarpetEleven$Text" (1 : Nat) ({ cls := "java/lang/Object", name := "<init>", desc := "()V" } : Jvm.MethodName)) := by decide +kernel
theorem wd_383 : lw_tbl[383]? = some (Jvm.Cond.methodLinkNest "CarpetEleven$Text" (7 : Nat) ({ cls := "CarpetEleven", name := "within", desc := "(III)I" } : Jvm.MethodName) "CarpetEleven") := by decide +kernel
theorem wd_384 : lw_tbl[384]? = some (Jvm.Cond.static ({ cls := "CarpetEleven", name := "within", desc := "(III)I" } : Jvm.MethodName)) := by decide +kernel
theorem wd_385 : lw_tbl[385]? = some (Jvm.Cond.code ({ cls := "CarpetEleven", name := "within", desc := "(III)I" } : Jvm.MethodName) prog_1_method_35_code (3 : Nat) (Option.some Jvm.ClassFile.FieldType.int)) := by decide +kernel
theorem wd_386 : lw_tbl[386]? = some (Jvm.Cond.methodLink "CarpetEleven" (285 : Nat) ({ cls := "java/lang/Math", name := "min", desc := "(II)I" } : Jvm.MethodName)) := by decide +kernel
theorem wd_387 : lw_tbl[387]? = some (Jvm.Cond.static ({ cls := "java/lang/Math", name := "min", desc := "(II)I" } : Jvm.MethodName)) := by decide +kernel
theorem wd_388 : lw_tbl[388]? = some (Jvm.Cond.code ({ cls := "java/lang/Math", name := "min", desc := "(II)I" } : Jvm.MethodName) prog_15_method_69_code (2 : Nat) (Option.some Jvm.ClassFile.FieldType.int)) := by decide +kernel
theorem wd_389 : lw_tbl[389]? = some (Jvm.Cond.methodLink "CarpetEleven" (290 : Nat) ({ cls := "java/lang/Math", name := "max", desc := "(II)I" } : Jvm.MethodName)) := by decide +kernel
theorem wd_390 : lw_tbl[390]? = some (Jvm.Cond.static ({ cls := "java/lang/Math", name := "max", desc := "(II)I" } : Jvm.MethodName)) := by decide +kernel
theorem wd_391 : lw_tbl[391]? = some (Jvm.Cond.code ({ cls := "java/lang/Math", name := "max", desc := "(II)I" } : Jvm.MethodName) prog_15_method_65_code (2 : Nat) (Option.some Jvm.ClassFile.FieldType.int)) := by decide +kernel
theorem wd_392 : lw_tbl[392]? = some (Jvm.Cond.methodLink "CarpetEleven$Text" (29 : Nat) ({ cls := "java/lang/System", name := "arraycopy", desc := "(Ljava/lang/Object;ILjava/lang/Object;II)V" } : Jvm.MethodName)) := by decide +kernel
theorem wd_393 : lw_tbl[393]? = some (Jvm.Cond.static ({ cls := "java/lang/System", name := "arraycopy", desc := "(Ljava/lang/Object;ILjava/lang/Object;II)V" } : Jvm.MethodName)) := by decide +kernel
theorem wd_394 : lw_tbl[394]? = some (Jvm.Cond.native ({ cls := "java/lang/System", name := "arraycopy", desc := "(Ljava/lang/Object;ILjava/lang/Object;II)V" } : Jvm.MethodName)) := by decide +kernel
theorem wd_395 : lw_tbl[395]? = some (Jvm.Cond.fieldLink "CarpetEleven$Text" (13 : Nat) "CarpetEleven$Text" "code" "[I") := by decide +kernel
theorem wd_396 : lw_tbl[396]? = some (Jvm.Cond.fieldLink "CarpetEleven$Scene" (48 : Nat) "CarpetEleven$Text" "code" "[I") := by decide +kernel
theorem wd_397 : lw_tbl[397]? = some (Jvm.Cond.fieldLink "CarpetEleven$Text" (22 : Nat) "CarpetEleven$Text" "leastEnd" "I") := by decide +kernel
theorem wd_398 : lw_tbl[398]? = some (Jvm.Cond.fieldLink "CarpetEleven$Scene" (28 : Nat) "CarpetEleven$Text" "leastEnd" "I") := by decide +kernel
theorem wd_399 : lw_tbl[399]? = some (Jvm.Cond.fieldLink "CarpetEleven$Text" (26 : Nat) "CarpetEleven$Text" "firstEnd" "I") := by decide +kernel
theorem wd_400 : lw_tbl[400]? = some (Jvm.Cond.fieldLink "CarpetEleven$Scene" (41 : Nat) "CarpetEleven$Text" "firstEnd" "I") := by decide +kernel
theorem wd_401 : lw_tbl[401]? = some (Jvm.Cond.fieldLink "CarpetEleven$Text" (19 : Nat) "CarpetEleven$Text" "stack" "[I") := by decide +kernel
theorem wd_402 : lw_tbl[402]? = some (Jvm.Cond.laysFinal "CarpetEleven$Text" "CarpetEleven$Text" "code" "[I") := by decide +kernel
theorem wd_403 : lw_tbl[403]? = some (Jvm.Cond.soleField "CarpetEleven$Text" "code") := by decide +kernel
theorem wd_404 : lw_tbl[404]? = some (Jvm.Cond.laysFinal "CarpetEleven$Text" "CarpetEleven$Text" "leastEnd" "I") := by decide +kernel
theorem wd_405 : lw_tbl[405]? = some (Jvm.Cond.soleField "CarpetEleven$Text" "leastEnd") := by decide +kernel
theorem wd_406 : lw_tbl[406]? = some (Jvm.Cond.laysFinal "CarpetEleven$Text" "CarpetEleven$Text" "firstEnd" "I") := by decide +kernel
theorem wd_407 : lw_tbl[407]? = some (Jvm.Cond.soleField "CarpetEleven$Text" "firstEnd") := by decide +kernel
theorem wd_408 : lw_tbl[408]? = some (Jvm.Cond.laysFinal "CarpetEleven$Text" "CarpetEleven$Text" "stack" "[I") := by decide +kernel
theorem wd_409 : lw_tbl[409]? = some (Jvm.Cond.soleField "CarpetEleven$Text" "stack") := by decide +kernel
theorem wd_410 : lw_tbl[410]? = some (Jvm.Cond.superclass "CarpetEleven$Text" "java/lang/Object") := by decide +kernel
theorem wd_411 : lw_tbl[411]? = some (Jvm.Cond.arrayClass Jvm.ClassFile.FieldType.byte) := by decide +kernel
theorem wd_412 : lw_tbl[412]? = some (Jvm.Cond.classLink "CarpetEleven" (103 : Nat) "CarpetEleven$Scene") := by decide +kernel
theorem wd_413 : lw_tbl[413]? = some (Jvm.Cond.instantiable "CarpetEleven$Scene" (5 : Nat)) := by decide +kernel
theorem wd_414 : lw_tbl[414]? = some (Jvm.Cond.methodLink "CarpetEleven" (105 : Nat) ({ cls := "CarpetEleven$Scene", name := "<init>", desc := "(LCarpetEleven$Text;)V" } : Jvm.MethodName)) := by decide +kernel
theorem wd_415 : lw_tbl[415]? = some (Jvm.Cond.instanceMethod ({ cls := "CarpetEleven$Scene", name := "<init>", desc := "(LCarpetEleven$Text;)V" } : Jvm.MethodName)) := by decide +kernel
theorem wd_416 : lw_tbl[416]? = some (Jvm.Cond.code ({ cls := "CarpetEleven$Scene", name := "<init>", desc := "(LCarpetEleven$Text;)V" } : Jvm.MethodName) prog_6_method_1_code (2 : Nat) (Option.none : Option Jvm.ClassFile.FieldType)) := by decide +kernel
theorem wd_417 : lw_tbl[417]? = some (Jvm.Cond.methodLink "CarpetEleven$Scene" (3 : Nat) ({ cls := "java/lang/Object", name := "<init>", desc := "()V" } : Jvm.MethodName)) := by decide +kernel
theorem wd_418 : lw_tbl[418]? = some (Jvm.Cond.fieldLink "CarpetEleven$Scene" (9 : Nat) "CarpetEleven$Scene" "shoes" "I") := by decide +kernel
theorem wd_419 : lw_tbl[419]? = some (Jvm.Cond.fieldLink "CarpetEleven$Text" (53 : Nat) "CarpetEleven$Scene" "shoes" "I") := by decide +kernel
theorem wd_420 : lw_tbl[420]? = some (Jvm.Cond.fieldLink "CarpetEleven" (129 : Nat) "CarpetEleven$Scene" "shoes" "I") := by decide +kernel
theorem wd_421 : lw_tbl[421]? = some (Jvm.Cond.fieldLink "CarpetEleven$Scene" (15 : Nat) "CarpetEleven$Scene" "hour" "I") := by decide +kernel
theorem wd_422 : lw_tbl[422]? = some (Jvm.Cond.fieldLink "CarpetEleven$Text" (58 : Nat) "CarpetEleven$Scene" "hour" "I") := by decide +kernel
theorem wd_423 : lw_tbl[423]? = some (Jvm.Cond.fieldLink "CarpetEleven" (132 : Nat) "CarpetEleven$Scene" "hour" "I") := by decide +kernel
theorem wd_424 : lw_tbl[424]? = some (Jvm.Cond.fieldLink "CarpetEleven$Seller" (51 : Nat) "CarpetEleven$Scene" "hour" "I") := by decide +kernel
theorem wd_425 : lw_tbl[425]? = some (Jvm.Cond.fieldLink "CarpetEleven$Scene" (18 : Nat) "CarpetEleven$Scene" "limit" "I") := by decide +kernel
theorem wd_426 : lw_tbl[426]? = some (Jvm.Cond.fieldLink "CarpetEleven" (135 : Nat) "CarpetEleven$Scene" "limit" "I") := by decide +kernel
theorem wd_427 : lw_tbl[427]? = some (Jvm.Cond.fieldLink "CarpetEleven$Seller" (84 : Nat) "CarpetEleven$Scene" "limit" "I") := by decide +kernel
theorem wd_428 : lw_tbl[428]? = some (Jvm.Cond.fieldLink "CarpetEleven$Scene" (21 : Nat) "CarpetEleven$Scene" "textNumber" "I") := by decide +kernel
theorem wd_429 : lw_tbl[429]? = some (Jvm.Cond.fieldLink "CarpetEleven" (181 : Nat) "CarpetEleven$Scene" "textNumber" "I") := by decide +kernel
theorem wd_430 : lw_tbl[430]? = some (Jvm.Cond.fieldLink "CarpetEleven$Scene" (24 : Nat) "CarpetEleven$Scene" "text" "LCarpetEleven$Text;") := by decide +kernel
theorem wd_431 : lw_tbl[431]? = some (Jvm.Cond.fieldLink "CarpetEleven" (184 : Nat) "CarpetEleven$Scene" "text" "LCarpetEleven$Text;") := by decide +kernel
theorem wd_432 : lw_tbl[432]? = some (Jvm.Cond.lays "CarpetEleven$Scene" "CarpetEleven$Scene" "shoes" "I") := by decide +kernel
theorem wd_433 : lw_tbl[433]? = some (Jvm.Cond.soleField "CarpetEleven$Scene" "shoes") := by decide +kernel
theorem wd_434 : lw_tbl[434]? = some (Jvm.Cond.lays "CarpetEleven$Scene" "CarpetEleven$Scene" "hour" "I") := by decide +kernel
theorem wd_435 : lw_tbl[435]? = some (Jvm.Cond.soleField "CarpetEleven$Scene" "hour") := by decide +kernel
theorem wd_436 : lw_tbl[436]? = some (Jvm.Cond.lays "CarpetEleven$Scene" "CarpetEleven$Scene" "limit" "I") := by decide +kernel
theorem wd_437 : lw_tbl[437]? = some (Jvm.Cond.soleField "CarpetEleven$Scene" "limit") := by decide +kernel
theorem wd_438 : lw_tbl[438]? = some (Jvm.Cond.lays "CarpetEleven$Scene" "CarpetEleven$Scene" "textNumber" "I") := by decide +kernel
theorem wd_439 : lw_tbl[439]? = some (Jvm.Cond.soleField "CarpetEleven$Scene" "textNumber") := by decide +kernel
theorem wd_440 : lw_tbl[440]? = some (Jvm.Cond.lays "CarpetEleven$Scene" "CarpetEleven$Scene" "text" "LCarpetEleven$Text;") := by decide +kernel
theorem wd_441 : lw_tbl[441]? = some (Jvm.Cond.soleField "CarpetEleven$Scene" "text") := by decide +kernel
theorem wd_442 : lw_tbl[442]? = some (Jvm.Cond.superclass "CarpetEleven$Scene" "java/lang/Object") := by decide +kernel
theorem wd_443 : lw_tbl[443]? = some (Jvm.Cond.fieldLink "CarpetEleven" (11 : Nat) "CarpetEleven" "kinds" "[LCarpetEleven$Kind;") := by decide +kernel
theorem wd_444 : lw_tbl[444]? = some (Jvm.Cond.fieldLink "CarpetEleven" (17 : Nat) "CarpetEleven" "folk" "[LCarpetEleven$Seller;") := by decide +kernel
theorem wd_445 : lw_tbl[445]? = some (Jvm.Cond.fieldLink "CarpetEleven" (108 : Nat) "CarpetEleven" "scene" "LCarpetEleven$Scene;") := by decide +kernel
theorem wd_446 : lw_tbl[446]? = some (Jvm.Cond.fieldLink "CarpetEleven" (23 : Nat) "CarpetEleven" "texts" "[LCarpetEleven$Text;") := by decide +kernel
theorem wd_447 : lw_tbl[447]? = some (Jvm.Cond.fieldLink "CarpetEleven" (30 : Nat) "CarpetEleven" "tape" "LCarpetEleven$Tape;") := by decide +kernel
theorem wd_448 : lw_tbl[448]? = some (Jvm.Cond.fieldLink "CarpetEleven" (36 : Nat) "CarpetEleven" "sheets" "[LCarpetEleven$Sheet;") := by decide +kernel
theorem wd_449 : lw_tbl[449]? = some (Jvm.Cond.fieldLink "CarpetEleven" (40 : Nat) "CarpetEleven" "folkCount" "I") := by decide +kernel
theorem wd_450 : lw_tbl[450]? = some (Jvm.Cond.fieldLink "CarpetEleven" (44 : Nat) "CarpetEleven" "textCount" "I") := by decide +kernel
theorem wd_451 : lw_tbl[451]? = some (Jvm.Cond.fieldLink "CarpetEleven" (75 : Nat) "CarpetEleven" "thought" "LCarpetEleven$Seller;") := by decide +kernel
theorem wd_452 : lw_tbl[452]? = some (Jvm.Cond.fieldLink "CarpetEleven" (47 : Nat) "CarpetEleven" "crowd" "[LCarpetEleven$Seller;") := by decide +kernel
theorem wd_453 : lw_tbl[453]? = some (Jvm.Cond.fieldLink "CarpetEleven" (112 : Nat) "CarpetEleven" "thoughtScene" "LCarpetEleven$Scene;") := by decide +kernel
theorem wd_454 : lw_tbl[454]? = some (Jvm.Cond.fieldLink "CarpetEleven" (50 : Nat) "CarpetEleven" "keptFolk" "[LCarpetEleven$Seller;") := by decide +kernel
theorem wd_455 : lw_tbl[455]? = some (Jvm.Cond.fieldLink "CarpetEleven" (115 : Nat) "CarpetEleven" "keptScene" "LCarpetEleven$Scene;") := by decide +kernel
theorem wd_456 : lw_tbl[456]? = some (Jvm.Cond.fieldLink "CarpetEleven" (53 : Nat) "CarpetEleven" "keptCount" "I") := by decide +kernel
theorem wd_457 : lw_tbl[457]? = some (Jvm.Cond.laysFinal "CarpetEleven" "CarpetEleven" "kinds" "[LCarpetEleven$Kind;") := by decide +kernel
theorem wd_458 : lw_tbl[458]? = some (Jvm.Cond.soleField "CarpetEleven" "kinds") := by decide +kernel
theorem wd_459 : lw_tbl[459]? = some (Jvm.Cond.laysFinal "CarpetEleven" "CarpetEleven" "folk" "[LCarpetEleven$Seller;") := by decide +kernel
theorem wd_460 : lw_tbl[460]? = some (Jvm.Cond.soleField "CarpetEleven" "folk") := by decide +kernel
theorem wd_461 : lw_tbl[461]? = some (Jvm.Cond.laysFinal "CarpetEleven" "CarpetEleven" "scene" "LCarpetEleven$Scene;") := by decide +kernel
theorem wd_462 : lw_tbl[462]? = some (Jvm.Cond.soleField "CarpetEleven" "scene") := by decide +kernel
theorem wd_463 : lw_tbl[463]? = some (Jvm.Cond.laysFinal "CarpetEleven" "CarpetEleven" "texts" "[LCarpetEleven$Text;") := by decide +kernel
theorem wd_464 : lw_tbl[464]? = some (Jvm.Cond.soleField "CarpetEleven" "texts") := by decide +kernel
theorem wd_465 : lw_tbl[465]? = some (Jvm.Cond.laysFinal "CarpetEleven" "CarpetEleven" "tape" "LCarpetEleven$Tape;") := by decide +kernel
theorem wd_466 : lw_tbl[466]? = some (Jvm.Cond.soleField "CarpetEleven" "tape") := by decide +kernel
theorem wd_467 : lw_tbl[467]? = some (Jvm.Cond.laysFinal "CarpetEleven" "CarpetEleven" "sheets" "[LCarpetEleven$Sheet;") := by decide +kernel
theorem wd_468 : lw_tbl[468]? = some (Jvm.Cond.soleField "CarpetEleven" "sheets") := by decide +kernel
theorem wd_469 : lw_tbl[469]? = some (Jvm.Cond.lays "CarpetEleven" "CarpetEleven" "folkCount" "I") := by decide +kernel
theorem wd_470 : lw_tbl[470]? = some (Jvm.Cond.soleField "CarpetEleven" "folkCount") := by decide +kernel
theorem wd_471 : lw_tbl[471]? = some (Jvm.Cond.lays "CarpetEleven" "CarpetEleven" "textCount" "I") := by decide +kernel
theorem wd_472 : lw_tbl[472]? = some (Jvm.Cond.soleField "CarpetEleven" "textCount") := by decide +kernel
theorem wd_473 : lw_tbl[473]? = some (Jvm.Cond.laysFinal "CarpetEleven" "CarpetEleven" "thought" "LCarpetEleven$Seller;") := by decide +kernel
theorem wd_474 : lw_tbl[474]? = some (Jvm.Cond.soleField "CarpetEleven" "thought") := by decide +kernel
theorem wd_475 : lw_tbl[475]? = some (Jvm.Cond.laysFinal "CarpetEleven" "CarpetEleven" "crowd" "[LCarpetEleven$Seller;") := by decide +kernel
theorem wd_476 : lw_tbl[476]? = some (Jvm.Cond.soleField "CarpetEleven" "crowd") := by decide +kernel
theorem wd_477 : lw_tbl[477]? = some (Jvm.Cond.laysFinal "CarpetEleven" "CarpetEleven" "thoughtScene" "LCarpetEleven$Scene;") := by decide +kernel
theorem wd_478 : lw_tbl[478]? = some (Jvm.Cond.soleField "CarpetEleven" "thoughtScene") := by decide +kernel
theorem wd_479 : lw_tbl[479]? = some (Jvm.Cond.laysFinal "CarpetEleven" "CarpetEleven" "keptFolk" "[LCarpetEleven$Seller;") := by decide +kernel
theorem wd_480 : lw_tbl[480]? = some (Jvm.Cond.soleField "CarpetEleven" "keptFolk") := by decide +kernel
theorem wd_481 : lw_tbl[481]? = some (Jvm.Cond.laysFinal "CarpetEleven" "CarpetEleven" "keptScene" "LCarpetEleven$Scene;") := by decide +kernel
theorem wd_482 : lw_tbl[482]? = some (Jvm.Cond.soleField "CarpetEleven" "keptScene") := by decide +kernel
theorem wd_483 : lw_tbl[483]? = some (Jvm.Cond.lays "CarpetEleven" "CarpetEleven" "keptCount" "I") := by decide +kernel
theorem wd_484 : lw_tbl[484]? = some (Jvm.Cond.soleField "CarpetEleven" "keptCount") := by decide +kernel
theorem wd_485 : lw_tbl[485]? = some (Jvm.Cond.superclass "CarpetEleven" "java/lang/Object") := by decide +kernel
theorem wd_486 : lw_tbl[486]? = some (Jvm.Cond.methodLink "CarpetElevenLaw" (13 : Nat) ({ cls := "CarpetEleven", name := "seller", desc := "(II)I" } : Jvm.MethodName)) := by decide +kernel
theorem wd_487 : lw_tbl[487]? = some (Jvm.Cond.instanceMethod ({ cls := "CarpetEleven", name := "seller", desc := "(II)I" } : Jvm.MethodName)) := by decide +kernel
theorem wd_488 : lw_tbl[488]? = some (Jvm.Cond.selects "CarpetEleven" ({ cls := "CarpetEleven", name := "seller", desc := "(II)I" } : Jvm.MethodName) ({ cls := "CarpetEleven", name := "seller", desc := "(II)I" } : Jvm.MethodName)) := by decide +kernel
theorem wd_489 : lw_tbl[489]? = some (Jvm.Cond.code ({ cls := "CarpetEleven", name := "seller", desc := "(II)I" } : Jvm.MethodName) prog_1_method_2_code (3 : Nat) (Option.some Jvm.ClassFile.FieldType.int)) := by decide +kernel
theorem wd_490 : lw_tbl[490]? = some (Jvm.Cond.methodLink "CarpetEleven" (118 : Nat) ({ cls := "CarpetEleven", name := "comes", desc := "(II)I" } : Jvm.MethodName)) := by decide +kernel
theorem wd_491 : lw_tbl[491]? = some (Jvm.Cond.privateMethod ({ cls := "CarpetEleven", name := "comes", desc := "(II)I" } : Jvm.MethodName)) := by decide +kernel
theorem wd_492 : lw_tbl[492]? = some (Jvm.Cond.instanceMethod ({ cls := "CarpetEleven", name := "comes", desc := "(II)I" } : Jvm.MethodName)) := by decide +kernel
theorem wd_493 : lw_tbl[493]? = some (Jvm.Cond.code ({ cls := "CarpetEleven", name := "comes", desc := "(II)I" } : Jvm.MethodName) prog_1_method_38_code (4 : Nat) (Option.some Jvm.ClassFile.FieldType.int)) := by decide +kernel
theorem wd_494 : lw_tbl[494]? = some (Jvm.Cond.methodLink "CarpetEleven" (142 : Nat) ({ cls := "CarpetEleven$Seller", name := "begin", desc := "(LCarpetEleven$Scene;)V" } : Jvm.MethodName)) := by decide +kernel
theorem wd_495 : lw_tbl[495]? = some (Jvm.Cond.instanceMethod ({ cls := "CarpetEleven$Seller", name := "begin", desc := "(LCarpetEleven$Scene;)V" } : Jvm.MethodName)) := by decide +kernel
theorem wd_496 : lw_tbl[496]? = some (Jvm.Cond.selects "CarpetEleven$Seller" ({ cls := "CarpetEleven$Seller", name := "begin", desc := "(LCarpetEleven$Scene;)V" } : Jvm.MethodName) ({ cls := "CarpetEleven$Seller", name := "begin", desc := "(LCarpetEleven$Scene;)V" } : Jvm.MethodName)) := by decide +kernel
theorem wd_497 : lw_tbl[497]? = some (Jvm.Cond.code ({ cls := "CarpetEleven$Seller", name := "begin", desc := "(LCarpetEleven$Scene;)V" } : Jvm.MethodName) prog_7_method_4_code (2 : Nat) (Option.none : Option Jvm.ClassFile.FieldType)) := by decide +kernel
theorem wd_498 : lw_tbl[498]? = some (Jvm.Cond.methodLink "CarpetEleven$Seller" (41 : Nat) ({ cls := "CarpetEleven$Scene", name := "first", desc := "(LCarpetEleven$Seller;)I" } : Jvm.MethodName)) := by decide +kernel
theorem wd_499 : lw_tbl[499]? = some (Jvm.Cond.instanceMethod ({ cls := "CarpetEleven$Scene", name := "first", desc := "(LCarpetEleven$Seller;)I" } : Jvm.MethodName)) := by decide +kernel
theorem wd_500 : lw_tbl[500]? = some (Jvm.Cond.selects "CarpetEleven$Scene" ({ cls := "CarpetEleven$Scene", name := "first", desc := "(LCarpetEleven$Seller;)I" } : Jvm.MethodName) ({ cls := "CarpetEleven$Scene", name := "first", desc := "(LCarpetEleven$Seller;)I" } : Jvm.MethodName)) := by decide +kernel
theorem wd_501 : lw_tbl[501]? = some (Jvm.Cond.code ({ cls := "CarpetEleven$Scene", name := "first", desc := "(LCarpetEleven$Seller;)I" } : Jvm.MethodName) prog_6_method_4_code (3 : Nat) (Option.some Jvm.ClassFile.FieldType.int)) := by decide +kernel
theorem wd_502 : lw_tbl[502]? = some (Jvm.Cond.methodLink "CarpetEleven$Scene" (33 : Nat) ({ cls := "CarpetEleven$Text", name := "value", desc := "(IILCarpetEleven$Seller;LCarpetEleven$Scene;I)I" } : Jvm.MethodName)) := by decide +kernel
theorem wd_503 : lw_tbl[503]? = some (Jvm.Cond.instanceMethod ({ cls := "CarpetEleven$Text", name := "value", desc := "(IILCarpetEleven$Seller;LCarpetEleven$Scene;I)I" } : Jvm.MethodName)) := by decide +kernel
theorem wd_504 : lw_tbl[504]? = some (Jvm.Cond.selects "CarpetEleven$Text" ({ cls := "CarpetEleven$Text", name := "value", desc := "(IILCarpetEleven$Seller;LCarpetEleven$Scene;I)I" } : Jvm.MethodName) ({ cls := "CarpetEleven$Text", name := "value", desc := "(IILCarpetEleven$Seller;LCarpetEleven$Scene;I)I" } : Jvm.MethodName)) := by decide +kernel
theorem wd_505 : lw_tbl[505]? = some (Jvm.Cond.code ({ cls := "CarpetEleven$Text", name := "value", desc := "(IILCarpetEleven$Seller;LCarpetEleven$Scene;I)I" } : Jvm.MethodName) prog_12_method_2_code (10 : Nat) (Option.some Jvm.ClassFile.FieldType.int)) := by decide +kernel
theorem wd_506 : lw_tbl[506]? = some (Jvm.Cond.methodLink "CarpetEleven$Text" (35 : Nat) ({ cls := "java/lang/Math", name := "max", desc := "(II)I" } : Jvm.MethodName)) := by decide +kernel
theorem wd_507 : lw_tbl[507]? = some (Jvm.Cond.methodLink "CarpetEleven$Text" (41 : Nat) ({ cls := "CarpetEleven$Text", name := "named", desc := "(ILCarpetEleven$Seller;LCarpetEleven$Scene;I)I" } : Jvm.MethodName)) := by decide +kernel
theorem wd_508 : lw_tbl[508]? = some (Jvm.Cond.static ({ cls := "CarpetEleven$Text", name := "named", desc := "(ILCarpetEleven$Seller;LCarpetEleven$Scene;I)I" } : Jvm.MethodName)) := by decide +kernel
theorem wd_509 : lw_tbl[509]? = some (Jvm.Cond.code ({ cls := "CarpetEleven$Text", name := "named", desc := "(ILCarpetEleven$Seller;LCarpetEleven$Scene;I)I" } : Jvm.MethodName) prog_12_method_3_code (4 : Nat) (Option.some Jvm.ClassFile.FieldType.int)) := by decide +kernel
theorem wd_510 : lw_tbl[510]? = some (Jvm.Cond.methodLink "CarpetEleven$Text" (45 : Nat) ({ cls := "CarpetEleven$Text", name := "joined", desc := "(III)I" } : Jvm.MethodName)) := by decide +kernel
theorem wd_511 : lw_tbl[511]? = some (Jvm.Cond.static ({ cls := "CarpetEleven$Text", name := "joined", desc := "(III)I" } : Jvm.MethodName)) := by decide +kernel
theorem wd_512 : lw_tbl[512]? = some (Jvm.Cond.code ({ cls := "CarpetEleven$Text", name := "joined", desc := "(III)I" } : Jvm.MethodName) prog_12_method_4_code (3 : Nat) (Option.some Jvm.ClassFile.FieldType.int)) := by decide +kernel
theorem wd_513 : lw_tbl[513]? = some (Jvm.Cond.methodLink "CarpetEleven$Scene" (44 : Nat) ({ cls := "CarpetEleven$Scene", name := "least", desc := "(LCarpetEleven$Seller;I)I" } : Jvm.MethodName)) := by decide +kernel
theorem wd_514 : lw_tbl[514]? = some (Jvm.Cond.instanceMethod ({ cls := "CarpetEleven$Scene", name := "least", desc := "(LCarpetEleven$Seller;I)I" } : Jvm.MethodName)) := by decide +kernel
theorem wd_515 : lw_tbl[515]? = some (Jvm.Cond.selects "CarpetEleven$Scene" ({ cls := "CarpetEleven$Scene", name := "least", desc := "(LCarpetEleven$Seller;I)I" } : Jvm.MethodName) ({ cls := "CarpetEleven$Scene", name := "least", desc := "(LCarpetEleven$Seller;I)I" } : Jvm.MethodName)) := by decide +kernel
theorem wd_516 : lw_tbl[516]? = some (Jvm.Cond.code ({ cls := "CarpetEleven$Scene", name := "least", desc := "(LCarpetEleven$Seller;I)I" } : Jvm.MethodName) prog_6_method_3_code (3 : Nat) (Option.some Jvm.ClassFile.FieldType.int)) := by decide +kernel
theorem wd_517 : lw_tbl[517]? = some (Jvm.Cond.methodLinkNest "CarpetEleven$Scene" (37 : Nat) ({ cls := "CarpetEleven", name := "within", desc := "(III)I" } : Jvm.MethodName) "CarpetEleven") := by decide +kernel
theorem wd_518 : lw_tbl[518]? = some (Jvm.Cond.methodLink "CarpetElevenLaw" (18 : Nat) ({ cls := "CarpetEleven", name := "set", desc := "(III)I" } : Jvm.MethodName)) := by decide +kernel
theorem wd_519 : lw_tbl[519]? = some (Jvm.Cond.instanceMethod ({ cls := "CarpetEleven", name := "set", desc := "(III)I" } : Jvm.MethodName)) := by decide +kernel
theorem wd_520 : lw_tbl[520]? = some (Jvm.Cond.selects "CarpetEleven" ({ cls := "CarpetEleven", name := "set", desc := "(III)I" } : Jvm.MethodName) ({ cls := "CarpetEleven", name := "set", desc := "(III)I" } : Jvm.MethodName)) := by decide +kernel
theorem wd_521 : lw_tbl[521]? = some (Jvm.Cond.code ({ cls := "CarpetEleven", name := "set", desc := "(III)I" } : Jvm.MethodName) prog_1_method_3_code (5 : Nat) (Option.some Jvm.ClassFile.FieldType.int)) := by decide +kernel
theorem wd_522 : lw_tbl[522]? = some (Jvm.Cond.methodLink "CarpetEleven" (122 : Nat) ({ cls := "CarpetEleven", name := "setCost", desc := "(II)I" } : Jvm.MethodName)) := by decide +kernel
theorem wd_523 : lw_tbl[523]? = some (Jvm.Cond.privateMethod ({ cls := "CarpetEleven", name := "setCost", desc := "(II)I" } : Jvm.MethodName)) := by decide +kernel
theorem wd_524 : lw_tbl[524]? = some (Jvm.Cond.instanceMethod ({ cls := "CarpetEleven", name := "setCost", desc := "(II)I" } : Jvm.MethodName)) := by decide +kernel
theorem wd_525 : lw_tbl[525]? = some (Jvm.Cond.code ({ cls := "CarpetEleven", name := "setCost", desc := "(II)I" } : Jvm.MethodName) prog_1_method_39_code (4 : Nat) (Option.some Jvm.ClassFile.FieldType.int)) := by decide +kernel
theorem wd_526 : lw_tbl[526]? = some (Jvm.Cond.methodLink "CarpetEleven" (138 : Nat) ({ cls := "CarpetEleven", name := "isSeller", desc := "(I)Z" } : Jvm.MethodName)) := by decide +kernel
theorem wd_527 : lw_tbl[527]? = some (Jvm.Cond.privateMethod ({ cls := "CarpetEleven", name := "isSeller", desc := "(I)Z" } : Jvm.MethodName)) := by decide +kernel
theorem wd_528 : lw_tbl[528]? = some (Jvm.Cond.instanceMethod ({ cls := "CarpetEleven", name := "isSeller", desc := "(I)Z" } : Jvm.MethodName)) := by decide +kernel
theorem wd_529 : lw_tbl[529]? = some (Jvm.Cond.code ({ cls := "CarpetEleven", name := "isSeller", desc := "(I)Z" } : Jvm.MethodName) prog_1_method_30_code (2 : Nat) (Option.some Jvm.ClassFile.FieldType.boolean)) := by decide +kernel
theorem wd_530 : lw_tbl[530]? = some (Jvm.Cond.methodLink "CarpetEleven" (125 : Nat) ({ cls := "CarpetEleven", name := "topOf", desc := "(I)I" } : Jvm.MethodName)) := by decide +kernel
theorem wd_531 : lw_tbl[531]? = some (Jvm.Cond.static ({ cls := "CarpetEleven", name := "topOf", desc := "(I)I" } : Jvm.MethodName)) := by decide +kernel
theorem wd_532 : lw_tbl[532]? = some (Jvm.Cond.code ({ cls := "CarpetEleven", name := "topOf", desc := "(I)I" } : Jvm.MethodName) prog_1_method_34_code (1 : Nat) (Option.some Jvm.ClassFile.FieldType.int)) := by decide +kernel
theorem wd_533 : lw_tbl[533]? = some (Jvm.Cond.methodLink "CarpetElevenLaw" (23 : Nat) ({ cls := "CarpetEleven", name := "anew", desc := "(I)I" } : Jvm.MethodName)) := by decide +kernel
theorem wd_534 : lw_tbl[534]? = some (Jvm.Cond.instanceMethod ({ cls := "CarpetEleven", name := "anew", desc := "(I)I" } : Jvm.MethodName)) := by decide +kernel
theorem wd_535 : lw_tbl[535]? = some (Jvm.Cond.selects "CarpetEleven" ({ cls := "CarpetEleven", name := "anew", desc := "(I)I" } : Jvm.MethodName) ({ cls := "CarpetEleven", name := "anew", desc := "(I)I" } : Jvm.MethodName)) := by decide +kernel
theorem wd_536 : lw_tbl[536]? = some (Jvm.Cond.code ({ cls := "CarpetEleven", name := "anew", desc := "(I)I" } : Jvm.MethodName) prog_1_method_4_code (2 : Nat) (Option.some Jvm.ClassFile.FieldType.int)) := by decide +kernel
theorem wd_537 : lw_tbl[537]? = some (Jvm.Cond.methodLink "CarpetElevenLaw" (28 : Nat) ({ cls := "CarpetEleven", name := "told", desc := "(II)I" } : Jvm.MethodName)) := by decide +kernel
theorem wd_538 : lw_tbl[538]? = some (Jvm.Cond.instanceMethod ({ cls := "CarpetEleven", name := "told", desc := "(II)I" } : Jvm.MethodName)) := by decide +kernel
theorem wd_539 : lw_tbl[539]? = some (Jvm.Cond.selects "CarpetEleven" ({ cls := "CarpetEleven", name := "told", desc := "(II)I" } : Jvm.MethodName) ({ cls := "CarpetEleven", name := "told", desc := "(II)I" } : Jvm.MethodName)) := by decide +kernel
theorem wd_540 : lw_tbl[540]? = some (Jvm.Cond.code ({ cls := "CarpetEleven", name := "told", desc := "(II)I" } : Jvm.MethodName) prog_1_method_5_code (4 : Nat) (Option.some Jvm.ClassFile.FieldType.int)) := by decide +kernel
theorem wd_541 : lw_tbl[541]? = some (Jvm.Cond.methodLink "CarpetEleven" (167 : Nat) ({ cls := "CarpetEleven$Scene", name := "least", desc := "(LCarpetEleven$Seller;I)I" } : Jvm.MethodName)) := by decide +kernel
theorem wd_542 : lw_tbl[542]? = some (Jvm.Cond.methodLink "CarpetEleven" (175 : Nat) ({ cls := "CarpetEleven$Kind", name := "stays", desc := "(I)I" } : Jvm.MethodName)) := by decide +kernel
theorem wd_543 : lw_tbl[543]? = some (Jvm.Cond.instanceMethod ({ cls := "CarpetEleven$Kind", name := "stays", desc := "(I)I" } : Jvm.MethodName)) := by decide +kernel
theorem wd_544 : lw_tbl[544]? = some (Jvm.Cond.selects "CarpetEleven$Kind" ({ cls := "CarpetEleven$Kind", name := "stays", desc := "(I)I" } : Jvm.MethodName) ({ cls := "CarpetEleven$Kind", name := "stays", desc := "(I)I" } : Jvm.MethodName)) := by decide +kernel
theorem wd_545 : lw_tbl[545]? = some (Jvm.Cond.sameMethod "CarpetEleven$Kind" "CarpetEleven$Kind" "stays" "(I)I") := by decide +kernel
theorem wd_546 : lw_tbl[546]? = some (Jvm.Cond.selects "CarpetEleven$Brother" ({ cls := "CarpetEleven$Kind", name := "stays", desc := "(I)I" } : Jvm.MethodName) ({ cls := "CarpetEleven$Halver", name := "stays", desc := "(I)I" } : Jvm.MethodName)) := by decide +kernel
theorem wd_547 : lw_tbl[547]? = some (Jvm.Cond.instanceMethod ({ cls := "CarpetEleven$Halver", name := "stays", desc := "(I)I" } : Jvm.MethodName)) := by decide +kernel
theorem wd_548 : lw_tbl[548]? = some (Jvm.Cond.code ({ cls := "CarpetEleven$Halver", name := "stays", desc := "(I)I" } : Jvm.MethodName) prog_4_method_3_code (2 : Nat) (Option.some Jvm.ClassFile.FieldType.int)) := by decide +kernel
theorem wd_549 : lw_tbl[549]? = some (Jvm.Cond.methodLink "CarpetEleven$Halver" (11 : Nat) ({ cls := "CarpetEleven$Kind", name := "stays", desc := "(I)I" } : Jvm.MethodName)) := by decide +kernel
theorem wd_550 : lw_tbl[550]? = some (Jvm.Cond.selects "CarpetEleven$Eager" ({ cls := "CarpetEleven$Kind", name := "stays", desc := "(I)I" } : Jvm.MethodName) ({ cls := "CarpetEleven$Eager", name := "stays", desc := "(I)I" } : Jvm.MethodName)) := by decide +kernel
theorem wd_551 : lw_tbl[551]? = some (Jvm.Cond.instanceMethod ({ cls := "CarpetEleven$Eager", name := "stays", desc := "(I)I" } : Jvm.MethodName)) := by decide +kernel
theorem wd_552 : lw_tbl[552]? = some (Jvm.Cond.code ({ cls := "CarpetEleven$Eager", name := "stays", desc := "(I)I" } : Jvm.MethodName) prog_3_method_4_code (2 : Nat) (Option.some Jvm.ClassFile.FieldType.int)) := by decide +kernel
theorem wd_553 : lw_tbl[553]? = some (Jvm.Cond.methodLink "CarpetEleven$Eager" (11 : Nat) ({ cls := "CarpetEleven$Halver", name := "stays", desc := "(I)I" } : Jvm.MethodName)) := by decide +kernel
theorem wd_554 : lw_tbl[554]? = some (Jvm.Cond.selects "CarpetEleven$Halver" ({ cls := "CarpetEleven$Kind", name := "stays", desc := "(I)I" } : Jvm.MethodName) ({ cls := "CarpetEleven$Halver", name := "stays", desc := "(I)I" } : Jvm.MethodName)) := by decide +kernel
theorem wd_555 : lw_tbl[555]? = some (Jvm.Cond.selects "CarpetEleven$Slip" ({ cls := "CarpetEleven$Kind", name := "stays", desc := "(I)I" } : Jvm.MethodName) ({ cls := "CarpetEleven$Slip", name := "stays", desc := "(I)I" } : Jvm.MethodName)) := by decide +kernel
theorem wd_556 : lw_tbl[556]? = some (Jvm.Cond.instanceMethod ({ cls := "CarpetEleven$Slip", name := "stays", desc := "(I)I" } : Jvm.MethodName)) := by decide +kernel
theorem wd_557 : lw_tbl[557]? = some (Jvm.Cond.code ({ cls := "CarpetEleven$Slip", name := "stays", desc := "(I)I" } : Jvm.MethodName) prog_9_method_4_code (2 : Nat) (Option.some Jvm.ClassFile.FieldType.int)) := by decide +kernel
theorem wd_558 : lw_tbl[558]? = some (Jvm.Cond.methodLink "CarpetEleven$Slip" (7 : Nat) ({ cls := "CarpetEleven$Stiff", name := "stays", desc := "(I)I" } : Jvm.MethodName)) := by decide +kernel
theorem wd_559 : lw_tbl[559]? = some (Jvm.Cond.instanceMethod ({ cls := "CarpetEleven$Stiff", name := "stays", desc := "(I)I" } : Jvm.MethodName)) := by decide +kernel
theorem wd_560 : lw_tbl[560]? = some (Jvm.Cond.code ({ cls := "CarpetEleven$Stiff", name := "stays", desc := "(I)I" } : Jvm.MethodName) prog_10_method_3_code (2 : Nat) (Option.some Jvm.ClassFile.FieldType.int)) := by decide +kernel
theorem wd_561 : lw_tbl[561]? = some (Jvm.Cond.methodLink "CarpetEleven$Stiff" (17 : Nat) ({ cls := "CarpetEleven$Kind", name := "stays", desc := "(I)I" } : Jvm.MethodName)) := by decide +kernel
theorem wd_562 : lw_tbl[562]? = some (Jvm.Cond.selects "CarpetEleven$Stiff" ({ cls := "CarpetEleven$Kind", name := "stays", desc := "(I)I" } : Jvm.MethodName) ({ cls := "CarpetEleven$Stiff", name := "stays", desc := "(I)I" } : Jvm.MethodName)) := by decide +kernel
theorem wd_563 : lw_tbl[563]? = some (Jvm.Cond.code ({ cls := "CarpetEleven$Kind", name := "stays", desc := "(I)I" } : Jvm.MethodName) prog_5_method_4_code (2 : Nat) (Option.some Jvm.ClassFile.FieldType.int)) := by decide +kernel
theorem wd_564 : lw_tbl[564]? = some (Jvm.Cond.methodLink "CarpetElevenLaw" (32 : Nat) ({ cls := "CarpetEleven", name := "feed", desc := "(I)I" } : Jvm.MethodName)) := by decide +kernel
theorem wd_565 : lw_tbl[565]? = some (Jvm.Cond.instanceMethod ({ cls := "CarpetEleven", name := "feed", desc := "(I)I" } : Jvm.MethodName)) := by decide +kernel
theorem wd_566 : lw_tbl[566]? = some (Jvm.Cond.selects "CarpetEleven" ({ cls := "CarpetEleven", name := "feed", desc := "(I)I" } : Jvm.MethodName) ({ cls := "CarpetEleven", name := "feed", desc := "(I)I" } : Jvm.MethodName)) := by decide +kernel
theorem wd_567 : lw_tbl[567]? = some (Jvm.Cond.code ({ cls := "CarpetEleven", name := "feed", desc := "(I)I" } : Jvm.MethodName) prog_1_method_6_code (2 : Nat) (Option.some Jvm.ClassFile.FieldType.int)) := by decide +kernel
theorem wd_568 : lw_tbl[568]? = some (Jvm.Cond.methodLink "CarpetElevenLaw" (36 : Nat) ({ cls := "CarpetEleven", name := "text", desc := "()I" } : Jvm.MethodName)) := by decide +kernel
theorem wd_569 : lw_tbl[569]? = some (Jvm.Cond.instanceMethod ({ cls := "CarpetEleven", name := "text", desc := "()I" } : Jvm.MethodName)) := by decide +kernel
theorem wd_570 : lw_tbl[570]? = some (Jvm.Cond.selects "CarpetEleven" ({ cls := "CarpetEleven", name := "text", desc := "()I" } : Jvm.MethodName) ({ cls := "CarpetEleven", name := "text", desc := "()I" } : Jvm.MethodName)) := by decide +kernel
theorem wd_571 : lw_tbl[571]? = some (Jvm.Cond.code ({ cls := "CarpetEleven", name := "text", desc := "()I" } : Jvm.MethodName) prog_1_method_7_code (2 : Nat) (Option.some Jvm.ClassFile.FieldType.int)) := by decide +kernel
theorem wd_572 : lw_tbl[572]? = some (Jvm.Cond.methodLink "CarpetElevenLaw" (41 : Nat) ({ cls := "CarpetEleven", name := "force", desc := "(I)I" } : Jvm.MethodName)) := by decide +kernel
theorem wd_573 : lw_tbl[573]? = some (Jvm.Cond.instanceMethod ({ cls := "CarpetEleven", name := "force", desc := "(I)I" } : Jvm.MethodName)) := by decide +kernel
theorem wd_574 : lw_tbl[574]? = some (Jvm.Cond.selects "CarpetEleven" ({ cls := "CarpetEleven", name := "force", desc := "(I)I" } : Jvm.MethodName) ({ cls := "CarpetEleven", name := "force", desc := "(I)I" } : Jvm.MethodName)) := by decide +kernel
theorem wd_575 : lw_tbl[575]? = some (Jvm.Cond.code ({ cls := "CarpetEleven", name := "force", desc := "(I)I" } : Jvm.MethodName) prog_1_method_8_code (3 : Nat) (Option.some Jvm.ClassFile.FieldType.int)) := by decide +kernel
theorem wd_576 : lw_tbl[576]? = some (Jvm.Cond.methodLink "CarpetElevenLaw" (45 : Nat) ({ cls := "CarpetEleven", name := "word", desc := "(II)I" } : Jvm.MethodName)) := by decide +kernel
theorem wd_577 : lw_tbl[577]? = some (Jvm.Cond.instanceMethod ({ cls := "CarpetEleven", name := "word", desc := "(II)I" } : Jvm.MethodName)) := by decide +kernel
theorem wd_578 : lw_tbl[578]? = some (Jvm.Cond.selects "CarpetEleven" ({ cls := "CarpetEleven", name := "word", desc := "(II)I" } : Jvm.MethodName) ({ cls := "CarpetEleven", name := "word", desc := "(II)I" } : Jvm.MethodName)) := by decide +kernel
theorem wd_579 : lw_tbl[579]? = some (Jvm.Cond.code ({ cls := "CarpetEleven", name := "word", desc := "(II)I" } : Jvm.MethodName) prog_1_method_9_code (3 : Nat) (Option.some Jvm.ClassFile.FieldType.int)) := by decide +kernel
theorem wd_580 : lw_tbl[580]? = some (Jvm.Cond.methodLink "CarpetEleven" (188 : Nat) ({ cls := "CarpetEleven", name := "isBid", desc := "(I)Z" } : Jvm.MethodName)) := by decide +kernel
theorem wd_581 : lw_tbl[581]? = some (Jvm.Cond.static ({ cls := "CarpetEleven", name := "isBid", desc := "(I)Z" } : Jvm.MethodName)) := by decide +kernel
theorem wd_582 : lw_tbl[582]? = some (Jvm.Cond.code ({ cls := "CarpetEleven", name := "isBid", desc := "(I)Z" } : Jvm.MethodName) prog_1_method_32_code (1 : Nat) (Option.some Jvm.ClassFile.FieldType.boolean)) := by decide +kernel
theorem wd_583 : lw_tbl[583]? = some (Jvm.Cond.methodLink "CarpetEleven" (191 : Nat) ({ cls := "CarpetEleven$Seller", name := "hear", desc := "(ILCarpetEleven$Scene;)V" } : Jvm.MethodName)) := by decide +kernel
theorem wd_584 : lw_tbl[584]? = some (Jvm.Cond.instanceMethod ({ cls := "CarpetEleven$Seller", name := "hear", desc := "(ILCarpetEleven$Scene;)V" } : Jvm.MethodName)) := by decide +kernel
theorem wd_585 : lw_tbl[585]? = some (Jvm.Cond.selects "CarpetEleven$Seller" ({ cls := "CarpetEleven$Seller", name := "hear", desc := "(ILCarpetEleven$Scene;)V" } : Jvm.MethodName) ({ cls := "CarpetEleven$Seller", name := "hear", desc := "(ILCarpetEleven$Scene;)V" } : Jvm.MethodName)) := by decide +kernel
theorem wd_586 : lw_tbl[586]? = some (Jvm.Cond.code ({ cls := "CarpetEleven$Seller", name := "hear", desc := "(ILCarpetEleven$Scene;)V" } : Jvm.MethodName) prog_7_method_6_code (5 : Nat) (Option.none : Option Jvm.ClassFile.FieldType)) := by decide +kernel
theorem wd_587 : lw_tbl[587]? = some (Jvm.Cond.methodLink "CarpetEleven$Seller" (47 : Nat) ({ cls := "CarpetEleven$Scene", name := "least", desc := "(LCarpetEleven$Seller;I)I" } : Jvm.MethodName)) := by decide +kernel
theorem wd_588 : lw_tbl[588]? = some (Jvm.Cond.methodLink "CarpetEleven$Seller" (54 : Nat) ({ cls := "CarpetEleven$Kind", name := "steps", desc := "(IIIII)I" } : Jvm.MethodName)) := by decide +kernel
theorem wd_589 : lw_tbl[589]? = some (Jvm.Cond.instanceMethod ({ cls := "CarpetEleven$Kind", name := "steps", desc := "(IIIII)I" } : Jvm.MethodName)) := by decide +kernel
theorem wd_590 : lw_tbl[590]? = some (Jvm.Cond.selects "CarpetEleven$Kind" ({ cls := "CarpetEleven$Kind", name := "steps", desc := "(IIIII)I" } : Jvm.MethodName) ({ cls := "CarpetEleven$Kind", name := "steps", desc := "(IIIII)I" } : Jvm.MethodName)) := by decide +kernel
theorem wd_591 : lw_tbl[591]? = some (Jvm.Cond.sameMethod "CarpetEleven$Kind" "CarpetEleven$Kind" "steps" "(IIIII)I") := by decide +kernel
theorem wd_592 : lw_tbl[592]? = some (Jvm.Cond.selects "CarpetEleven$Brother" ({ cls := "CarpetEleven$Kind", name := "steps", desc := "(IIIII)I" } : Jvm.MethodName) ({ cls := "CarpetEleven$Brother", name := "steps", desc := "(IIIII)I" } : Jvm.MethodName)) := by decide +kernel
theorem wd_593 : lw_tbl[593]? = some (Jvm.Cond.instanceMethod ({ cls := "CarpetEleven$Brother", name := "steps", desc := "(IIIII)I" } : Jvm.MethodName)) := by decide +kernel
theorem wd_594 : lw_tbl[594]? = some (Jvm.Cond.code ({ cls := "CarpetEleven$Brother", name := "steps", desc := "(IIIII)I" } : Jvm.MethodName) prog_2_method_2_code (6 : Nat) (Option.some Jvm.ClassFile.FieldType.int)) := by decide +kernel
theorem wd_595 : lw_tbl[595]? = some (Jvm.Cond.methodLink "CarpetEleven$Brother" (7 : Nat) ({ cls := "CarpetEleven$Halver", name := "steps", desc := "(IIIII)I" } : Jvm.MethodName)) := by decide +kernel
theorem wd_596 : lw_tbl[596]? = some (Jvm.Cond.instanceMethod ({ cls := "CarpetEleven$Halver", name := "steps", desc := "(IIIII)I" } : Jvm.MethodName)) := by decide +kernel
theorem wd_597 : lw_tbl[597]? = some (Jvm.Cond.code ({ cls := "CarpetEleven$Halver", name := "steps", desc := "(IIIII)I" } : Jvm.MethodName) prog_4_method_2_code (6 : Nat) (Option.some Jvm.ClassFile.FieldType.int)) := by decide +kernel
theorem wd_598 : lw_tbl[598]? = some (Jvm.Cond.methodLink "CarpetEleven$Halver" (7 : Nat) ({ cls := "CarpetEleven$Kind", name := "steps", desc := "(IIIII)I" } : Jvm.MethodName)) := by decide +kernel
theorem wd_599 : lw_tbl[599]? = some (Jvm.Cond.selects "CarpetEleven$Eager" ({ cls := "CarpetEleven$Kind", name := "steps", desc := "(IIIII)I" } : Jvm.MethodName) ({ cls := "CarpetEleven$Eager", name := "steps", desc := "(IIIII)I" } : Jvm.MethodName)) := by decide +kernel
theorem wd_600 : lw_tbl[600]? = some (Jvm.Cond.instanceMethod ({ cls := "CarpetEleven$Eager", name := "steps", desc := "(IIIII)I" } : Jvm.MethodName)) := by decide +kernel
theorem wd_601 : lw_tbl[601]? = some (Jvm.Cond.code ({ cls := "CarpetEleven$Eager", name := "steps", desc := "(IIIII)I" } : Jvm.MethodName) prog_3_method_2_code (6 : Nat) (Option.some Jvm.ClassFile.FieldType.int)) := by decide +kernel
theorem wd_602 : lw_tbl[602]? = some (Jvm.Cond.methodLink "CarpetEleven$Eager" (7 : Nat) ({ cls := "CarpetEleven$Halver", name := "steps", desc := "(IIIII)I" } : Jvm.MethodName)) := by decide +kernel
theorem wd_603 : lw_tbl[603]? = some (Jvm.Cond.selects "CarpetEleven$Halver" ({ cls := "CarpetEleven$Kind", name := "steps", desc := "(IIIII)I" } : Jvm.MethodName) ({ cls := "CarpetEleven$Halver", name := "steps", desc := "(IIIII)I" } : Jvm.MethodName)) := by decide +kernel
theorem wd_604 : lw_tbl[604]? = some (Jvm.Cond.selects "CarpetEleven$Slip" ({ cls := "CarpetEleven$Kind", name := "steps", desc := "(IIIII)I" } : Jvm.MethodName) ({ cls := "CarpetEleven$Slip", name := "steps", desc := "(IIIII)I" } : Jvm.MethodName)) := by decide +kernel
theorem wd_605 : lw_tbl[605]? = some (Jvm.Cond.instanceMethod ({ cls := "CarpetEleven$Slip", name := "steps", desc := "(IIIII)I" } : Jvm.MethodName)) := by decide +kernel
theorem wd_606 : lw_tbl[606]? = some (Jvm.Cond.code ({ cls := "CarpetEleven$Slip", name := "steps", desc := "(IIIII)I" } : Jvm.MethodName) prog_9_method_2_code (6 : Nat) (Option.some Jvm.ClassFile.FieldType.int)) := by decide +kernel
theorem wd_607 : lw_tbl[607]? = some (Jvm.Cond.selects "CarpetEleven$Stiff" ({ cls := "CarpetEleven$Kind", name := "steps", desc := "(IIIII)I" } : Jvm.MethodName) ({ cls := "CarpetEleven$Stiff", name := "steps", desc := "(IIIII)I" } : Jvm.MethodName)) := by decide +kernel
theorem wd_608 : lw_tbl[608]? = some (Jvm.Cond.instanceMethod ({ cls := "CarpetEleven$Stiff", name := "steps", desc := "(IIIII)I" } : Jvm.MethodName)) := by decide +kernel
theorem wd_609 : lw_tbl[609]? = some (Jvm.Cond.code ({ cls := "CarpetEleven$Stiff", name := "steps", desc := "(IIIII)I" } : Jvm.MethodName) prog_10_method_2_code (6 : Nat) (Option.some Jvm.ClassFile.FieldType.int)) := by decide +kernel
theorem wd_610 : lw_tbl[610]? = some (Jvm.Cond.methodLink "CarpetEleven$Stiff" (7 : Nat) ({ cls := "CarpetEleven$Kind", name := "steps", desc := "(IIIII)I" } : Jvm.MethodName)) := by decide +kernel
theorem wd_611 : lw_tbl[611]? = some (Jvm.Cond.methodLink "CarpetEleven$Stiff" (11 : Nat) ({ cls := "java/lang/Math", name := "min", desc := "(II)I" } : Jvm.MethodName)) := by decide +kernel
theorem wd_612 : lw_tbl[612]? = some (Jvm.Cond.code ({ cls := "CarpetEleven$Kind", name := "steps", desc := "(IIIII)I" } : Jvm.MethodName) prog_5_method_2_code (6 : Nat) (Option.some Jvm.ClassFile.FieldType.int)) := by decide +kernel
theorem wd_613 : lw_tbl[613]? = some (Jvm.Cond.methodLink "CarpetEleven$Seller" (60 : Nat) ({ cls := "CarpetEleven$Scene", name := "pull", desc := "(LCarpetEleven$Seller;I)I" } : Jvm.MethodName)) := by decide +kernel
theorem wd_614 : lw_tbl[614]? = some (Jvm.Cond.instanceMethod ({ cls := "CarpetEleven$Scene", name := "pull", desc := "(LCarpetEleven$Seller;I)I" } : Jvm.MethodName)) := by decide +kernel
theorem wd_615 : lw_tbl[615]? = some (Jvm.Cond.selects "CarpetEleven$Scene" ({ cls := "CarpetEleven$Scene", name := "pull", desc := "(LCarpetEleven$Seller;I)I" } : Jvm.MethodName) ({ cls := "CarpetEleven$Scene", name := "pull", desc := "(LCarpetEleven$Seller;I)I" } : Jvm.MethodName)) := by decide +kernel
theorem wd_616 : lw_tbl[616]? = some (Jvm.Cond.code ({ cls := "CarpetEleven$Scene", name := "pull", desc := "(LCarpetEleven$Seller;I)I" } : Jvm.MethodName) prog_6_method_5_code (4 : Nat) (Option.some Jvm.ClassFile.FieldType.int)) := by decide +kernel
theorem wd_617 : lw_tbl[617]? = some (Jvm.Cond.methodLink "CarpetEleven$Seller" (63 : Nat) ({ cls := "java/lang/Math", name := "max", desc := "(II)I" } : Jvm.MethodName)) := by decide +kernel
theorem wd_618 : lw_tbl[618]? = some (Jvm.Cond.methodLink "CarpetEleven$Seller" (69 : Nat) ({ cls := "java/lang/Math", name := "min", desc := "(II)I" } : Jvm.MethodName)) := by decide +kernel
theorem wd_619 : lw_tbl[619]? = some (Jvm.Cond.methodLink "CarpetEleven$Seller" (72 : Nat) ({ cls := "CarpetEleven$Kind", name := "takes", desc := "(IIIII)Z" } : Jvm.MethodName)) := by decide +kernel
theorem wd_620 : lw_tbl[620]? = some (Jvm.Cond.instanceMethod ({ cls := "CarpetEleven$Kind", name := "takes", desc := "(IIIII)Z" } : Jvm.MethodName)) := by decide +kernel
theorem wd_621 : lw_tbl[621]? = some (Jvm.Cond.selects "CarpetEleven$Kind" ({ cls := "CarpetEleven$Kind", name := "takes", desc := "(IIIII)Z" } : Jvm.MethodName) ({ cls := "CarpetEleven$Kind", name := "takes", desc := "(IIIII)Z" } : Jvm.MethodName)) := by decide +kernel
theorem wd_622 : lw_tbl[622]? = some (Jvm.Cond.sameMethod "CarpetEleven$Kind" "CarpetEleven$Kind" "takes" "(IIIII)Z") := by decide +kernel
theorem wd_623 : lw_tbl[623]? = some (Jvm.Cond.selects "CarpetEleven$Brother" ({ cls := "CarpetEleven$Kind", name := "takes", desc := "(IIIII)Z" } : Jvm.MethodName) ({ cls := "CarpetEleven$Brother", name := "takes", desc := "(IIIII)Z" } : Jvm.MethodName)) := by decide +kernel
theorem wd_624 : lw_tbl[624]? = some (Jvm.Cond.instanceMethod ({ cls := "CarpetEleven$Brother", name := "takes", desc := "(IIIII)Z" } : Jvm.MethodName)) := by decide +kernel
theorem wd_625 : lw_tbl[625]? = some (Jvm.Cond.code ({ cls := "CarpetEleven$Brother", name := "takes", desc := "(IIIII)Z" } : Jvm.MethodName) prog_2_method_3_code (6 : Nat) (Option.some Jvm.ClassFile.FieldType.boolean)) := by decide +kernel
theorem wd_626 : lw_tbl[626]? = some (Jvm.Cond.methodLink "CarpetEleven$Brother" (11 : Nat) ({ cls := "CarpetEleven$Halver", name := "takes", desc := "(IIIII)Z" } : Jvm.MethodName)) := by decide +kernel
theorem wd_627 : lw_tbl[627]? = some (Jvm.Cond.sameMethod "CarpetEleven$Halver" "CarpetEleven$Kind" "takes" "(IIIII)Z") := by decide +kernel
theorem wd_628 : lw_tbl[628]? = some (Jvm.Cond.declares ({ cls := "CarpetEleven$Kind", name := "takes", desc := "(IIIII)Z" } : Jvm.MethodName)) := by decide +kernel
theorem wd_629 : lw_tbl[629]? = some (Jvm.Cond.selects "CarpetEleven$Eager" ({ cls := "CarpetEleven$Kind", name := "takes", desc := "(IIIII)Z" } : Jvm.MethodName) ({ cls := "CarpetEleven$Eager", name := "takes", desc := "(IIIII)Z" } : Jvm.MethodName)) := by decide +kernel
theorem wd_630 : lw_tbl[630]? = some (Jvm.Cond.instanceMethod ({ cls := "CarpetEleven$Eager", name := "takes", desc := "(IIIII)Z" } : Jvm.MethodName)) := by decide +kernel
theorem wd_631 : lw_tbl[631]? = some (Jvm.Cond.code ({ cls := "CarpetEleven$Eager", name := "takes", desc := "(IIIII)Z" } : Jvm.MethodName) prog_3_method_3_code (6 : Nat) (Option.some Jvm.ClassFile.FieldType.boolean)) := by decide +kernel
theorem wd_632 : lw_tbl[632]? = some (Jvm.Cond.selects "CarpetEleven$Halver" ({ cls := "CarpetEleven$Kind", name := "takes", desc := "(IIIII)Z" } : Jvm.MethodName) ({ cls := "CarpetEleven$Kind", name := "takes", desc := "(IIIII)Z" } : Jvm.MethodName)) := by decide +kernel
theorem wd_633 : lw_tbl[633]? = some (Jvm.Cond.selects "CarpetEleven$Slip" ({ cls := "CarpetEleven$Kind", name := "takes", desc := "(IIIII)Z" } : Jvm.MethodName) ({ cls := "CarpetEleven$Slip", name := "takes", desc := "(IIIII)Z" } : Jvm.MethodName)) := by decide +kernel
theorem wd_634 : lw_tbl[634]? = some (Jvm.Cond.instanceMethod ({ cls := "CarpetEleven$Slip", name := "takes", desc := "(IIIII)Z" } : Jvm.MethodName)) := by decide +kernel
theorem wd_635 : lw_tbl[635]? = some (Jvm.Cond.code ({ cls := "CarpetEleven$Slip", name := "takes", desc := "(IIIII)Z" } : Jvm.MethodName) prog_9_method_3_code (6 : Nat) (Option.some Jvm.ClassFile.FieldType.boolean)) := by decide +kernel
theorem wd_636 : lw_tbl[636]? = some (Jvm.Cond.selects "CarpetEleven$Stiff" ({ cls := "CarpetEleven$Kind", name := "takes", desc := "(IIIII)Z" } : Jvm.MethodName) ({ cls := "CarpetEleven$Kind", name := "takes", desc := "(IIIII)Z" } : Jvm.MethodName)) := by decide +kernel
theorem wd_637 : lw_tbl[637]? = some (Jvm.Cond.code ({ cls := "CarpetEleven$Kind", name := "takes", desc := "(IIIII)Z" } : Jvm.MethodName) prog_5_method_3_code (6 : Nat) (Option.some Jvm.ClassFile.FieldType.boolean)) := by decide +kernel
theorem wd_638 : lw_tbl[638]? = some (Jvm.Cond.methodLink "CarpetEleven$Seller" (76 : Nat) ({ cls := "CarpetEleven$Seller", name := "sellAt", desc := "(I)V" } : Jvm.MethodName)) := by decide +kernel
theorem wd_639 : lw_tbl[639]? = some (Jvm.Cond.instanceMethod ({ cls := "CarpetEleven$Seller", name := "sellAt", desc := "(I)V" } : Jvm.MethodName)) := by decide +kernel
theorem wd_640 : lw_tbl[640]? = some (Jvm.Cond.selects "CarpetEleven$Seller" ({ cls := "CarpetEleven$Seller", name := "sellAt", desc := "(I)V" } : Jvm.MethodName) ({ cls := "CarpetEleven$Seller", name := "sellAt", desc := "(I)V" } : Jvm.MethodName)) := by decide +kernel
theorem wd_641 : lw_tbl[641]? = some (Jvm.Cond.code ({ cls := "CarpetEleven$Seller", name := "sellAt", desc := "(I)V" } : Jvm.MethodName) prog_7_method_5_code (2 : Nat) (Option.none : Option Jvm.ClassFile.FieldType)) := by decide +kernel
theorem wd_642 : lw_tbl[642]? = some (Jvm.Cond.methodLink "CarpetEleven$Seller" (80 : Nat) ({ cls := "CarpetEleven$Kind", name := "stays", desc := "(I)I" } : Jvm.MethodName)) := by decide +kernel
theorem wd_643 : lw_tbl[643]? = some (Jvm.Cond.methodLink "CarpetElevenLaw" (49 : Nat) ({ cls := "CarpetEleven", name := "agree", desc := "(I)I" } : Jvm.MethodName)) := by decide +kernel
theorem wd_644 : lw_tbl[644]? = some (Jvm.Cond.instanceMethod ({ cls := "CarpetEleven", name := "agree", desc := "(I)I" } : Jvm.MethodName)) := by decide +kernel
theorem wd_645 : lw_tbl[645]? = some (Jvm.Cond.selects "CarpetEleven" ({ cls := "CarpetEleven", name := "agree", desc := "(I)I" } : Jvm.MethodName) ({ cls := "CarpetEleven", name := "agree", desc := "(I)I" } : Jvm.MethodName)) := by decide +kernel
theorem wd_646 : lw_tbl[646]? = some (Jvm.Cond.code ({ cls := "CarpetEleven", name := "agree", desc := "(I)I" } : Jvm.MethodName) prog_1_method_10_code (2 : Nat) (Option.some Jvm.ClassFile.FieldType.int)) := by decide +kernel
theorem wd_647 : lw_tbl[647]? = some (Jvm.Cond.methodLink "CarpetEleven" (195 : Nat) ({ cls := "CarpetEleven$Seller", name := "sellAt", desc := "(I)V" } : Jvm.MethodName)) := by decide +kernel
theorem wd_648 : lw_tbl[648]? = some (Jvm.Cond.methodLink "CarpetElevenLaw" (53 : Nat) ({ cls := "CarpetEleven", name := "rule", desc := "(IIII)I" } : Jvm.MethodName)) := by decide +kernel
theorem wd_649 : lw_tbl[649]? = some (Jvm.Cond.instanceMethod ({ cls := "CarpetEleven", name := "rule", desc := "(IIII)I" } : Jvm.MethodName)) := by decide +kernel
theorem wd_650 : lw_tbl[650]? = some (Jvm.Cond.selects "CarpetEleven" ({ cls := "CarpetEleven", name := "rule", desc := "(IIII)I" } : Jvm.MethodName) ({ cls := "CarpetEleven", name := "rule", desc := "(IIII)I" } : Jvm.MethodName)) := by decide +kernel
theorem wd_651 : lw_tbl[651]? = some (Jvm.Cond.code ({ cls := "CarpetEleven", name := "rule", desc := "(IIII)I" } : Jvm.MethodName) prog_1_method_11_code (6 : Nat) (Option.some Jvm.ClassFile.FieldType.int)) := by decide +kernel
theorem wd_652 : lw_tbl[652]? = some (Jvm.Cond.methodLink "CarpetEleven" (198 : Nat) ({ cls := "CarpetEleven", name := "isRule", desc := "(II)Z" } : Jvm.MethodName)) := by decide +kernel
theorem wd_653 : lw_tbl[653]? = some (Jvm.Cond.static ({ cls := "CarpetEleven", name := "isRule", desc := "(II)Z" } : Jvm.MethodName)) := by decide +kernel
theorem wd_654 : lw_tbl[654]? = some (Jvm.Cond.code ({ cls := "CarpetEleven", name := "isRule", desc := "(II)Z" } : Jvm.MethodName) prog_1_method_33_code (2 : Nat) (Option.some Jvm.ClassFile.FieldType.boolean)) := by decide +kernel
theorem wd_655 : lw_tbl[655]? = some (Jvm.Cond.methodLink "CarpetEleven" (202 : Nat) ({ cls := "CarpetEleven", name := "endByRule", desc := "(III)LCarpetEleven$Seller;" } : Jvm.MethodName)) := by decide +kernel
theorem wd_656 : lw_tbl[656]? = some (Jvm.Cond.privateMethod ({ cls := "CarpetEleven", name := "endByRule", desc := "(III)LCarpetEleven$Seller;" } : Jvm.MethodName)) := by decide +kernel
theorem wd_657 : lw_tbl[657]? = some (Jvm.Cond.instanceMethod ({ cls := "CarpetEleven", name := "endByRule", desc := "(III)LCarpetEleven$Seller;" } : Jvm.MethodName)) := by decide +kernel
theorem wd_658 : lw_tbl[658]? = some (Jvm.Cond.code ({ cls := "CarpetEleven", name := "endByRule", desc := "(III)LCarpetEleven$Seller;" } : Jvm.MethodName) prog_1_method_41_code (4 : Nat) (Option.some (Jvm.ClassFile.FieldType.object "CarpetEleven$Seller"))) := by decide +kernel
theorem wd_659 : lw_tbl[659]? = some (Jvm.Cond.methodLink "CarpetEleven" (209 : Nat) ({ cls := "CarpetEleven$Seller", name := "take", desc := "(LCarpetEleven$Seller;)V" } : Jvm.MethodName)) := by decide +kernel
theorem wd_660 : lw_tbl[660]? = some (Jvm.Cond.instanceMethod ({ cls := "CarpetEleven$Seller", name := "take", desc := "(LCarpetEleven$Seller;)V" } : Jvm.MethodName)) := by decide +kernel
theorem wd_661 : lw_tbl[661]? = some (Jvm.Cond.selects "CarpetEleven$Seller" ({ cls := "CarpetEleven$Seller", name := "take", desc := "(LCarpetEleven$Seller;)V" } : Jvm.MethodName) ({ cls := "CarpetEleven$Seller", name := "take", desc := "(LCarpetEleven$Seller;)V" } : Jvm.MethodName)) := by decide +kernel
theorem wd_662 : lw_tbl[662]? = some (Jvm.Cond.code ({ cls := "CarpetEleven$Seller", name := "take", desc := "(LCarpetEleven$Seller;)V" } : Jvm.MethodName) prog_7_method_2_code (2 : Nat) (Option.none : Option Jvm.ClassFile.FieldType)) := by decide +kernel
theorem wd_663 : lw_tbl[663]? = some (Jvm.Cond.methodLink "CarpetEleven$Seller" (37 : Nat) ({ cls := "CarpetEleven$Seller", name := "takeTalk", desc := "(LCarpetEleven$Seller;)V" } : Jvm.MethodName)) := by decide +kernel
theorem wd_664 : lw_tbl[664]? = some (Jvm.Cond.instanceMethod ({ cls := "CarpetEleven$Seller", name := "takeTalk", desc := "(LCarpetEleven$Seller;)V" } : Jvm.MethodName)) := by decide +kernel
theorem wd_665 : lw_tbl[665]? = some (Jvm.Cond.selects "CarpetEleven$Seller" ({ cls := "CarpetEleven$Seller", name := "takeTalk", desc := "(LCarpetEleven$Seller;)V" } : Jvm.MethodName) ({ cls := "CarpetEleven$Seller", name := "takeTalk", desc := "(LCarpetEleven$Seller;)V" } : Jvm.MethodName)) := by decide +kernel
theorem wd_666 : lw_tbl[666]? = some (Jvm.Cond.code ({ cls := "CarpetEleven$Seller", name := "takeTalk", desc := "(LCarpetEleven$Seller;)V" } : Jvm.MethodName) prog_7_method_3_code (2 : Nat) (Option.none : Option Jvm.ClassFile.FieldType)) := by decide +kernel
theorem wd_667 : lw_tbl[667]? = some (Jvm.Cond.methodLink "CarpetEleven" (212 : Nat) ({ cls := "CarpetEleven$Seller", name := "goByRule", desc := "(IILCarpetEleven$Scene;)V" } : Jvm.MethodName)) := by decide +kernel
theorem wd_668 : lw_tbl[668]? = some (Jvm.Cond.instanceMethod ({ cls := "CarpetEleven$Seller", name := "goByRule", desc := "(IILCarpetEleven$Scene;)V" } : Jvm.MethodName)) := by decide +kernel
theorem wd_669 : lw_tbl[669]? = some (Jvm.Cond.selects "CarpetEleven$Seller" ({ cls := "CarpetEleven$Seller", name := "goByRule", desc := "(IILCarpetEleven$Scene;)V" } : Jvm.MethodName) ({ cls := "CarpetEleven$Seller", name := "goByRule", desc := "(IILCarpetEleven$Scene;)V" } : Jvm.MethodName)) := by decide +kernel
theorem wd_670 : lw_tbl[670]? = some (Jvm.Cond.code ({ cls := "CarpetEleven$Seller", name := "goByRule", desc := "(IILCarpetEleven$Scene;)V" } : Jvm.MethodName) prog_7_method_7_code (6 : Nat) (Option.none : Option Jvm.ClassFile.FieldType)) := by decide +kernel
theorem wd_671 : lw_tbl[671]? = some (Jvm.Cond.methodLink "CarpetEleven$Seller" (87 : Nat) ({ cls := "CarpetEleven$Seller", name := "hear", desc := "(ILCarpetEleven$Scene;)V" } : Jvm.MethodName)) := by decide +kernel
theorem wd_672 : lw_tbl[672]? = some (Jvm.Cond.methodLink "CarpetElevenLaw" (58 : Nat) ({ cls := "CarpetEleven", name := "bestRule", desc := "(II)I" } : Jvm.MethodName)) := by decide +kernel
theorem wd_673 : lw_tbl[673]? = some (Jvm.Cond.instanceMethod ({ cls := "CarpetEleven", name := "bestRule", desc := "(II)I" } : Jvm.MethodName)) := by decide +kernel
theorem wd_674 : lw_tbl[674]? = some (Jvm.Cond.selects "CarpetEleven" ({ cls := "CarpetEleven", name := "bestRule", desc := "(II)I" } : Jvm.MethodName) ({ cls := "CarpetEleven", name := "bestRule", desc := "(II)I" } : Jvm.MethodName)) := by decide +kernel
theorem wd_675 : lw_tbl[675]? = some (Jvm.Cond.code ({ cls := "CarpetEleven", name := "bestRule", desc := "(II)I" } : Jvm.MethodName) prog_1_method_12_code (9 : Nat) (Option.some Jvm.ClassFile.FieldType.int)) := by decide +kernel
theorem wd_676 : lw_tbl[676]? = some (Jvm.Cond.methodLink "CarpetElevenLaw" (62 : Nat) ({ cls := "CarpetEleven", name := "bestAt", desc := "(IIII)I" } : Jvm.MethodName)) := by decide +kernel
theorem wd_677 : lw_tbl[677]? = some (Jvm.Cond.instanceMethod ({ cls := "CarpetEleven", name := "bestAt", desc := "(IIII)I" } : Jvm.MethodName)) := by decide +kernel
theorem wd_678 : lw_tbl[678]? = some (Jvm.Cond.selects "CarpetEleven" ({ cls := "CarpetEleven", name := "bestAt", desc := "(IIII)I" } : Jvm.MethodName) ({ cls := "CarpetEleven", name := "bestAt", desc := "(IIII)I" } : Jvm.MethodName)) := by decide +kernel
theorem wd_679 : lw_tbl[679]? = some (Jvm.Cond.code ({ cls := "CarpetEleven", name := "bestAt", desc := "(IIII)I" } : Jvm.MethodName) prog_1_method_13_code (8 : Nat) (Option.some Jvm.ClassFile.FieldType.int)) := by decide +kernel
theorem wd_680 : lw_tbl[680]? = some (Jvm.Cond.methodLink "CarpetEleven" (206 : Nat) ({ cls := "CarpetEleven$Scene", name := "take", desc := "(LCarpetEleven$Scene;)V" } : Jvm.MethodName)) := by decide +kernel
theorem wd_681 : lw_tbl[681]? = some (Jvm.Cond.instanceMethod ({ cls := "CarpetEleven$Scene", name := "take", desc := "(LCarpetEleven$Scene;)V" } : Jvm.MethodName)) := by decide +kernel
theorem wd_682 : lw_tbl[682]? = some (Jvm.Cond.selects "CarpetEleven$Scene" ({ cls := "CarpetEleven$Scene", name := "take", desc := "(LCarpetEleven$Scene;)V" } : Jvm.MethodName) ({ cls := "CarpetEleven$Scene", name := "take", desc := "(LCarpetEleven$Scene;)V" } : Jvm.MethodName)) := by decide +kernel
theorem wd_683 : lw_tbl[683]? = some (Jvm.Cond.code ({ cls := "CarpetEleven$Scene", name := "take", desc := "(LCarpetEleven$Scene;)V" } : Jvm.MethodName) prog_6_method_2_code (2 : Nat) (Option.none : Option Jvm.ClassFile.FieldType)) := by decide +kernel
theorem wd_684 : lw_tbl[684]? = some (Jvm.Cond.methodLink "CarpetElevenLaw" (66 : Nat) ({ cls := "CarpetEleven", name := "whom", desc := "(II)I" } : Jvm.MethodName)) := by decide +kernel
theorem wd_685 : lw_tbl[685]? = some (Jvm.Cond.instanceMethod ({ cls := "CarpetEleven", name := "whom", desc := "(II)I" } : Jvm.MethodName)) := by decide +kernel
theorem wd_686 : lw_tbl[686]? = some (Jvm.Cond.selects "CarpetEleven" ({ cls := "CarpetEleven", name := "whom", desc := "(II)I" } : Jvm.MethodName) ({ cls := "CarpetEleven", name := "whom", desc := "(II)I" } : Jvm.MethodName)) := by decide +kernel
theorem wd_687 : lw_tbl[687]? = some (Jvm.Cond.code ({ cls := "CarpetEleven", name := "whom", desc := "(II)I" } : Jvm.MethodName) prog_1_method_14_code (7 : Nat) (Option.some Jvm.ClassFile.FieldType.int)) := by decide +kernel
theorem wd_688 : lw_tbl[688]? = some (Jvm.Cond.methodLink "CarpetElevenLaw" (70 : Nat) ({ cls := "CarpetEleven", name := "allInTurn", desc := "(III)I" } : Jvm.MethodName)) := by decide +kernel
theorem wd_689 : lw_tbl[689]? = some (Jvm.Cond.instanceMethod ({ cls := "CarpetEleven", name := "allInTurn", desc := "(III)I" } : Jvm.MethodName)) := by decide +kernel
theorem wd_690 : lw_tbl[690]? = some (Jvm.Cond.selects "CarpetEleven" ({ cls := "CarpetEleven", name := "allInTurn", desc := "(III)I" } : Jvm.MethodName) ({ cls := "CarpetEleven", name := "allInTurn", desc := "(III)I" } : Jvm.MethodName)) := by decide +kernel
theorem wd_691 : lw_tbl[691]? = some (Jvm.Cond.code ({ cls := "CarpetEleven", name := "allInTurn", desc := "(III)I" } : Jvm.MethodName) prog_1_method_15_code (8 : Nat) (Option.some Jvm.ClassFile.FieldType.int)) := by decide +kernel
theorem wd_692 : lw_tbl[692]? = some (Jvm.Cond.methodLink "CarpetElevenLaw" (74 : Nat) ({ cls := "CarpetEleven", name := "hisCost", desc := "(III)I" } : Jvm.MethodName)) := by decide +kernel
theorem wd_693 : lw_tbl[693]? = some (Jvm.Cond.instanceMethod ({ cls := "CarpetEleven", name := "hisCost", desc := "(III)I" } : Jvm.MethodName)) := by decide +kernel
theorem wd_694 : lw_tbl[694]? = some (Jvm.Cond.selects "CarpetEleven" ({ cls := "CarpetEleven", name := "hisCost", desc := "(III)I" } : Jvm.MethodName) ({ cls := "CarpetEleven", name := "hisCost", desc := "(III)I" } : Jvm.MethodName)) := by decide +kernel
theorem wd_695 : lw_tbl[695]? = some (Jvm.Cond.code ({ cls := "CarpetEleven", name := "hisCost", desc := "(III)I" } : Jvm.MethodName) prog_1_method_16_code (8 : Nat) (Option.some Jvm.ClassFile.FieldType.int)) := by decide +kernel
theorem wd_696 : lw_tbl[696]? = some (Jvm.Cond.methodLink "CarpetEleven" (216 : Nat) ({ cls := "CarpetEleven", name := "isSheet", desc := "(I)Z" } : Jvm.MethodName)) := by decide +kernel
theorem wd_697 : lw_tbl[697]? = some (Jvm.Cond.static ({ cls := "CarpetEleven", name := "isSheet", desc := "(I)Z" } : Jvm.MethodName)) := by decide +kernel
theorem wd_698 : lw_tbl[698]? = some (Jvm.Cond.code ({ cls := "CarpetEleven", name := "isSheet", desc := "(I)Z" } : Jvm.MethodName) prog_1_method_31_code (1 : Nat) (Option.some Jvm.ClassFile.FieldType.boolean)) := by decide +kernel
theorem wd_699 : lw_tbl[699]? = some (Jvm.Cond.methodLink "CarpetEleven" (219 : Nat) ({ cls := "CarpetEleven$Sheet", name := "isMissing", desc := "()Z" } : Jvm.MethodName)) := by decide +kernel
theorem wd_700 : lw_tbl[700]? = some (Jvm.Cond.instanceMethod ({ cls := "CarpetEleven$Sheet", name := "isMissing", desc := "()Z" } : Jvm.MethodName)) := by decide +kernel
theorem wd_701 : lw_tbl[701]? = some (Jvm.Cond.selects "CarpetEleven$Sheet" ({ cls := "CarpetEleven$Sheet", name := "isMissing", desc := "()Z" } : Jvm.MethodName) ({ cls := "CarpetEleven$Sheet", name := "isMissing", desc := "()Z" } : Jvm.MethodName)) := by decide +kernel
theorem wd_702 : lw_tbl[702]? = some (Jvm.Cond.code ({ cls := "CarpetEleven$Sheet", name := "isMissing", desc := "()Z" } : Jvm.MethodName) prog_8_method_2_code (1 : Nat) (Option.some Jvm.ClassFile.FieldType.boolean)) := by decide +kernel
theorem wd_703 : lw_tbl[703]? = some (Jvm.Cond.methodLink "CarpetEleven" (224 : Nat) ({ cls := "CarpetEleven", name := "saysSo", desc := "(IILCarpetEleven$Sheet;)Z" } : Jvm.MethodName)) := by decide +kernel
theorem wd_704 : lw_tbl[704]? = some (Jvm.Cond.privateMethod ({ cls := "CarpetEleven", name := "saysSo", desc := "(IILCarpetEleven$Sheet;)Z" } : Jvm.MethodName)) := by decide +kernel
theorem wd_705 : lw_tbl[705]? = some (Jvm.Cond.instanceMethod ({ cls := "CarpetEleven", name := "saysSo", desc := "(IILCarpetEleven$Sheet;)Z" } : Jvm.MethodName)) := by decide +kernel
theorem wd_706 : lw_tbl[706]? = some (Jvm.Cond.code ({ cls := "CarpetEleven", name := "saysSo", desc := "(IILCarpetEleven$Sheet;)Z" } : Jvm.MethodName) prog_1_method_42_code (5 : Nat) (Option.some Jvm.ClassFile.FieldType.boolean)) := by decide +kernel
theorem wd_707 : lw_tbl[707]? = some (Jvm.Cond.methodLink "CarpetEleven" (228 : Nat) ({ cls := "CarpetEleven$Sheet", name := "at", desc := "(I)I" } : Jvm.MethodName)) := by decide +kernel
theorem wd_708 : lw_tbl[708]? = some (Jvm.Cond.instanceMethod ({ cls := "CarpetEleven$Sheet", name := "at", desc := "(I)I" } : Jvm.MethodName)) := by decide +kernel
theorem wd_709 : lw_tbl[709]? = some (Jvm.Cond.selects "CarpetEleven$Sheet" ({ cls := "CarpetEleven$Sheet", name := "at", desc := "(I)I" } : Jvm.MethodName) ({ cls := "CarpetEleven$Sheet", name := "at", desc := "(I)I" } : Jvm.MethodName)) := by decide +kernel
theorem wd_710 : lw_tbl[710]? = some (Jvm.Cond.code ({ cls := "CarpetEleven$Sheet", name := "at", desc := "(I)I" } : Jvm.MethodName) prog_8_method_6_code (2 : Nat) (Option.some Jvm.ClassFile.FieldType.int)) := by decide +kernel
theorem wd_711 : lw_tbl[711]? = some (Jvm.Cond.methodLink "CarpetEleven$Sheet" (26 : Nat) ({ cls := "CarpetEleven$Sheet", name := "has", desc := "(I)Z" } : Jvm.MethodName)) := by decide +kernel
theorem wd_712 : lw_tbl[712]? = some (Jvm.Cond.instanceMethod ({ cls := "CarpetEleven$Sheet", name := "has", desc := "(I)Z" } : Jvm.MethodName)) := by decide +kernel
theorem wd_713 : lw_tbl[713]? = some (Jvm.Cond.selects "CarpetEleven$Sheet" ({ cls := "CarpetEleven$Sheet", name := "has", desc := "(I)Z" } : Jvm.MethodName) ({ cls := "CarpetEleven$Sheet", name := "has", desc := "(I)Z" } : Jvm.MethodName)) := by decide +kernel
theorem wd_714 : lw_tbl[714]? = some (Jvm.Cond.code ({ cls := "CarpetEleven$Sheet", name := "has", desc := "(I)Z" } : Jvm.MethodName) prog_8_method_4_code (2 : Nat) (Option.some Jvm.ClassFile.FieldType.boolean)) := by decide +kernel
theorem wd_715 : lw_tbl[715]? = some (Jvm.Cond.methodLink "CarpetElevenLaw" (78 : Nat) ({ cls := "CarpetEleven", name := "slipped", desc := "(III)I" } : Jvm.MethodName)) := by decide +kernel
theorem wd_716 : lw_tbl[716]? = some (Jvm.Cond.instanceMethod ({ cls := "CarpetEleven", name := "slipped", desc := "(III)I" } : Jvm.MethodName)) := by decide +kernel
theorem wd_717 : lw_tbl[717]? = some (Jvm.Cond.selects "CarpetEleven" ({ cls := "CarpetEleven", name := "slipped", desc := "(III)I" } : Jvm.MethodName) ({ cls := "CarpetEleven", name := "slipped", desc := "(III)I" } : Jvm.MethodName)) := by decide +kernel
theorem wd_718 : lw_tbl[718]? = some (Jvm.Cond.code ({ cls := "CarpetEleven", name := "slipped", desc := "(III)I" } : Jvm.MethodName) prog_1_method_17_code (4 : Nat) (Option.some Jvm.ClassFile.FieldType.int)) := by decide +kernel
theorem wd_719 : lw_tbl[719]? = some (Jvm.Cond.methodLink "CarpetElevenLaw" (82 : Nat) ({ cls := "CarpetEleven", name := "market", desc := "(IIII)I" } : Jvm.MethodName)) := by decide +kernel
theorem wd_720 : lw_tbl[720]? = some (Jvm.Cond.instanceMethod ({ cls := "CarpetEleven", name := "market", desc := "(IIII)I" } : Jvm.MethodName)) := by decide +kernel
theorem wd_721 : lw_tbl[721]? = some (Jvm.Cond.selects "CarpetEleven" ({ cls := "CarpetEleven", name := "market", desc := "(IIII)I" } : Jvm.MethodName) ({ cls := "CarpetEleven", name := "market", desc := "(IIII)I" } : Jvm.MethodName)) := by decide +kernel
theorem wd_722 : lw_tbl[722]? = some (Jvm.Cond.code ({ cls := "CarpetEleven", name := "market", desc := "(IIII)I" } : Jvm.MethodName) prog_1_method_18_code (12 : Nat) (Option.some Jvm.ClassFile.FieldType.int)) := by decide +kernel
theorem wd_723 : lw_tbl[723]? = some (Jvm.Cond.methodLink "CarpetEleven" (231 : Nat) ({ cls := "CarpetEleven", name := "within", desc := "(III)I" } : Jvm.MethodName)) := by decide +kernel
theorem wd_724 : lw_tbl[724]? = some (Jvm.Cond.methodLink "CarpetEleven" (235 : Nat) ({ cls := "CarpetEleven", name := "crowdHasHope", desc := "()Z" } : Jvm.MethodName)) := by decide +kernel
theorem wd_725 : lw_tbl[725]? = some (Jvm.Cond.privateMethod ({ cls := "CarpetEleven", name := "crowdHasHope", desc := "()Z" } : Jvm.MethodName)) := by decide +kernel
theorem wd_726 : lw_tbl[726]? = some (Jvm.Cond.instanceMethod ({ cls := "CarpetEleven", name := "crowdHasHope", desc := "()Z" } : Jvm.MethodName)) := by decide +kernel
theorem wd_727 : lw_tbl[727]? = some (Jvm.Cond.code ({ cls := "CarpetEleven", name := "crowdHasHope", desc := "()Z" } : Jvm.MethodName) prog_1_method_43_code (2 : Nat) (Option.some Jvm.ClassFile.FieldType.boolean)) := by decide +kernel
theorem wd_728 : lw_tbl[728]? = some (Jvm.Cond.methodLink "CarpetEleven" (238 : Nat) ({ cls := "CarpetEleven", name := "crowdSells", desc := "(II)I" } : Jvm.MethodName)) := by decide +kernel
theorem wd_729 : lw_tbl[729]? = some (Jvm.Cond.privateMethod ({ cls := "CarpetEleven", name := "crowdSells", desc := "(II)I" } : Jvm.MethodName)) := by decide +kernel
theorem wd_730 : lw_tbl[730]? = some (Jvm.Cond.instanceMethod ({ cls := "CarpetEleven", name := "crowdSells", desc := "(II)I" } : Jvm.MethodName)) := by decide +kernel
theorem wd_731 : lw_tbl[731]? = some (Jvm.Cond.code ({ cls := "CarpetEleven", name := "crowdSells", desc := "(II)I" } : Jvm.MethodName) prog_1_method_44_code (4 : Nat) (Option.some Jvm.ClassFile.FieldType.int)) := by decide +kernel
theorem wd_732 : lw_tbl[732]? = some (Jvm.Cond.methodLink "CarpetElevenLaw" (86 : Nat) ({ cls := "CarpetEleven", name := "judge", desc := "(II)I" } : Jvm.MethodName)) := by decide +kernel
theorem wd_733 : lw_tbl[733]? = some (Jvm.Cond.instanceMethod ({ cls := "CarpetEleven", name := "judge", desc := "(II)I" } : Jvm.MethodName)) := by decide +kernel
theorem wd_734 : lw_tbl[734]? = some (Jvm.Cond.selects "CarpetEleven" ({ cls := "CarpetEleven", name := "judge", desc := "(II)I" } : Jvm.MethodName) ({ cls := "CarpetEleven", name := "judge", desc := "(II)I" } : Jvm.MethodName)) := by decide +kernel
theorem wd_735 : lw_tbl[735]? = some (Jvm.Cond.code ({ cls := "CarpetEleven", name := "judge", desc := "(II)I" } : Jvm.MethodName) prog_1_method_19_code (5 : Nat) (Option.some Jvm.ClassFile.FieldType.int)) := by decide +kernel
theorem wd_736 : lw_tbl[736]? = some (Jvm.Cond.methodLink "CarpetElevenLaw" (90 : Nat) ({ cls := "CarpetEleven", name := "drawn", desc := "(II)I" } : Jvm.MethodName)) := by decide +kernel
theorem wd_737 : lw_tbl[737]? = some (Jvm.Cond.instanceMethod ({ cls := "CarpetEleven", name := "drawn", desc := "(II)I" } : Jvm.MethodName)) := by decide +kernel
theorem wd_738 : lw_tbl[738]? = some (Jvm.Cond.selects "CarpetEleven" ({ cls := "CarpetEleven", name := "drawn", desc := "(II)I" } : Jvm.MethodName) ({ cls := "CarpetEleven", name := "drawn", desc := "(II)I" } : Jvm.MethodName)) := by decide +kernel
theorem wd_739 : lw_tbl[739]? = some (Jvm.Cond.code ({ cls := "CarpetEleven", name := "drawn", desc := "(II)I" } : Jvm.MethodName) prog_1_method_20_code (3 : Nat) (Option.some Jvm.ClassFile.FieldType.int)) := by decide +kernel
theorem wd_740 : lw_tbl[740]? = some (Jvm.Cond.methodLink "CarpetEleven" (241 : Nat) ({ cls := "CarpetEleven", name := "standsBySeed", desc := "(II)I" } : Jvm.MethodName)) := by decide +kernel
theorem wd_741 : lw_tbl[741]? = some (Jvm.Cond.privateMethod ({ cls := "CarpetEleven", name := "standsBySeed", desc := "(II)I" } : Jvm.MethodName)) := by decide +kernel
theorem wd_742 : lw_tbl[742]? = some (Jvm.Cond.instanceMethod ({ cls := "CarpetEleven", name := "standsBySeed", desc := "(II)I" } : Jvm.MethodName)) := by decide +kernel
theorem wd_743 : lw_tbl[743]? = some (Jvm.Cond.code ({ cls := "CarpetEleven", name := "standsBySeed", desc := "(II)I" } : Jvm.MethodName) prog_1_method_45_code (5 : Nat) (Option.some Jvm.ClassFile.FieldType.int)) := by decide +kernel
theorem wd_744 : lw_tbl[744]? = some (Jvm.Cond.constant "CarpetEleven" (293 : Nat) (1103515245 : Int32)) := by decide +kernel
theorem wd_745 : lw_tbl[745]? = some (Jvm.Cond.methodLink "CarpetElevenLaw" (94 : Nat) ({ cls := "CarpetEleven", name := "odds", desc := "(IIII)J" } : Jvm.MethodName)) := by decide +kernel
theorem wd_746 : lw_tbl[746]? = some (Jvm.Cond.instanceMethod ({ cls := "CarpetEleven", name := "odds", desc := "(IIII)J" } : Jvm.MethodName)) := by decide +kernel
theorem wd_747 : lw_tbl[747]? = some (Jvm.Cond.selects "CarpetEleven" ({ cls := "CarpetEleven", name := "odds", desc := "(IIII)J" } : Jvm.MethodName) ({ cls := "CarpetEleven", name := "odds", desc := "(IIII)J" } : Jvm.MethodName)) := by decide +kernel
theorem wd_748 : lw_tbl[748]? = some (Jvm.Cond.code ({ cls := "CarpetEleven", name := "odds", desc := "(IIII)J" } : Jvm.MethodName) prog_1_method_21_code (7 : Nat) (Option.some Jvm.ClassFile.FieldType.long)) := by decide +kernel
theorem wd_749 : lw_tbl[749]? = some (Jvm.Cond.constantLong "CarpetEleven" (244 : Nat) (-4611686018427387904 : Int64)) := by decide +kernel
theorem wd_750 : lw_tbl[750]? = some (Jvm.Cond.methodLink "CarpetEleven" (246 : Nat) ({ cls := "CarpetEleven", name := "commonDivisor", desc := "(II)I" } : Jvm.MethodName)) := by decide +kernel
theorem wd_751 : lw_tbl[751]? = some (Jvm.Cond.static ({ cls := "CarpetEleven", name := "commonDivisor", desc := "(II)I" } : Jvm.MethodName)) := by decide +kernel
theorem wd_752 : lw_tbl[752]? = some (Jvm.Cond.code ({ cls := "CarpetEleven", name := "commonDivisor", desc := "(II)I" } : Jvm.MethodName) prog_1_method_36_code (6 : Nat) (Option.some Jvm.ClassFile.FieldType.int)) := by decide +kernel
theorem wd_753 : lw_tbl[753]? = some (Jvm.Cond.methodLink "CarpetElevenLaw" (99 : Nat) ({ cls := "CarpetEleven", name := "image", desc := "()I" } : Jvm.MethodName)) := by decide +kernel
theorem wd_754 : lw_tbl[754]? = some (Jvm.Cond.instanceMethod ({ cls := "CarpetEleven", name := "image", desc := "()I" } : Jvm.MethodName)) := by decide +kernel
theorem wd_755 : lw_tbl[755]? = some (Jvm.Cond.selects "CarpetEleven" ({ cls := "CarpetEleven", name := "image", desc := "()I" } : Jvm.MethodName) ({ cls := "CarpetEleven", name := "image", desc := "()I" } : Jvm.MethodName)) := by decide +kernel
theorem wd_756 : lw_tbl[756]? = some (Jvm.Cond.code ({ cls := "CarpetEleven", name := "image", desc := "()I" } : Jvm.MethodName) prog_1_method_22_code (2 : Nat) (Option.some Jvm.ClassFile.FieldType.int)) := by decide +kernel
theorem wd_757 : lw_tbl[757]? = some (Jvm.Cond.methodLink "CarpetEleven" (249 : Nat) ({ cls := "CarpetEleven", name := "howMany", desc := "(I)I" } : Jvm.MethodName)) := by decide +kernel
theorem wd_758 : lw_tbl[758]? = some (Jvm.Cond.privateMethod ({ cls := "CarpetEleven", name := "howMany", desc := "(I)I" } : Jvm.MethodName)) := by decide +kernel
theorem wd_759 : lw_tbl[759]? = some (Jvm.Cond.instanceMethod ({ cls := "CarpetEleven", name := "howMany", desc := "(I)I" } : Jvm.MethodName)) := by decide +kernel
theorem wd_760 : lw_tbl[760]? = some (Jvm.Cond.code ({ cls := "CarpetEleven", name := "howMany", desc := "(I)I" } : Jvm.MethodName) prog_1_method_40_code (4 : Nat) (Option.some Jvm.ClassFile.FieldType.int)) := by decide +kernel
theorem wd_761 : lw_tbl[761]? = some (Jvm.Cond.methodLink "CarpetElevenLaw" (103 : Nat) ({ cls := "CarpetEleven", name := "back", desc := "()I" } : Jvm.MethodName)) := by decide +kernel
theorem wd_762 : lw_tbl[762]? = some (Jvm.Cond.instanceMethod ({ cls := "CarpetEleven", name := "back", desc := "()I" } : Jvm.MethodName)) := by decide +kernel
theorem wd_763 : lw_tbl[763]? = some (Jvm.Cond.selects "CarpetEleven" ({ cls := "CarpetEleven", name := "back", desc := "()I" } : Jvm.MethodName) ({ cls := "CarpetEleven", name := "back", desc := "()I" } : Jvm.MethodName)) := by decide +kernel
theorem wd_764 : lw_tbl[764]? = some (Jvm.Cond.code ({ cls := "CarpetEleven", name := "back", desc := "()I" } : Jvm.MethodName) prog_1_method_23_code (2 : Nat) (Option.some Jvm.ClassFile.FieldType.int)) := by decide +kernel
theorem wd_765 : lw_tbl[765]? = some (Jvm.Cond.methodLink "CarpetEleven" (252 : Nat) ({ cls := "CarpetEleven$Seller", name := "takeTalk", desc := "(LCarpetEleven$Seller;)V" } : Jvm.MethodName)) := by decide +kernel
theorem wd_766 : lw_tbl[766]? = some (Jvm.Cond.methodLink "CarpetElevenLaw" (107 : Nat) ({ cls := "CarpetEleven", name := "count", desc := "(I)I" } : Jvm.MethodName)) := by decide +kernel
theorem wd_767 : lw_tbl[767]? = some (Jvm.Cond.instanceMethod ({ cls := "CarpetEleven", name := "count", desc := "(I)I" } : Jvm.MethodName)) := by decide +kernel
theorem wd_768 : lw_tbl[768]? = some (Jvm.Cond.selects "CarpetEleven" ({ cls := "CarpetEleven", name := "count", desc := "(I)I" } : Jvm.MethodName) ({ cls := "CarpetEleven", name := "count", desc := "(I)I" } : Jvm.MethodName)) := by decide +kernel
theorem wd_769 : lw_tbl[769]? = some (Jvm.Cond.code ({ cls := "CarpetEleven", name := "count", desc := "(I)I" } : Jvm.MethodName) prog_1_method_24_code (2 : Nat) (Option.some Jvm.ClassFile.FieldType.int)) := by decide +kernel
theorem wd_770 : lw_tbl[770]? = some (Jvm.Cond.methodLink "CarpetElevenLaw" (111 : Nat) ({ cls := "CarpetEleven", name := "sheet", desc := "(III)I" } : Jvm.MethodName)) := by decide +kernel
theorem wd_771 : lw_tbl[771]? = some (Jvm.Cond.instanceMethod ({ cls := "CarpetEleven", name := "sheet", desc := "(III)I" } : Jvm.MethodName)) := by decide +kernel
theorem wd_772 : lw_tbl[772]? = some (Jvm.Cond.selects "CarpetEleven" ({ cls := "CarpetEleven", name := "sheet", desc := "(III)I" } : Jvm.MethodName) ({ cls := "CarpetEleven", name := "sheet", desc := "(III)I" } : Jvm.MethodName)) := by decide +kernel
theorem wd_773 : lw_tbl[773]? = some (Jvm.Cond.code ({ cls := "CarpetEleven", name := "sheet", desc := "(III)I" } : Jvm.MethodName) prog_1_method_25_code (4 : Nat) (Option.some Jvm.ClassFile.FieldType.int)) := by decide +kernel
theorem wd_774 : lw_tbl[774]? = some (Jvm.Cond.methodLink "CarpetEleven" (255 : Nat) ({ cls := "CarpetEleven$Sheet", name := "become", desc := "(II)V" } : Jvm.MethodName)) := by decide +kernel
theorem wd_775 : lw_tbl[775]? = some (Jvm.Cond.instanceMethod ({ cls := "CarpetEleven$Sheet", name := "become", desc := "(II)V" } : Jvm.MethodName)) := by decide +kernel
theorem wd_776 : lw_tbl[776]? = some (Jvm.Cond.selects "CarpetEleven$Sheet" ({ cls := "CarpetEleven$Sheet", name := "become", desc := "(II)V" } : Jvm.MethodName) ({ cls := "CarpetEleven$Sheet", name := "become", desc := "(II)V" } : Jvm.MethodName)) := by decide +kernel
theorem wd_777 : lw_tbl[777]? = some (Jvm.Cond.code ({ cls := "CarpetEleven$Sheet", name := "become", desc := "(II)V" } : Jvm.MethodName) prog_8_method_3_code (4 : Nat) (Option.none : Option Jvm.ClassFile.FieldType)) := by decide +kernel
theorem wd_778 : lw_tbl[778]? = some (Jvm.Cond.methodLinkNest "CarpetEleven$Sheet" (22 : Nat) ({ cls := "CarpetEleven", name := "within", desc := "(III)I" } : Jvm.MethodName) "CarpetEleven") := by decide +kernel
theorem wd_779 : lw_tbl[779]? = some (Jvm.Cond.methodLink "CarpetElevenLaw" (115 : Nat) ({ cls := "CarpetEleven", name := "cell", desc := "(III)I" } : Jvm.MethodName)) := by decide +kernel
theorem wd_780 : lw_tbl[780]? = some (Jvm.Cond.instanceMethod ({ cls := "CarpetEleven", name := "cell", desc := "(III)I" } : Jvm.MethodName)) := by decide +kernel
theorem wd_781 : lw_tbl[781]? = some (Jvm.Cond.selects "CarpetEleven" ({ cls := "CarpetEleven", name := "cell", desc := "(III)I" } : Jvm.MethodName) ({ cls := "CarpetEleven", name := "cell", desc := "(III)I" } : Jvm.MethodName)) := by decide +kernel
theorem wd_782 : lw_tbl[782]? = some (Jvm.Cond.code ({ cls := "CarpetEleven", name := "cell", desc := "(III)I" } : Jvm.MethodName) prog_1_method_26_code (4 : Nat) (Option.some Jvm.ClassFile.FieldType.int)) := by decide +kernel
theorem wd_783 : lw_tbl[783]? = some (Jvm.Cond.methodLink "CarpetEleven" (259 : Nat) ({ cls := "CarpetEleven$Sheet", name := "has", desc := "(I)Z" } : Jvm.MethodName)) := by decide +kernel
theorem wd_784 : lw_tbl[784]? = some (Jvm.Cond.methodLink "CarpetEleven" (262 : Nat) ({ cls := "CarpetEleven$Sheet", name := "put", desc := "(II)V" } : Jvm.MethodName)) := by decide +kernel
theorem wd_785 : lw_tbl[785]? = some (Jvm.Cond.instanceMethod ({ cls := "CarpetEleven$Sheet", name := "put", desc := "(II)V" } : Jvm.MethodName)) := by decide +kernel
theorem wd_786 : lw_tbl[786]? = some (Jvm.Cond.selects "CarpetEleven$Sheet" ({ cls := "CarpetEleven$Sheet", name := "put", desc := "(II)V" } : Jvm.MethodName) ({ cls := "CarpetEleven$Sheet", name := "put", desc := "(II)V" } : Jvm.MethodName)) := by decide +kernel
theorem wd_787 : lw_tbl[787]? = some (Jvm.Cond.code ({ cls := "CarpetEleven$Sheet", name := "put", desc := "(II)V" } : Jvm.MethodName) prog_8_method_7_code (3 : Nat) (Option.none : Option Jvm.ClassFile.FieldType)) := by decide +kernel
theorem wd_788 : lw_tbl[788]? = some (Jvm.Cond.methodLink "CarpetElevenLaw" (119 : Nat) ({ cls := "CarpetEleven", name := "copy", desc := "(IIIII)I" } : Jvm.MethodName)) := by decide +kernel
theorem wd_789 : lw_tbl[789]? = some (Jvm.Cond.instanceMethod ({ cls := "CarpetEleven", name := "copy", desc := "(IIIII)I" } : Jvm.MethodName)) := by decide +kernel
theorem wd_790 : lw_tbl[790]? = some (Jvm.Cond.selects "CarpetEleven" ({ cls := "CarpetEleven", name := "copy", desc := "(IIIII)I" } : Jvm.MethodName) ({ cls := "CarpetEleven", name := "copy", desc := "(IIIII)I" } : Jvm.MethodName)) := by decide +kernel
theorem wd_791 : lw_tbl[791]? = some (Jvm.Cond.code ({ cls := "CarpetEleven", name := "copy", desc := "(IIIII)I" } : Jvm.MethodName) prog_1_method_27_code (8 : Nat) (Option.some Jvm.ClassFile.FieldType.int)) := by decide +kernel
theorem wd_792 : lw_tbl[792]? = some (Jvm.Cond.methodLink "CarpetEleven" (268 : Nat) ({ cls := "CarpetEleven$Sheet", name := "hasRun", desc := "(II)Z" } : Jvm.MethodName)) := by decide +kernel
theorem wd_793 : lw_tbl[793]? = some (Jvm.Cond.instanceMethod ({ cls := "CarpetEleven$Sheet", name := "hasRun", desc := "(II)Z" } : Jvm.MethodName)) := by decide +kernel
theorem wd_794 : lw_tbl[794]? = some (Jvm.Cond.selects "CarpetEleven$Sheet" ({ cls := "CarpetEleven$Sheet", name := "hasRun", desc := "(II)Z" } : Jvm.MethodName) ({ cls := "CarpetEleven$Sheet", name := "hasRun", desc := "(II)Z" } : Jvm.MethodName)) := by decide +kernel
theorem wd_795 : lw_tbl[795]? = some (Jvm.Cond.code ({ cls := "CarpetEleven$Sheet", name := "hasRun", desc := "(II)Z" } : Jvm.MethodName) prog_8_method_5_code (3 : Nat) (Option.some Jvm.ClassFile.FieldType.boolean)) := by decide +kernel
theorem wd_796 : lw_tbl[796]? = some (Jvm.Cond.methodLink "CarpetEleven" (275 : Nat) ({ cls := "java/lang/System", name := "arraycopy", desc := "(Ljava/lang/Object;ILjava/lang/Object;II)V" } : Jvm.MethodName)) := by decide +kernel
theorem wd_797 : lw_tbl[797]? = some (Jvm.Cond.methodLink "CarpetElevenLaw" (124 : Nat) ({ cls := "CarpetEleven", name := "sellers", desc := "(IIII)I" } : Jvm.MethodName)) := by decide +kernel
theorem wd_798 : lw_tbl[798]? = some (Jvm.Cond.instanceMethod ({ cls := "CarpetEleven", name := "sellers", desc := "(IIII)I" } : Jvm.MethodName)) := by decide +kernel
theorem wd_799 : lw_tbl[799]? = some (Jvm.Cond.selects "CarpetEleven" ({ cls := "CarpetEleven", name := "sellers", desc := "(IIII)I" } : Jvm.MethodName) ({ cls := "CarpetEleven", name := "sellers", desc := "(IIII)I" } : Jvm.MethodName)) := by decide +kernel
theorem wd_800 : lw_tbl[800]? = some (Jvm.Cond.code ({ cls := "CarpetEleven", name := "sellers", desc := "(IIII)I" } : Jvm.MethodName) prog_1_method_28_code (9 : Nat) (Option.some Jvm.ClassFile.FieldType.int)) := by decide +kernel
theorem wd_801 : lw_tbl[801]? = some (Jvm.Cond.methodLink "CarpetElevenLaw" (128 : Nat) ({ cls := "CarpetEleven", name := "taken", desc := "(II)I" } : Jvm.MethodName)) := by decide +kernel
theorem wd_802 : lw_tbl[802]? = some (Jvm.Cond.instanceMethod ({ cls := "CarpetEleven", name := "taken", desc := "(II)I" } : Jvm.MethodName)) := by decide +kernel
theorem wd_803 : lw_tbl[803]? = some (Jvm.Cond.selects "CarpetEleven" ({ cls := "CarpetEleven", name := "taken", desc := "(II)I" } : Jvm.MethodName) ({ cls := "CarpetEleven", name := "taken", desc := "(II)I" } : Jvm.MethodName)) := by decide +kernel
theorem wd_804 : lw_tbl[804]? = some (Jvm.Cond.code ({ cls := "CarpetEleven", name := "taken", desc := "(II)I" } : Jvm.MethodName) prog_1_method_29_code (3 : Nat) (Option.some Jvm.ClassFile.FieldType.int)) := by decide +kernel
theorem wd_805 : lw_tbl[805]? = some (Jvm.Cond.methodLink "CarpetEleven" (281 : Nat) ({ cls := "CarpetEleven", name := "isUnder", desc := "(LCarpetEleven$Kind;I)Z" } : Jvm.MethodName)) := by decide +kernel
theorem wd_806 : lw_tbl[806]? = some (Jvm.Cond.static ({ cls := "CarpetEleven", name := "isUnder", desc := "(LCarpetEleven$Kind;I)Z" } : Jvm.MethodName)) := by decide +kernel
theorem wd_807 : lw_tbl[807]? = some (Jvm.Cond.code ({ cls := "CarpetEleven", name := "isUnder", desc := "(LCarpetEleven$Kind;I)Z" } : Jvm.MethodName) prog_1_method_37_code (2 : Nat) (Option.some Jvm.ClassFile.FieldType.boolean)) := by decide +kernel
theorem wd_808 : lw_tbl[808]? = some (Jvm.Cond.classLink "CarpetElevenLaw" (10 : Nat) "CarpetElevenModel") := by decide +kernel
theorem wd_809 : lw_tbl[809]? = some (Jvm.Cond.instantiable "CarpetElevenModel" (45 : Nat)) := by decide +kernel
theorem wd_810 : lw_tbl[810]? = some (Jvm.Cond.methodLink "CarpetElevenLaw" (12 : Nat) ({ cls := "CarpetElevenModel", name := "<init>", desc := "()V" } : Jvm.MethodName)) := by decide +kernel
theorem wd_811 : lw_tbl[811]? = some (Jvm.Cond.instanceMethod ({ cls := "CarpetElevenModel", name := "<init>", desc := "()V" } : Jvm.MethodName)) := by decide +kernel
theorem wd_812 : lw_tbl[812]? = some (Jvm.Cond.code ({ cls := "CarpetElevenModel", name := "<init>", desc := "()V" } : Jvm.MethodName) prog_14_method_1_code (2 : Nat) (Option.none : Option Jvm.ClassFile.FieldType)) := by decide +kernel
theorem wd_813 : lw_tbl[813]? = some (Jvm.Cond.methodLink "CarpetElevenModel" (1 : Nat) ({ cls := "java/lang/Object", name := "<init>", desc := "()V" } : Jvm.MethodName)) := by decide +kernel
theorem wd_814 : lw_tbl[814]? = some (Jvm.Cond.classLink "CarpetElevenModel" (41 : Nat) "[I") := by decide +kernel
theorem wd_815 : lw_tbl[815]? = some (Jvm.Cond.arrayOver (Jvm.ClassFile.FieldType.array Jvm.ClassFile.FieldType.int)) := by decide +kernel
theorem wd_816 : lw_tbl[816]? = some (Jvm.Cond.methodLink "CarpetElevenModel" (79 : Nat) ({ cls := "CarpetElevenModel", name := "firstRule", desc := "()V" } : Jvm.MethodName)) := by decide +kernel
theorem wd_817 : lw_tbl[817]? = some (Jvm.Cond.privateMethod ({ cls := "CarpetElevenModel", name := "firstRule", desc := "()V" } : Jvm.MethodName)) := by decide +kernel
theorem wd_818 : lw_tbl[818]? = some (Jvm.Cond.instanceMethod ({ cls := "CarpetElevenModel", name := "firstRule", desc := "()V" } : Jvm.MethodName)) := by decide +kernel
theorem wd_819 : lw_tbl[819]? = some (Jvm.Cond.code ({ cls := "CarpetElevenModel", name := "firstRule", desc := "()V" } : Jvm.MethodName) prog_14_method_5_code (1 : Nat) (Option.none : Option Jvm.ClassFile.FieldType)) := by decide +kernel
theorem wd_820 : lw_tbl[820]? = some (Jvm.Cond.methodLink "CarpetElevenModel" (88 : Nat) ({ cls := "CarpetElevenModel", name := "writes", desc := "(I)V" } : Jvm.MethodName)) := by decide +kernel
theorem wd_821 : lw_tbl[821]? = some (Jvm.Cond.privateMethod ({ cls := "CarpetElevenModel", name := "writes", desc := "(I)V" } : Jvm.MethodName)) := by decide +kernel
theorem wd_822 : lw_tbl[822]? = some (Jvm.Cond.instanceMethod ({ cls := "CarpetElevenModel", name := "writes", desc := "(I)V" } : Jvm.MethodName)) := by decide +kernel
theorem wd_823 : lw_tbl[823]? = some (Jvm.Cond.code ({ cls := "CarpetElevenModel", name := "writes", desc := "(I)V" } : Jvm.MethodName) prog_14_method_4_code (2 : Nat) (Option.none : Option Jvm.ClassFile.FieldType)) := by decide +kernel
theorem wd_824 : lw_tbl[824]? = some (Jvm.Cond.fieldLink "CarpetElevenModel" (7 : Nat) "CarpetElevenModel" "kind" "[I") := by decide +kernel
theorem wd_825 : lw_tbl[825]? = some (Jvm.Cond.fieldLink "CarpetElevenModel" (13 : Nat) "CarpetElevenModel" "cost" "[I") := by decide +kernel
theorem wd_826 : lw_tbl[826]? = some (Jvm.Cond.fieldLink "CarpetElevenModel" (16 : Nat) "CarpetElevenModel" "number" "[I") := by decide +kernel
theorem wd_827 : lw_tbl[827]? = some (Jvm.Cond.fieldLink "CarpetElevenModel" (19 : Nat) "CarpetElevenModel" "said" "[I") := by decide +kernel
theorem wd_828 : lw_tbl[828]? = some (Jvm.Cond.fieldLink "CarpetElevenModel" (22 : Nat) "CarpetElevenModel" "cups" "[I") := by decide +kernel
theorem wd_829 : lw_tbl[829]? = some (Jvm.Cond.fieldLink "CarpetElevenModel" (25 : Nat) "CarpetElevenModel" "stands" "[I") := by decide +kernel
theorem wd_830 : lw_tbl[830]? = some (Jvm.Cond.fieldLink "CarpetElevenModel" (28 : Nat) "CarpetElevenModel" "price" "[I") := by decide +kernel
theorem wd_831 : lw_tbl[831]? = some (Jvm.Cond.fieldLink "CarpetElevenModel" (82 : Nat) "CarpetElevenModel" "sellers" "I") := by decide +kernel
theorem wd_832 : lw_tbl[832]? = some (Jvm.Cond.fieldLink "CarpetElevenModel" (31 : Nat) "CarpetElevenModel" "shoes" "I") := by decide +kernel
theorem wd_833 : lw_tbl[833]? = some (Jvm.Cond.fieldLink "CarpetElevenModel" (35 : Nat) "CarpetElevenModel" "hour" "I") := by decide +kernel
theorem wd_834 : lw_tbl[834]? = some (Jvm.Cond.fieldLink "CarpetElevenModel" (38 : Nat) "CarpetElevenModel" "limit" "I") := by decide +kernel
theorem wd_835 : lw_tbl[835]? = some (Jvm.Cond.fieldLink "CarpetElevenModel" (165 : Nat) "CarpetElevenModel" "theRule" "I") := by decide +kernel
theorem wd_836 : lw_tbl[836]? = some (Jvm.Cond.fieldLink "CarpetElevenModel" (42 : Nat) "CarpetElevenModel" "words" "[[I") := by decide +kernel
theorem wd_837 : lw_tbl[837]? = some (Jvm.Cond.fieldLink "CarpetElevenModel" (46 : Nat) "CarpetElevenModel" "tape" "[I") := by decide +kernel
theorem wd_838 : lw_tbl[838]? = some (Jvm.Cond.fieldLink "CarpetElevenModel" (49 : Nat) "CarpetElevenModel" "codes" "[I") := by decide +kernel
theorem wd_839 : lw_tbl[839]? = some (Jvm.Cond.fieldLink "CarpetElevenModel" (52 : Nat) "CarpetElevenModel" "codeLong" "[I") := by decide +kernel
theorem wd_840 : lw_tbl[840]? = some (Jvm.Cond.fieldLink "CarpetElevenModel" (55 : Nat) "CarpetElevenModel" "held" "[I") := by decide +kernel
theorem wd_841 : lw_tbl[841]? = some (Jvm.Cond.fieldLink "CarpetElevenModel" (58 : Nat) "CarpetElevenModel" "stack" "[I") := by decide +kernel
theorem wd_842 : lw_tbl[842]? = some (Jvm.Cond.fieldLink "CarpetElevenModel" (96 : Nat) "CarpetElevenModel" "taped" "I") := by decide +kernel
theorem wd_843 : lw_tbl[843]? = some (Jvm.Cond.fieldLink "CarpetElevenModel" (61 : Nat) "CarpetElevenModel" "texts" "I") := by decide +kernel
theorem wd_844 : lw_tbl[844]? = some (Jvm.Cond.fieldLink "CarpetElevenModel" (99 : Nat) "CarpetElevenModel" "next" "I") := by decide +kernel
theorem wd_845 : lw_tbl[845]? = some (Jvm.Cond.fieldLink "CarpetElevenModel" (109 : Nat) "CarpetElevenModel" "token" "I") := by decide +kernel
theorem wd_846 : lw_tbl[846]? = some (Jvm.Cond.fieldLink "CarpetElevenModel" (102 : Nat) "CarpetElevenModel" "tokenAt" "I") := by decide +kernel
theorem wd_847 : lw_tbl[847]? = some (Jvm.Cond.fieldLink "CarpetElevenModel" (112 : Nat) "CarpetElevenModel" "value" "I") := by decide +kernel
theorem wd_848 : lw_tbl[848]? = some (Jvm.Cond.fieldLink "CarpetElevenModel" (126 : Nat) "CarpetElevenModel" "open" "I") := by decide +kernel
theorem wd_849 : lw_tbl[849]? = some (Jvm.Cond.fieldLink "CarpetElevenModel" (123 : Nat) "CarpetElevenModel" "heldMany" "I") := by decide +kernel
theorem wd_850 : lw_tbl[850]? = some (Jvm.Cond.fieldLink "CarpetElevenModel" (85 : Nat) "CarpetElevenModel" "row" "I") := by decide +kernel
theorem wd_851 : lw_tbl[851]? = some (Jvm.Cond.fieldLink "CarpetElevenModel" (64 : Nat) "CarpetElevenModel" "kept" "[I") := by decide +kernel
theorem wd_852 : lw_tbl[852]? = some (Jvm.Cond.fieldLink "CarpetElevenModel" (224 : Nat) "CarpetElevenModel" "keptMany" "I") := by decide +kernel
theorem wd_853 : lw_tbl[853]? = some (Jvm.Cond.fieldLink "CarpetElevenModel" (227 : Nat) "CarpetElevenModel" "keptShoes" "I") := by decide +kernel
theorem wd_854 : lw_tbl[854]? = some (Jvm.Cond.fieldLink "CarpetElevenModel" (230 : Nat) "CarpetElevenModel" "keptHour" "I") := by decide +kernel
theorem wd_855 : lw_tbl[855]? = some (Jvm.Cond.fieldLink "CarpetElevenModel" (233 : Nat) "CarpetElevenModel" "keptLimit" "I") := by decide +kernel
theorem wd_856 : lw_tbl[856]? = some (Jvm.Cond.fieldLink "CarpetElevenModel" (236 : Nat) "CarpetElevenModel" "keptRule" "I") := by decide +kernel
theorem wd_857 : lw_tbl[857]? = some (Jvm.Cond.fieldLink "CarpetElevenModel" (217 : Nat) "CarpetElevenModel" "hasImage" "Z") := by decide +kernel
theorem wd_858 : lw_tbl[858]? = some (Jvm.Cond.fieldLink "CarpetElevenModel" (246 : Nat) "CarpetElevenModel" "spoken" "I") := by decide +kernel
theorem wd_859 : lw_tbl[859]? = some (Jvm.Cond.fieldLink "CarpetElevenModel" (253 : Nat) "CarpetElevenModel" "thoughtStands" "I") := by decide +kernel
theorem wd_860 : lw_tbl[860]? = some (Jvm.Cond.fieldLink "CarpetElevenModel" (256 : Nat) "CarpetElevenModel" "thoughtPrice" "I") := by decide +kernel
theorem wd_861 : lw_tbl[861]? = some (Jvm.Cond.fieldLink "CarpetElevenModel" (259 : Nat) "CarpetElevenModel" "thoughtCups" "I") := by decide +kernel
theorem wd_862 : lw_tbl[862]? = some (Jvm.Cond.fieldLink "CarpetElevenModel" (275 : Nat) "CarpetElevenModel" "soldMany" "I") := by decide +kernel
theorem wd_863 : lw_tbl[863]? = some (Jvm.Cond.fieldLink "CarpetElevenModel" (278 : Nat) "CarpetElevenModel" "soldSum" "I") := by decide +kernel
theorem wd_864 : lw_tbl[864]? = some (Jvm.Cond.fieldLink "CarpetElevenModel" (281 : Nat) "CarpetElevenModel" "missed" "I") := by decide +kernel
theorem wd_865 : lw_tbl[865]? = some (Jvm.Cond.fieldLink "CarpetElevenModel" (67 : Nat) "CarpetElevenModel" "sort" "[I") := by decide +kernel
theorem wd_866 : lw_tbl[866]? = some (Jvm.Cond.fieldLink "CarpetElevenModel" (70 : Nat) "CarpetElevenModel" "size" "[I") := by decide +kernel
theorem wd_867 : lw_tbl[867]? = some (Jvm.Cond.fieldLink "CarpetElevenModel" (73 : Nat) "CarpetElevenModel" "cells" "[I") := by decide +kernel
theorem wd_868 : lw_tbl[868]? = some (Jvm.Cond.fieldLink "CarpetElevenModel" (76 : Nat) "CarpetElevenModel" "moved" "[I") := by decide +kernel
theorem wd_869 : lw_tbl[869]? = some (Jvm.Cond.laysFinal "CarpetElevenModel" "CarpetElevenModel" "kind" "[I") := by decide +kernel
theorem wd_870 : lw_tbl[870]? = some (Jvm.Cond.soleField "CarpetElevenModel" "kind") := by decide +kernel
theorem wd_871 : lw_tbl[871]? = some (Jvm.Cond.laysFinal "CarpetElevenModel" "CarpetElevenModel" "cost" "[I") := by decide +kernel
theorem wd_872 : lw_tbl[872]? = some (Jvm.Cond.soleField "CarpetElevenModel" "cost") := by decide +kernel
theorem wd_873 : lw_tbl[873]? = some (Jvm.Cond.laysFinal "CarpetElevenModel" "CarpetElevenModel" "number" "[I") := by decide +kernel
theorem wd_874 : lw_tbl[874]? = some (Jvm.Cond.soleField "CarpetElevenModel" "number") := by decide +kernel
theorem wd_875 : lw_tbl[875]? = some (Jvm.Cond.laysFinal "CarpetElevenModel" "CarpetElevenModel" "said" "[I") := by decide +kernel
theorem wd_876 : lw_tbl[876]? = some (Jvm.Cond.soleField "CarpetElevenModel" "said") := by decide +kernel
theorem wd_877 : lw_tbl[877]? = some (Jvm.Cond.laysFinal "CarpetElevenModel" "CarpetElevenModel" "cups" "[I") := by decide +kernel
theorem wd_878 : lw_tbl[878]? = some (Jvm.Cond.soleField "CarpetElevenModel" "cups") := by decide +kernel
theorem wd_879 : lw_tbl[879]? = some (Jvm.Cond.laysFinal "CarpetElevenModel" "CarpetElevenModel" "stands" "[I") := by decide +kernel
theorem wd_880 : lw_tbl[880]? = some (Jvm.Cond.soleField "CarpetElevenModel" "stands") := by decide +kernel
theorem wd_881 : lw_tbl[881]? = some (Jvm.Cond.laysFinal "CarpetElevenModel" "CarpetElevenModel" "price" "[I") := by decide +kernel
theorem wd_882 : lw_tbl[882]? = some (Jvm.Cond.soleField "CarpetElevenModel" "price") := by decide +kernel
theorem wd_883 : lw_tbl[883]? = some (Jvm.Cond.lays "CarpetElevenModel" "CarpetElevenModel" "sellers" "I") := by decide +kernel
theorem wd_884 : lw_tbl[884]? = some (Jvm.Cond.soleField "CarpetElevenModel" "sellers") := by decide +kernel
theorem wd_885 : lw_tbl[885]? = some (Jvm.Cond.lays "CarpetElevenModel" "CarpetElevenModel" "shoes" "I") := by decide +kernel
theorem wd_886 : lw_tbl[886]? = some (Jvm.Cond.soleField "CarpetElevenModel" "shoes") := by decide +kernel
theorem wd_887 : lw_tbl[887]? = some (Jvm.Cond.lays "CarpetElevenModel" "CarpetElevenModel" "hour" "I") := by decide +kernel
theorem wd_888 : lw_tbl[888]? = some (Jvm.Cond.soleField "CarpetElevenModel" "hour") := by decide +kernel
theorem wd_889 : lw_tbl[889]? = some (Jvm.Cond.lays "CarpetElevenModel" "CarpetElevenModel" "limit" "I") := by decide +kernel
theorem wd_890 : lw_tbl[890]? = some (Jvm.Cond.soleField "CarpetElevenModel" "limit") := by decide +kernel
theorem wd_891 : lw_tbl[891]? = some (Jvm.Cond.lays "CarpetElevenModel" "CarpetElevenModel" "theRule" "I") := by decide +kernel
theorem wd_892 : lw_tbl[892]? = some (Jvm.Cond.soleField "CarpetElevenModel" "theRule") := by decide +kernel
theorem wd_893 : lw_tbl[893]? = some (Jvm.Cond.laysFinal "CarpetElevenModel" "CarpetElevenModel" "words" "[[I") := by decide +kernel
theorem wd_894 : lw_tbl[894]? = some (Jvm.Cond.soleField "CarpetElevenModel" "words") := by decide +kernel
theorem wd_895 : lw_tbl[895]? = some (Jvm.Cond.laysFinal "CarpetElevenModel" "CarpetElevenModel" "tape" "[I") := by decide +kernel
theorem wd_896 : lw_tbl[896]? = some (Jvm.Cond.soleField "CarpetElevenModel" "tape") := by decide +kernel
theorem wd_897 : lw_tbl[897]? = some (Jvm.Cond.laysFinal "CarpetElevenModel" "CarpetElevenModel" "codes" "[I") := by decide +kernel
theorem wd_898 : lw_tbl[898]? = some (Jvm.Cond.soleField "CarpetElevenModel" "codes") := by decide +kernel
theorem wd_899 : lw_tbl[899]? = some (Jvm.Cond.laysFinal "CarpetElevenModel" "CarpetElevenModel" "codeLong" "[I") := by decide +kernel
theorem wd_900 : lw_tbl[900]? = some (Jvm.Cond.soleField "CarpetElevenModel" "codeLong") := by decide +kernel
theorem wd_901 : lw_tbl[901]? = some (Jvm.Cond.laysFinal "CarpetElevenModel" "CarpetElevenModel" "held" "[I") := by decide +kernel
theorem wd_902 : lw_tbl[902]? = some (Jvm.Cond.soleField "CarpetElevenModel" "held") := by decide +kernel
theorem wd_903 : lw_tbl[903]? = some (Jvm.Cond.laysFinal "CarpetElevenModel" "CarpetElevenModel" "stack" "[I") := by decide +kernel
theorem wd_904 : lw_tbl[904]? = some (Jvm.Cond.soleField "CarpetElevenModel" "stack") := by decide +kernel
theorem wd_905 : lw_tbl[905]? = some (Jvm.Cond.lays "CarpetElevenModel" "CarpetElevenModel" "taped" "I") := by decide +kernel
theorem wd_906 : lw_tbl[906]? = some (Jvm.Cond.soleField "CarpetElevenModel" "taped") := by decide +kernel
theorem wd_907 : lw_tbl[907]? = some (Jvm.Cond.lays "CarpetElevenModel" "CarpetElevenModel" "texts" "I") := by decide +kernel
theorem wd_908 : lw_tbl[908]? = some (Jvm.Cond.soleField "CarpetElevenModel" "texts") := by decide +kernel
theorem wd_909 : lw_tbl[909]? = some (Jvm.Cond.lays "CarpetElevenModel" "CarpetElevenModel" "next" "I") := by decide +kernel
theorem wd_910 : lw_tbl[910]? = some (Jvm.Cond.soleField "CarpetElevenModel" "next") := by decide +kernel
theorem wd_911 : lw_tbl[911]? = some (Jvm.Cond.lays "CarpetElevenModel" "CarpetElevenModel" "token" "I") := by decide +kernel
theorem wd_912 : lw_tbl[912]? = some (Jvm.Cond.soleField "CarpetElevenModel" "token") := by decide +kernel
theorem wd_913 : lw_tbl[913]? = some (Jvm.Cond.lays "CarpetElevenModel" "CarpetElevenModel" "tokenAt" "I") := by decide +kernel
theorem wd_914 : lw_tbl[914]? = some (Jvm.Cond.soleField "CarpetElevenModel" "tokenAt") := by decide +kernel
theorem wd_915 : lw_tbl[915]? = some (Jvm.Cond.lays "CarpetElevenModel" "CarpetElevenModel" "value" "I") := by decide +kernel
theorem wd_916 : lw_tbl[916]? = some (Jvm.Cond.soleField "CarpetElevenModel" "value") := by decide +kernel
theorem wd_917 : lw_tbl[917]? = some (Jvm.Cond.lays "CarpetElevenModel" "CarpetElevenModel" "open" "I") := by decide +kernel
theorem wd_918 : lw_tbl[918]? = some (Jvm.Cond.soleField "CarpetElevenModel" "open") := by decide +kernel
theorem wd_919 : lw_tbl[919]? = some (Jvm.Cond.lays "CarpetElevenModel" "CarpetElevenModel" "heldMany" "I") := by decide +kernel
theorem wd_920 : lw_tbl[920]? = some (Jvm.Cond.soleField "CarpetElevenModel" "heldMany") := by decide +kernel
theorem wd_921 : lw_tbl[921]? = some (Jvm.Cond.lays "CarpetElevenModel" "CarpetElevenModel" "row" "I") := by decide +kernel
theorem wd_922 : lw_tbl[922]? = some (Jvm.Cond.soleField "CarpetElevenModel" "row") := by decide +kernel
theorem wd_923 : lw_tbl[923]? = some (Jvm.Cond.laysFinal "CarpetElevenModel" "CarpetElevenModel" "kept" "[I") := by decide +kernel
theorem wd_924 : lw_tbl[924]? = some (Jvm.Cond.soleField "CarpetElevenModel" "kept") := by decide +kernel
theorem wd_925 : lw_tbl[925]? = some (Jvm.Cond.lays "CarpetElevenModel" "CarpetElevenModel" "keptMany" "I") := by decide +kernel
theorem wd_926 : lw_tbl[926]? = some (Jvm.Cond.soleField "CarpetElevenModel" "keptMany") := by decide +kernel
theorem wd_927 : lw_tbl[927]? = some (Jvm.Cond.lays "CarpetElevenModel" "CarpetElevenModel" "keptShoes" "I") := by decide +kernel
theorem wd_928 : lw_tbl[928]? = some (Jvm.Cond.soleField "CarpetElevenModel" "keptShoes") := by decide +kernel
theorem wd_929 : lw_tbl[929]? = some (Jvm.Cond.lays "CarpetElevenModel" "CarpetElevenModel" "keptHour" "I") := by decide +kernel
theorem wd_930 : lw_tbl[930]? = some (Jvm.Cond.soleField "CarpetElevenModel" "keptHour") := by decide +kernel
theorem wd_931 : lw_tbl[931]? = some (Jvm.Cond.lays "CarpetElevenModel" "CarpetElevenModel" "keptLimit" "I") := by decide +kernel
theorem wd_932 : lw_tbl[932]? = some (Jvm.Cond.soleField "CarpetElevenModel" "keptLimit") := by decide +kernel
theorem wd_933 : lw_tbl[933]? = some (Jvm.Cond.lays "CarpetElevenModel" "CarpetElevenModel" "keptRule" "I") := by decide +kernel
theorem wd_934 : lw_tbl[934]? = some (Jvm.Cond.soleField "CarpetElevenModel" "keptRule") := by decide +kernel
theorem wd_935 : lw_tbl[935]? = some (Jvm.Cond.lays "CarpetElevenModel" "CarpetElevenModel" "hasImage" "Z") := by decide +kernel
theorem wd_936 : lw_tbl[936]? = some (Jvm.Cond.soleField "CarpetElevenModel" "hasImage") := by decide +kernel
theorem wd_937 : lw_tbl[937]? = some (Jvm.Cond.lays "CarpetElevenModel" "CarpetElevenModel" "spoken" "I") := by decide +kernel
theorem wd_938 : lw_tbl[938]? = some (Jvm.Cond.soleField "CarpetElevenModel" "spoken") := by decide +kernel
theorem wd_939 : lw_tbl[939]? = some (Jvm.Cond.lays "CarpetElevenModel" "CarpetElevenModel" "thoughtStands" "I") := by decide +kernel
theorem wd_940 : lw_tbl[940]? = some (Jvm.Cond.soleField "CarpetElevenModel" "thoughtStands") := by decide +kernel
theorem wd_941 : lw_tbl[941]? = some (Jvm.Cond.lays "CarpetElevenModel" "CarpetElevenModel" "thoughtPrice" "I") := by decide +kernel
theorem wd_942 : lw_tbl[942]? = some (Jvm.Cond.soleField "CarpetElevenModel" "thoughtPrice") := by decide +kernel
theorem wd_943 : lw_tbl[943]? = some (Jvm.Cond.lays "CarpetElevenModel" "CarpetElevenModel" "thoughtCups" "I") := by decide +kernel
theorem wd_944 : lw_tbl[944]? = some (Jvm.Cond.soleField "CarpetElevenModel" "thoughtCups") := by decide +kernel
theorem wd_945 : lw_tbl[945]? = some (Jvm.Cond.lays "CarpetElevenModel" "CarpetElevenModel" "soldMany" "I") := by decide +kernel
theorem wd_946 : lw_tbl[946]? = some (Jvm.Cond.soleField "CarpetElevenModel" "soldMany") := by decide +kernel
theorem wd_947 : lw_tbl[947]? = some (Jvm.Cond.lays "CarpetElevenModel" "CarpetElevenModel" "soldSum" "I") := by decide +kernel
theorem wd_948 : lw_tbl[948]? = some (Jvm.Cond.soleField "CarpetElevenModel" "soldSum") := by decide +kernel
theorem wd_949 : lw_tbl[949]? = some (Jvm.Cond.lays "CarpetElevenModel" "CarpetElevenModel" "missed" "I") := by decide +kernel
theorem wd_950 : lw_tbl[950]? = some (Jvm.Cond.soleField "CarpetElevenModel" "missed") := by decide +kernel
theorem wd_951 : lw_tbl[951]? = some (Jvm.Cond.laysFinal "CarpetElevenModel" "CarpetElevenModel" "sort" "[I") := by decide +kernel
theorem wd_952 : lw_tbl[952]? = some (Jvm.Cond.soleField "CarpetElevenModel" "sort") := by decide +kernel
theorem wd_953 : lw_tbl[953]? = some (Jvm.Cond.laysFinal "CarpetElevenModel" "CarpetElevenModel" "size" "[I") := by decide +kernel
theorem wd_954 : lw_tbl[954]? = some (Jvm.Cond.soleField "CarpetElevenModel" "size") := by decide +kernel
theorem wd_955 : lw_tbl[955]? = some (Jvm.Cond.laysFinal "CarpetElevenModel" "CarpetElevenModel" "cells" "[I") := by decide +kernel
theorem wd_956 : lw_tbl[956]? = some (Jvm.Cond.soleField "CarpetElevenModel" "cells") := by decide +kernel
theorem wd_957 : lw_tbl[957]? = some (Jvm.Cond.laysFinal "CarpetElevenModel" "CarpetElevenModel" "moved" "[I") := by decide +kernel
theorem wd_958 : lw_tbl[958]? = some (Jvm.Cond.soleField "CarpetElevenModel" "moved") := by decide +kernel
theorem wd_959 : lw_tbl[959]? = some (Jvm.Cond.superclass "CarpetElevenModel" "java/lang/Object") := by decide +kernel
theorem wd_960 : lw_tbl[960]? = some (Jvm.Cond.methodLink "CarpetElevenLaw" (35 : Nat) ({ cls := "CarpetElevenModel", name := "feed", desc := "(I)I" } : Jvm.MethodName)) := by decide +kernel
theorem wd_961 : lw_tbl[961]? = some (Jvm.Cond.instanceMethod ({ cls := "CarpetElevenModel", name := "feed", desc := "(I)I" } : Jvm.MethodName)) := by decide +kernel
theorem wd_962 : lw_tbl[962]? = some (Jvm.Cond.selects "CarpetElevenModel" ({ cls := "CarpetElevenModel", name := "feed", desc := "(I)I" } : Jvm.MethodName) ({ cls := "CarpetElevenModel", name := "feed", desc := "(I)I" } : Jvm.MethodName)) := by decide +kernel
theorem wd_963 : lw_tbl[963]? = some (Jvm.Cond.code ({ cls := "CarpetElevenModel", name := "feed", desc := "(I)I" } : Jvm.MethodName) prog_14_method_6_code (2 : Nat) (Option.some Jvm.ClassFile.FieldType.int)) := by decide +kernel
theorem wd_964 : lw_tbl[964]? = some (Jvm.Cond.methodLink "CarpetElevenModel" (92 : Nat) ({ cls := "CarpetElevenModel", name := "isIn", desc := "(III)Z" } : Jvm.MethodName)) := by decide +kernel
theorem wd_965 : lw_tbl[965]? = some (Jvm.Cond.static ({ cls := "CarpetElevenModel", name := "isIn", desc := "(III)Z" } : Jvm.MethodName)) := by decide +kernel
theorem wd_966 : lw_tbl[966]? = some (Jvm.Cond.code ({ cls := "CarpetElevenModel", name := "isIn", desc := "(III)Z" } : Jvm.MethodName) prog_14_method_2_code (3 : Nat) (Option.some Jvm.ClassFile.FieldType.boolean)) := by decide +kernel
theorem wd_967 : lw_tbl[967]? = some (Jvm.Cond.methodLink "CarpetElevenLaw" (40 : Nat) ({ cls := "CarpetElevenModel", name := "text", desc := "()I" } : Jvm.MethodName)) := by decide +kernel
theorem wd_968 : lw_tbl[968]? = some (Jvm.Cond.instanceMethod ({ cls := "CarpetElevenModel", name := "text", desc := "()I" } : Jvm.MethodName)) := by decide +kernel
theorem wd_969 : lw_tbl[969]? = some (Jvm.Cond.selects "CarpetElevenModel" ({ cls := "CarpetElevenModel", name := "text", desc := "()I" } : Jvm.MethodName) ({ cls := "CarpetElevenModel", name := "text", desc := "()I" } : Jvm.MethodName)) := by decide +kernel
theorem wd_970 : lw_tbl[970]? = some (Jvm.Cond.code ({ cls := "CarpetElevenModel", name := "text", desc := "()I" } : Jvm.MethodName) prog_14_method_21_code (3 : Nat) (Option.some Jvm.ClassFile.FieldType.int)) := by decide +kernel
theorem wd_971 : lw_tbl[971]? = some (Jvm.Cond.methodLink "CarpetElevenModel" (159 : Nat) ({ cls := "CarpetElevenModel", name := "reads", desc := "()V" } : Jvm.MethodName)) := by decide +kernel
theorem wd_972 : lw_tbl[972]? = some (Jvm.Cond.privateMethod ({ cls := "CarpetElevenModel", name := "reads", desc := "()V" } : Jvm.MethodName)) := by decide +kernel
theorem wd_973 : lw_tbl[973]? = some (Jvm.Cond.instanceMethod ({ cls := "CarpetElevenModel", name := "reads", desc := "()V" } : Jvm.MethodName)) := by decide +kernel
theorem wd_974 : lw_tbl[974]? = some (Jvm.Cond.code ({ cls := "CarpetElevenModel", name := "reads", desc := "()V" } : Jvm.MethodName) prog_14_method_10_code (2 : Nat) (Option.none : Option Jvm.ClassFile.FieldType)) := by decide +kernel
theorem wd_975 : lw_tbl[975]? = some (Jvm.Cond.methodLink "CarpetElevenModel" (105 : Nat) ({ cls := "CarpetElevenModel", name := "isAt", desc := "(II)Z" } : Jvm.MethodName)) := by decide +kernel
theorem wd_976 : lw_tbl[976]? = some (Jvm.Cond.privateMethod ({ cls := "CarpetElevenModel", name := "isAt", desc := "(II)Z" } : Jvm.MethodName)) := by decide +kernel
theorem wd_977 : lw_tbl[977]? = some (Jvm.Cond.instanceMethod ({ cls := "CarpetElevenModel", name := "isAt", desc := "(II)Z" } : Jvm.MethodName)) := by decide +kernel
theorem wd_978 : lw_tbl[978]? = some (Jvm.Cond.code ({ cls := "CarpetElevenModel", name := "isAt", desc := "(II)Z" } : Jvm.MethodName) prog_14_method_7_code (3 : Nat) (Option.some Jvm.ClassFile.FieldType.boolean)) := by decide +kernel
theorem wd_979 : lw_tbl[979]? = some (Jvm.Cond.methodLink "CarpetElevenModel" (115 : Nat) ({ cls := "CarpetElevenModel", name := "isWord", desc := "([I)Z" } : Jvm.MethodName)) := by decide +kernel
theorem wd_980 : lw_tbl[980]? = some (Jvm.Cond.privateMethod ({ cls := "CarpetElevenModel", name := "isWord", desc := "([I)Z" } : Jvm.MethodName)) := by decide +kernel
theorem wd_981 : lw_tbl[981]? = some (Jvm.Cond.instanceMethod ({ cls := "CarpetElevenModel", name := "isWord", desc := "([I)Z" } : Jvm.MethodName)) := by decide +kernel
theorem wd_982 : lw_tbl[982]? = some (Jvm.Cond.code ({ cls := "CarpetElevenModel", name := "isWord", desc := "([I)Z" } : Jvm.MethodName) prog_14_method_9_code (3 : Nat) (Option.some Jvm.ClassFile.FieldType.boolean)) := by decide +kernel
theorem wd_983 : lw_tbl[983]? = some (Jvm.Cond.methodLink "CarpetElevenModel" (119 : Nat) ({ cls := "CarpetElevenModel", name := "isSign", desc := "(I)Z" } : Jvm.MethodName)) := by decide +kernel
theorem wd_984 : lw_tbl[984]? = some (Jvm.Cond.static ({ cls := "CarpetElevenModel", name := "isSign", desc := "(I)Z" } : Jvm.MethodName)) := by decide +kernel
theorem wd_985 : lw_tbl[985]? = some (Jvm.Cond.code ({ cls := "CarpetElevenModel", name := "isSign", desc := "(I)Z" } : Jvm.MethodName) prog_14_method_8_code (1 : Nat) (Option.some Jvm.ClassFile.FieldType.boolean)) := by decide +kernel
theorem wd_986 : lw_tbl[986]? = some (Jvm.Cond.methodLink "CarpetElevenModel" (162 : Nat) ({ cls := "CarpetElevenModel", name := "readsRow", desc := "()Z" } : Jvm.MethodName)) := by decide +kernel
theorem wd_987 : lw_tbl[987]? = some (Jvm.Cond.privateMethod ({ cls := "CarpetElevenModel", name := "readsRow", desc := "()Z" } : Jvm.MethodName)) := by decide +kernel
theorem wd_988 : lw_tbl[988]? = some (Jvm.Cond.instanceMethod ({ cls := "CarpetElevenModel", name := "readsRow", desc := "()Z" } : Jvm.MethodName)) := by decide +kernel
theorem wd_989 : lw_tbl[989]? = some (Jvm.Cond.code ({ cls := "CarpetElevenModel", name := "readsRow", desc := "()Z" } : Jvm.MethodName) prog_14_method_20_code (4 : Nat) (Option.some Jvm.ClassFile.FieldType.boolean)) := by decide +kernel
theorem wd_990 : lw_tbl[990]? = some (Jvm.Cond.methodLink "CarpetElevenModel" (153 : Nat) ({ cls := "CarpetElevenModel", name := "ahead", desc := "()I" } : Jvm.MethodName)) := by decide +kernel
theorem wd_991 : lw_tbl[991]? = some (Jvm.Cond.privateMethod ({ cls := "CarpetElevenModel", name := "ahead", desc := "()I" } : Jvm.MethodName)) := by decide +kernel
theorem wd_992 : lw_tbl[992]? = some (Jvm.Cond.instanceMethod ({ cls := "CarpetElevenModel", name := "ahead", desc := "()I" } : Jvm.MethodName)) := by decide +kernel
theorem wd_993 : lw_tbl[993]? = some (Jvm.Cond.code ({ cls := "CarpetElevenModel", name := "ahead", desc := "()I" } : Jvm.MethodName) prog_14_method_17_code (2 : Nat) (Option.some Jvm.ClassFile.FieldType.int)) := by decide +kernel
theorem wd_994 : lw_tbl[994]? = some (Jvm.Cond.methodLink "CarpetElevenModel" (140 : Nat) ({ cls := "CarpetElevenModel", name := "mayNot", desc := "()Z" } : Jvm.MethodName)) := by decide +kernel
theorem wd_995 : lw_tbl[995]? = some (Jvm.Cond.privateMethod ({ cls := "CarpetElevenModel", name := "mayNot", desc := "()Z" } : Jvm.MethodName)) := by decide +kernel
theorem wd_996 : lw_tbl[996]? = some (Jvm.Cond.instanceMethod ({ cls := "CarpetElevenModel", name := "mayNot", desc := "()Z" } : Jvm.MethodName)) := by decide +kernel
theorem wd_997 : lw_tbl[997]? = some (Jvm.Cond.code ({ cls := "CarpetElevenModel", name := "mayNot", desc := "()Z" } : Jvm.MethodName) prog_14_method_16_code (2 : Nat) (Option.some Jvm.ClassFile.FieldType.boolean)) := by decide +kernel
theorem wd_998 : lw_tbl[998]? = some (Jvm.Cond.methodLink "CarpetElevenModel" (129 : Nat) ({ cls := "CarpetElevenModel", name := "top", desc := "()I" } : Jvm.MethodName)) := by decide +kernel
theorem wd_999 : lw_tbl[999]? = some (Jvm.Cond.privateMethod ({ cls := "CarpetElevenModel", name := "top", desc := "()I" } : Jvm.MethodName)) := by decide +kernel
theorem wd_1000 : lw_tbl[1000]? = some (Jvm.Cond.instanceMethod ({ cls := "CarpetElevenModel", name := "top", desc := "()I" } : Jvm.MethodName)) := by decide +kernel
theorem wd_1001 : lw_tbl[1001]? = some (Jvm.Cond.code ({ cls := "CarpetElevenModel", name := "top", desc := "()I" } : Jvm.MethodName) prog_14_method_11_code (1 : Nat) (Option.some Jvm.ClassFile.FieldType.int)) := by decide +kernel
theorem wd_1002 : lw_tbl[1002]? = some (Jvm.Cond.methodLink "CarpetElevenModel" (144 : Nat) ({ cls := "CarpetElevenModel", name := "holds", desc := "(I)V" } : Jvm.MethodName)) := by decide +kernel
theorem wd_1003 : lw_tbl[1003]? = some (Jvm.Cond.privateMethod ({ cls := "CarpetElevenModel", name := "holds", desc := "(I)V" } : Jvm.MethodName)) := by decide +kernel
theorem wd_1004 : lw_tbl[1004]? = some (Jvm.Cond.instanceMethod ({ cls := "CarpetElevenModel", name := "holds", desc := "(I)V" } : Jvm.MethodName)) := by decide +kernel
theorem wd_1005 : lw_tbl[1005]? = some (Jvm.Cond.code ({ cls := "CarpetElevenModel", name := "holds", desc := "(I)V" } : Jvm.MethodName) prog_14_method_12_code (2 : Nat) (Option.none : Option Jvm.ClassFile.FieldType)) := by decide +kernel
theorem wd_1006 : lw_tbl[1006]? = some (Jvm.Cond.methodLink "CarpetElevenModel" (156 : Nat) ({ cls := "CarpetElevenModel", name := "behind", desc := "()I" } : Jvm.MethodName)) := by decide +kernel
theorem wd_1007 : lw_tbl[1007]? = some (Jvm.Cond.privateMethod ({ cls := "CarpetElevenModel", name := "behind", desc := "()I" } : Jvm.MethodName)) := by decide +kernel
theorem wd_1008 : lw_tbl[1008]? = some (Jvm.Cond.instanceMethod ({ cls := "CarpetElevenModel", name := "behind", desc := "()I" } : Jvm.MethodName)) := by decide +kernel
theorem wd_1009 : lw_tbl[1009]? = some (Jvm.Cond.code ({ cls := "CarpetElevenModel", name := "behind", desc := "()I" } : Jvm.MethodName) prog_14_method_19_code (2 : Nat) (Option.some Jvm.ClassFile.FieldType.int)) := by decide +kernel
theorem wd_1010 : lw_tbl[1010]? = some (Jvm.Cond.methodLink "CarpetElevenModel" (147 : Nat) ({ cls := "CarpetElevenModel", name := "letsFrom", desc := "(I)V" } : Jvm.MethodName)) := by decide +kernel
theorem wd_1011 : lw_tbl[1011]? = some (Jvm.Cond.privateMethod ({ cls := "CarpetElevenModel", name := "letsFrom", desc := "(I)V" } : Jvm.MethodName)) := by decide +kernel
theorem wd_1012 : lw_tbl[1012]? = some (Jvm.Cond.instanceMethod ({ cls := "CarpetElevenModel", name := "letsFrom", desc := "(I)V" } : Jvm.MethodName)) := by decide +kernel
theorem wd_1013 : lw_tbl[1013]? = some (Jvm.Cond.code ({ cls := "CarpetElevenModel", name := "letsFrom", desc := "(I)V" } : Jvm.MethodName) prog_14_method_14_code (2 : Nat) (Option.none : Option Jvm.ClassFile.FieldType)) := by decide +kernel
theorem wd_1014 : lw_tbl[1014]? = some (Jvm.Cond.methodLink "CarpetElevenModel" (133 : Nat) ({ cls := "CarpetElevenModel", name := "heightOf", desc := "(I)I" } : Jvm.MethodName)) := by decide +kernel
theorem wd_1015 : lw_tbl[1015]? = some (Jvm.Cond.static ({ cls := "CarpetElevenModel", name := "heightOf", desc := "(I)I" } : Jvm.MethodName)) := by decide +kernel
theorem wd_1016 : lw_tbl[1016]? = some (Jvm.Cond.code ({ cls := "CarpetElevenModel", name := "heightOf", desc := "(I)I" } : Jvm.MethodName) prog_14_method_15_code (1 : Nat) (Option.some Jvm.ClassFile.FieldType.int)) := by decide +kernel
theorem wd_1017 : lw_tbl[1017]? = some (Jvm.Cond.methodLink "CarpetElevenModel" (137 : Nat) ({ cls := "CarpetElevenModel", name := "lets", desc := "()V" } : Jvm.MethodName)) := by decide +kernel
theorem wd_1018 : lw_tbl[1018]? = some (Jvm.Cond.privateMethod ({ cls := "CarpetElevenModel", name := "lets", desc := "()V" } : Jvm.MethodName)) := by decide +kernel
theorem wd_1019 : lw_tbl[1019]? = some (Jvm.Cond.instanceMethod ({ cls := "CarpetElevenModel", name := "lets", desc := "()V" } : Jvm.MethodName)) := by decide +kernel
theorem wd_1020 : lw_tbl[1020]? = some (Jvm.Cond.code ({ cls := "CarpetElevenModel", name := "lets", desc := "()V" } : Jvm.MethodName) prog_14_method_13_code (2 : Nat) (Option.none : Option Jvm.ClassFile.FieldType)) := by decide +kernel
theorem wd_1021 : lw_tbl[1021]? = some (Jvm.Cond.methodLink "CarpetElevenModel" (150 : Nat) ({ cls := "CarpetElevenModel", name := "deedOf", desc := "(I)I" } : Jvm.MethodName)) := by decide +kernel
theorem wd_1022 : lw_tbl[1022]? = some (Jvm.Cond.static ({ cls := "CarpetElevenModel", name := "deedOf", desc := "(I)I" } : Jvm.MethodName)) := by decide +kernel
theorem wd_1023 : lw_tbl[1023]? = some (Jvm.Cond.code ({ cls := "CarpetElevenModel", name := "deedOf", desc := "(I)I" } : Jvm.MethodName) prog_14_method_18_code (1 : Nat) (Option.some Jvm.ClassFile.FieldType.int)) := by decide +kernel
theorem wd_1024 : lw_tbl[1024]? = some (Jvm.Cond.methodLink "CarpetElevenLaw" (44 : Nat) ({ cls := "CarpetElevenModel", name := "force", desc := "(I)I" } : Jvm.MethodName)) := by decide +kernel
theorem wd_1025 : lw_tbl[1025]? = some (Jvm.Cond.instanceMethod ({ cls := "CarpetElevenModel", name := "force", desc := "(I)I" } : Jvm.MethodName)) := by decide +kernel
theorem wd_1026 : lw_tbl[1026]? = some (Jvm.Cond.selects "CarpetElevenModel" ({ cls := "CarpetElevenModel", name := "force", desc := "(I)I" } : Jvm.MethodName) ({ cls := "CarpetElevenModel", name := "force", desc := "(I)I" } : Jvm.MethodName)) := by decide +kernel
theorem wd_1027 : lw_tbl[1027]? = some (Jvm.Cond.code ({ cls := "CarpetElevenModel", name := "force", desc := "(I)I" } : Jvm.MethodName) prog_14_method_22_code (3 : Nat) (Option.some Jvm.ClassFile.FieldType.int)) := by decide +kernel
theorem wd_1028 : lw_tbl[1028]? = some (Jvm.Cond.methodLink "CarpetElevenLaw" (17 : Nat) ({ cls := "CarpetElevenModel", name := "seller", desc := "(II)I" } : Jvm.MethodName)) := by decide +kernel
theorem wd_1029 : lw_tbl[1029]? = some (Jvm.Cond.instanceMethod ({ cls := "CarpetElevenModel", name := "seller", desc := "(II)I" } : Jvm.MethodName)) := by decide +kernel
theorem wd_1030 : lw_tbl[1030]? = some (Jvm.Cond.selects "CarpetElevenModel" ({ cls := "CarpetElevenModel", name := "seller", desc := "(II)I" } : Jvm.MethodName) ({ cls := "CarpetElevenModel", name := "seller", desc := "(II)I" } : Jvm.MethodName)) := by decide +kernel
theorem wd_1031 : lw_tbl[1031]? = some (Jvm.Cond.code ({ cls := "CarpetElevenModel", name := "seller", desc := "(II)I" } : Jvm.MethodName) prog_14_method_31_code (3 : Nat) (Option.some Jvm.ClassFile.FieldType.int)) := by decide +kernel
theorem wd_1032 : lw_tbl[1032]? = some (Jvm.Cond.methodLink "CarpetElevenModel" (188 : Nat) ({ cls := "CarpetElevenModel", name := "comes", desc := "(II)I" } : Jvm.MethodName)) := by decide +kernel
theorem wd_1033 : lw_tbl[1033]? = some (Jvm.Cond.privateMethod ({ cls := "CarpetElevenModel", name := "comes", desc := "(II)I" } : Jvm.MethodName)) := by decide +kernel
theorem wd_1034 : lw_tbl[1034]? = some (Jvm.Cond.instanceMethod ({ cls := "CarpetElevenModel", name := "comes", desc := "(II)I" } : Jvm.MethodName)) := by decide +kernel
theorem wd_1035 : lw_tbl[1035]? = some (Jvm.Cond.code ({ cls := "CarpetElevenModel", name := "comes", desc := "(II)I" } : Jvm.MethodName) prog_14_method_30_code (3 : Nat) (Option.some Jvm.ClassFile.FieldType.int)) := by decide +kernel
theorem wd_1036 : lw_tbl[1036]? = some (Jvm.Cond.methodLink "CarpetElevenModel" (185 : Nat) ({ cls := "CarpetElevenModel", name := "begins", desc := "(I)V" } : Jvm.MethodName)) := by decide +kernel
theorem wd_1037 : lw_tbl[1037]? = some (Jvm.Cond.privateMethod ({ cls := "CarpetElevenModel", name := "begins", desc := "(I)V" } : Jvm.MethodName)) := by decide +kernel
theorem wd_1038 : lw_tbl[1038]? = some (Jvm.Cond.instanceMethod ({ cls := "CarpetElevenModel", name := "begins", desc := "(I)V" } : Jvm.MethodName)) := by decide +kernel
theorem wd_1039 : lw_tbl[1039]? = some (Jvm.Cond.code ({ cls := "CarpetElevenModel", name := "begins", desc := "(I)V" } : Jvm.MethodName) prog_14_method_29_code (2 : Nat) (Option.none : Option Jvm.ClassFile.FieldType)) := by decide +kernel
theorem wd_1040 : lw_tbl[1040]? = some (Jvm.Cond.methodLink "CarpetElevenModel" (176 : Nat) ({ cls := "CarpetElevenModel", name := "says", desc := "(IIII)I" } : Jvm.MethodName)) := by decide +kernel
theorem wd_1041 : lw_tbl[1041]? = some (Jvm.Cond.privateMethod ({ cls := "CarpetElevenModel", name := "says", desc := "(IIII)I" } : Jvm.MethodName)) := by decide +kernel
theorem wd_1042 : lw_tbl[1042]? = some (Jvm.Cond.instanceMethod ({ cls := "CarpetElevenModel", name := "says", desc := "(IIII)I" } : Jvm.MethodName)) := by decide +kernel
theorem wd_1043 : lw_tbl[1043]? = some (Jvm.Cond.code ({ cls := "CarpetElevenModel", name := "says", desc := "(IIII)I" } : Jvm.MethodName) prog_14_method_25_code (9 : Nat) (Option.some Jvm.ClassFile.FieldType.int)) := by decide +kernel
theorem wd_1044 : lw_tbl[1044]? = some (Jvm.Cond.methodLink "CarpetElevenModel" (168 : Nat) ({ cls := "CarpetElevenModel", name := "named", desc := "(IIII)I" } : Jvm.MethodName)) := by decide +kernel
theorem wd_1045 : lw_tbl[1045]? = some (Jvm.Cond.privateMethod ({ cls := "CarpetElevenModel", name := "named", desc := "(IIII)I" } : Jvm.MethodName)) := by decide +kernel
theorem wd_1046 : lw_tbl[1046]? = some (Jvm.Cond.instanceMethod ({ cls := "CarpetElevenModel", name := "named", desc := "(IIII)I" } : Jvm.MethodName)) := by decide +kernel
theorem wd_1047 : lw_tbl[1047]? = some (Jvm.Cond.code ({ cls := "CarpetElevenModel", name := "named", desc := "(IIII)I" } : Jvm.MethodName) prog_14_method_23_code (5 : Nat) (Option.some Jvm.ClassFile.FieldType.int)) := by decide +kernel
theorem wd_1048 : lw_tbl[1048]? = some (Jvm.Cond.methodLink "CarpetElevenModel" (172 : Nat) ({ cls := "CarpetElevenModel", name := "done", desc := "(III)I" } : Jvm.MethodName)) := by decide +kernel
theorem wd_1049 : lw_tbl[1049]? = some (Jvm.Cond.static ({ cls := "CarpetElevenModel", name := "done", desc := "(III)I" } : Jvm.MethodName)) := by decide +kernel
theorem wd_1050 : lw_tbl[1050]? = some (Jvm.Cond.code ({ cls := "CarpetElevenModel", name := "done", desc := "(III)I" } : Jvm.MethodName) prog_14_method_24_code (3 : Nat) (Option.some Jvm.ClassFile.FieldType.int)) := by decide +kernel
theorem wd_1051 : lw_tbl[1051]? = some (Jvm.Cond.methodLink "CarpetElevenModel" (182 : Nat) ({ cls := "CarpetElevenModel", name := "leastOf", desc := "(III)I" } : Jvm.MethodName)) := by decide +kernel
theorem wd_1052 : lw_tbl[1052]? = some (Jvm.Cond.privateMethod ({ cls := "CarpetElevenModel", name := "leastOf", desc := "(III)I" } : Jvm.MethodName)) := by decide +kernel
theorem wd_1053 : lw_tbl[1053]? = some (Jvm.Cond.instanceMethod ({ cls := "CarpetElevenModel", name := "leastOf", desc := "(III)I" } : Jvm.MethodName)) := by decide +kernel
theorem wd_1054 : lw_tbl[1054]? = some (Jvm.Cond.code ({ cls := "CarpetElevenModel", name := "leastOf", desc := "(III)I" } : Jvm.MethodName) prog_14_method_27_code (4 : Nat) (Option.some Jvm.ClassFile.FieldType.int)) := by decide +kernel
theorem wd_1055 : lw_tbl[1055]? = some (Jvm.Cond.methodLink "CarpetElevenModel" (179 : Nat) ({ cls := "CarpetElevenModel", name := "bounded", desc := "(III)I" } : Jvm.MethodName)) := by decide +kernel
theorem wd_1056 : lw_tbl[1056]? = some (Jvm.Cond.static ({ cls := "CarpetElevenModel", name := "bounded", desc := "(III)I" } : Jvm.MethodName)) := by decide +kernel
theorem wd_1057 : lw_tbl[1057]? = some (Jvm.Cond.code ({ cls := "CarpetElevenModel", name := "bounded", desc := "(III)I" } : Jvm.MethodName) prog_14_method_26_code (3 : Nat) (Option.some Jvm.ClassFile.FieldType.int)) := by decide +kernel
theorem wd_1058 : lw_tbl[1058]? = some (Jvm.Cond.methodLink "CarpetElevenLaw" (22 : Nat) ({ cls := "CarpetElevenModel", name := "set", desc := "(III)I" } : Jvm.MethodName)) := by decide +kernel
theorem wd_1059 : lw_tbl[1059]? = some (Jvm.Cond.instanceMethod ({ cls := "CarpetElevenModel", name := "set", desc := "(III)I" } : Jvm.MethodName)) := by decide +kernel
theorem wd_1060 : lw_tbl[1060]? = some (Jvm.Cond.selects "CarpetElevenModel" ({ cls := "CarpetElevenModel", name := "set", desc := "(III)I" } : Jvm.MethodName) ({ cls := "CarpetElevenModel", name := "set", desc := "(III)I" } : Jvm.MethodName)) := by decide +kernel
theorem wd_1061 : lw_tbl[1061]? = some (Jvm.Cond.code ({ cls := "CarpetElevenModel", name := "set", desc := "(III)I" } : Jvm.MethodName) prog_14_method_32_code (6 : Nat) (Option.some Jvm.ClassFile.FieldType.int)) := by decide +kernel
theorem wd_1062 : lw_tbl[1062]? = some (Jvm.Cond.methodLink "CarpetElevenModel" (192 : Nat) ({ cls := "CarpetElevenModel", name := "isSeller", desc := "(I)Z" } : Jvm.MethodName)) := by decide +kernel
theorem wd_1063 : lw_tbl[1063]? = some (Jvm.Cond.privateMethod ({ cls := "CarpetElevenModel", name := "isSeller", desc := "(I)Z" } : Jvm.MethodName)) := by decide +kernel
theorem wd_1064 : lw_tbl[1064]? = some (Jvm.Cond.instanceMethod ({ cls := "CarpetElevenModel", name := "isSeller", desc := "(I)Z" } : Jvm.MethodName)) := by decide +kernel
theorem wd_1065 : lw_tbl[1065]? = some (Jvm.Cond.code ({ cls := "CarpetElevenModel", name := "isSeller", desc := "(I)Z" } : Jvm.MethodName) prog_14_method_3_code (2 : Nat) (Option.some Jvm.ClassFile.FieldType.boolean)) := by decide +kernel
theorem wd_1066 : lw_tbl[1066]? = some (Jvm.Cond.methodLink "CarpetElevenLaw" (27 : Nat) ({ cls := "CarpetElevenModel", name := "anew", desc := "(I)I" } : Jvm.MethodName)) := by decide +kernel
theorem wd_1067 : lw_tbl[1067]? = some (Jvm.Cond.instanceMethod ({ cls := "CarpetElevenModel", name := "anew", desc := "(I)I" } : Jvm.MethodName)) := by decide +kernel
theorem wd_1068 : lw_tbl[1068]? = some (Jvm.Cond.selects "CarpetElevenModel" ({ cls := "CarpetElevenModel", name := "anew", desc := "(I)I" } : Jvm.MethodName) ({ cls := "CarpetElevenModel", name := "anew", desc := "(I)I" } : Jvm.MethodName)) := by decide +kernel
theorem wd_1069 : lw_tbl[1069]? = some (Jvm.Cond.code ({ cls := "CarpetElevenModel", name := "anew", desc := "(I)I" } : Jvm.MethodName) prog_14_method_33_code (2 : Nat) (Option.some Jvm.ClassFile.FieldType.int)) := by decide +kernel
theorem wd_1070 : lw_tbl[1070]? = some (Jvm.Cond.methodLink "CarpetElevenLaw" (31 : Nat) ({ cls := "CarpetElevenModel", name := "told", desc := "(II)I" } : Jvm.MethodName)) := by decide +kernel
theorem wd_1071 : lw_tbl[1071]? = some (Jvm.Cond.instanceMethod ({ cls := "CarpetElevenModel", name := "told", desc := "(II)I" } : Jvm.MethodName)) := by decide +kernel
theorem wd_1072 : lw_tbl[1072]? = some (Jvm.Cond.selects "CarpetElevenModel" ({ cls := "CarpetElevenModel", name := "told", desc := "(II)I" } : Jvm.MethodName) ({ cls := "CarpetElevenModel", name := "told", desc := "(II)I" } : Jvm.MethodName)) := by decide +kernel
theorem wd_1073 : lw_tbl[1073]? = some (Jvm.Cond.code ({ cls := "CarpetElevenModel", name := "told", desc := "(II)I" } : Jvm.MethodName) prog_14_method_34_code (3 : Nat) (Option.some Jvm.ClassFile.FieldType.int)) := by decide +kernel
theorem wd_1074 : lw_tbl[1074]? = some (Jvm.Cond.methodLink "CarpetElevenModel" (195 : Nat) ({ cls := "CarpetElevenModel", name := "staysOf", desc := "(I)I" } : Jvm.MethodName)) := by decide +kernel
theorem wd_1075 : lw_tbl[1075]? = some (Jvm.Cond.privateMethod ({ cls := "CarpetElevenModel", name := "staysOf", desc := "(I)I" } : Jvm.MethodName)) := by decide +kernel
theorem wd_1076 : lw_tbl[1076]? = some (Jvm.Cond.instanceMethod ({ cls := "CarpetElevenModel", name := "staysOf", desc := "(I)I" } : Jvm.MethodName)) := by decide +kernel
theorem wd_1077 : lw_tbl[1077]? = some (Jvm.Cond.code ({ cls := "CarpetElevenModel", name := "staysOf", desc := "(I)I" } : Jvm.MethodName) prog_14_method_28_code (3 : Nat) (Option.some Jvm.ClassFile.FieldType.int)) := by decide +kernel
theorem wd_1078 : lw_tbl[1078]? = some (Jvm.Cond.methodLink "CarpetElevenLaw" (131 : Nat) ({ cls := "CarpetElevenModel", name := "taken", desc := "(II)I" } : Jvm.MethodName)) := by decide +kernel
theorem wd_1079 : lw_tbl[1079]? = some (Jvm.Cond.instanceMethod ({ cls := "CarpetElevenModel", name := "taken", desc := "(II)I" } : Jvm.MethodName)) := by decide +kernel
theorem wd_1080 : lw_tbl[1080]? = some (Jvm.Cond.selects "CarpetElevenModel" ({ cls := "CarpetElevenModel", name := "taken", desc := "(II)I" } : Jvm.MethodName) ({ cls := "CarpetElevenModel", name := "taken", desc := "(II)I" } : Jvm.MethodName)) := by decide +kernel
theorem wd_1081 : lw_tbl[1081]? = some (Jvm.Cond.code ({ cls := "CarpetElevenModel", name := "taken", desc := "(II)I" } : Jvm.MethodName) prog_14_method_36_code (3 : Nat) (Option.some Jvm.ClassFile.FieldType.int)) := by decide +kernel
theorem wd_1082 : lw_tbl[1082]? = some (Jvm.Cond.methodLink "CarpetElevenModel" (198 : Nat) ({ cls := "CarpetElevenModel", name := "isUnder", desc := "(II)Z" } : Jvm.MethodName)) := by decide +kernel
theorem wd_1083 : lw_tbl[1083]? = some (Jvm.Cond.static ({ cls := "CarpetElevenModel", name := "isUnder", desc := "(II)Z" } : Jvm.MethodName)) := by decide +kernel
theorem wd_1084 : lw_tbl[1084]? = some (Jvm.Cond.code ({ cls := "CarpetElevenModel", name := "isUnder", desc := "(II)Z" } : Jvm.MethodName) prog_14_method_35_code (2 : Nat) (Option.some Jvm.ClassFile.FieldType.boolean)) := by decide +kernel
theorem wd_1085 : lw_tbl[1085]? = some (Jvm.Cond.methodLink "CarpetElevenLaw" (48 : Nat) ({ cls := "CarpetElevenModel", name := "word", desc := "(II)I" } : Jvm.MethodName)) := by decide +kernel
theorem wd_1086 : lw_tbl[1086]? = some (Jvm.Cond.instanceMethod ({ cls := "CarpetElevenModel", name := "word", desc := "(II)I" } : Jvm.MethodName)) := by decide +kernel
theorem wd_1087 : lw_tbl[1087]? = some (Jvm.Cond.selects "CarpetElevenModel" ({ cls := "CarpetElevenModel", name := "word", desc := "(II)I" } : Jvm.MethodName) ({ cls := "CarpetElevenModel", name := "word", desc := "(II)I" } : Jvm.MethodName)) := by decide +kernel
theorem wd_1088 : lw_tbl[1088]? = some (Jvm.Cond.code ({ cls := "CarpetElevenModel", name := "word", desc := "(II)I" } : Jvm.MethodName) prog_14_method_41_code (3 : Nat) (Option.some Jvm.ClassFile.FieldType.int)) := by decide +kernel
theorem wd_1089 : lw_tbl[1089]? = some (Jvm.Cond.methodLink "CarpetElevenModel" (208 : Nat) ({ cls := "CarpetElevenModel", name := "isBid", desc := "(I)Z" } : Jvm.MethodName)) := by decide +kernel
theorem wd_1090 : lw_tbl[1090]? = some (Jvm.Cond.static ({ cls := "CarpetElevenModel", name := "isBid", desc := "(I)Z" } : Jvm.MethodName)) := by decide +kernel
theorem wd_1091 : lw_tbl[1091]? = some (Jvm.Cond.code ({ cls := "CarpetElevenModel", name := "isBid", desc := "(I)Z" } : Jvm.MethodName) prog_14_method_40_code (1 : Nat) (Option.some Jvm.ClassFile.FieldType.boolean)) := by decide +kernel
theorem wd_1092 : lw_tbl[1092]? = some (Jvm.Cond.methodLink "CarpetElevenModel" (211 : Nat) ({ cls := "CarpetElevenModel", name := "speaks", desc := "(II)I" } : Jvm.MethodName)) := by decide +kernel
theorem wd_1093 : lw_tbl[1093]? = some (Jvm.Cond.privateMethod ({ cls := "CarpetElevenModel", name := "speaks", desc := "(II)I" } : Jvm.MethodName)) := by decide +kernel
theorem wd_1094 : lw_tbl[1094]? = some (Jvm.Cond.instanceMethod ({ cls := "CarpetElevenModel", name := "speaks", desc := "(II)I" } : Jvm.MethodName)) := by decide +kernel
theorem wd_1095 : lw_tbl[1095]? = some (Jvm.Cond.code ({ cls := "CarpetElevenModel", name := "speaks", desc := "(II)I" } : Jvm.MethodName) prog_14_method_39_code (5 : Nat) (Option.some Jvm.ClassFile.FieldType.int)) := by decide +kernel
theorem wd_1096 : lw_tbl[1096]? = some (Jvm.Cond.methodLink "CarpetElevenModel" (201 : Nat) ({ cls := "CarpetElevenModel", name := "stepsOf", desc := "(II)I" } : Jvm.MethodName)) := by decide +kernel
theorem wd_1097 : lw_tbl[1097]? = some (Jvm.Cond.privateMethod ({ cls := "CarpetElevenModel", name := "stepsOf", desc := "(II)I" } : Jvm.MethodName)) := by decide +kernel
theorem wd_1098 : lw_tbl[1098]? = some (Jvm.Cond.instanceMethod ({ cls := "CarpetElevenModel", name := "stepsOf", desc := "(II)I" } : Jvm.MethodName)) := by decide +kernel
theorem wd_1099 : lw_tbl[1099]? = some (Jvm.Cond.code ({ cls := "CarpetElevenModel", name := "stepsOf", desc := "(II)I" } : Jvm.MethodName) prog_14_method_37_code (4 : Nat) (Option.some Jvm.ClassFile.FieldType.int)) := by decide +kernel
theorem wd_1100 : lw_tbl[1100]? = some (Jvm.Cond.methodLink "CarpetElevenModel" (204 : Nat) ({ cls := "CarpetElevenModel", name := "doesTake", desc := "(IIII)Z" } : Jvm.MethodName)) := by decide +kernel
theorem wd_1101 : lw_tbl[1101]? = some (Jvm.Cond.privateMethod ({ cls := "CarpetElevenModel", name := "doesTake", desc := "(IIII)Z" } : Jvm.MethodName)) := by decide +kernel
theorem wd_1102 : lw_tbl[1102]? = some (Jvm.Cond.instanceMethod ({ cls := "CarpetElevenModel", name := "doesTake", desc := "(IIII)Z" } : Jvm.MethodName)) := by decide +kernel
theorem wd_1103 : lw_tbl[1103]? = some (Jvm.Cond.code ({ cls := "CarpetElevenModel", name := "doesTake", desc := "(IIII)Z" } : Jvm.MethodName) prog_14_method_38_code (6 : Nat) (Option.some Jvm.ClassFile.FieldType.boolean)) := by decide +kernel
theorem wd_1104 : lw_tbl[1104]? = some (Jvm.Cond.methodLink "CarpetElevenLaw" (52 : Nat) ({ cls := "CarpetElevenModel", name := "agree", desc := "(I)I" } : Jvm.MethodName)) := by decide +kernel
theorem wd_1105 : lw_tbl[1105]? = some (Jvm.Cond.instanceMethod ({ cls := "CarpetElevenModel", name := "agree", desc := "(I)I" } : Jvm.MethodName)) := by decide +kernel
theorem wd_1106 : lw_tbl[1106]? = some (Jvm.Cond.selects "CarpetElevenModel" ({ cls := "CarpetElevenModel", name := "agree", desc := "(I)I" } : Jvm.MethodName) ({ cls := "CarpetElevenModel", name := "agree", desc := "(I)I" } : Jvm.MethodName)) := by decide +kernel
theorem wd_1107 : lw_tbl[1107]? = some (Jvm.Cond.code ({ cls := "CarpetElevenModel", name := "agree", desc := "(I)I" } : Jvm.MethodName) prog_14_method_43_code (2 : Nat) (Option.some Jvm.ClassFile.FieldType.int)) := by decide +kernel
theorem wd_1108 : lw_tbl[1108]? = some (Jvm.Cond.methodLink "CarpetElevenModel" (214 : Nat) ({ cls := "CarpetElevenModel", name := "agrees", desc := "(I)I" } : Jvm.MethodName)) := by decide +kernel
theorem wd_1109 : lw_tbl[1109]? = some (Jvm.Cond.privateMethod ({ cls := "CarpetElevenModel", name := "agrees", desc := "(I)I" } : Jvm.MethodName)) := by decide +kernel
theorem wd_1110 : lw_tbl[1110]? = some (Jvm.Cond.instanceMethod ({ cls := "CarpetElevenModel", name := "agrees", desc := "(I)I" } : Jvm.MethodName)) := by decide +kernel
theorem wd_1111 : lw_tbl[1111]? = some (Jvm.Cond.code ({ cls := "CarpetElevenModel", name := "agrees", desc := "(I)I" } : Jvm.MethodName) prog_14_method_42_code (2 : Nat) (Option.some Jvm.ClassFile.FieldType.int)) := by decide +kernel
theorem wd_1112 : lw_tbl[1112]? = some (Jvm.Cond.methodLink "CarpetElevenLaw" (102 : Nat) ({ cls := "CarpetElevenModel", name := "image", desc := "()I" } : Jvm.MethodName)) := by decide +kernel
theorem wd_1113 : lw_tbl[1113]? = some (Jvm.Cond.instanceMethod ({ cls := "CarpetElevenModel", name := "image", desc := "()I" } : Jvm.MethodName)) := by decide +kernel
theorem wd_1114 : lw_tbl[1114]? = some (Jvm.Cond.selects "CarpetElevenModel" ({ cls := "CarpetElevenModel", name := "image", desc := "()I" } : Jvm.MethodName) ({ cls := "CarpetElevenModel", name := "image", desc := "()I" } : Jvm.MethodName)) := by decide +kernel
theorem wd_1115 : lw_tbl[1115]? = some (Jvm.Cond.code ({ cls := "CarpetElevenModel", name := "image", desc := "()I" } : Jvm.MethodName) prog_14_method_47_code (1 : Nat) (Option.some Jvm.ClassFile.FieldType.int)) := by decide +kernel
theorem wd_1116 : lw_tbl[1116]? = some (Jvm.Cond.methodLink "CarpetElevenModel" (221 : Nat) ({ cls := "CarpetElevenModel", name := "keeps", desc := "(I)V" } : Jvm.MethodName)) := by decide +kernel
theorem wd_1117 : lw_tbl[1117]? = some (Jvm.Cond.privateMethod ({ cls := "CarpetElevenModel", name := "keeps", desc := "(I)V" } : Jvm.MethodName)) := by decide +kernel
theorem wd_1118 : lw_tbl[1118]? = some (Jvm.Cond.instanceMethod ({ cls := "CarpetElevenModel", name := "keeps", desc := "(I)V" } : Jvm.MethodName)) := by decide +kernel
theorem wd_1119 : lw_tbl[1119]? = some (Jvm.Cond.code ({ cls := "CarpetElevenModel", name := "keeps", desc := "(I)V" } : Jvm.MethodName) prog_14_method_44_code (4 : Nat) (Option.none : Option Jvm.ClassFile.FieldType)) := by decide +kernel
theorem wd_1120 : lw_tbl[1120]? = some (Jvm.Cond.methodLink "CarpetElevenModel" (239 : Nat) ({ cls := "CarpetElevenModel", name := "standing", desc := "(I)I" } : Jvm.MethodName)) := by decide +kernel
theorem wd_1121 : lw_tbl[1121]? = some (Jvm.Cond.privateMethod ({ cls := "CarpetElevenModel", name := "standing", desc := "(I)I" } : Jvm.MethodName)) := by decide +kernel
theorem wd_1122 : lw_tbl[1122]? = some (Jvm.Cond.instanceMethod ({ cls := "CarpetElevenModel", name := "standing", desc := "(I)I" } : Jvm.MethodName)) := by decide +kernel
theorem wd_1123 : lw_tbl[1123]? = some (Jvm.Cond.code ({ cls := "CarpetElevenModel", name := "standing", desc := "(I)I" } : Jvm.MethodName) prog_14_method_46_code (4 : Nat) (Option.some Jvm.ClassFile.FieldType.int)) := by decide +kernel
theorem wd_1124 : lw_tbl[1124]? = some (Jvm.Cond.methodLink "CarpetElevenLaw" (106 : Nat) ({ cls := "CarpetElevenModel", name := "back", desc := "()I" } : Jvm.MethodName)) := by decide +kernel
theorem wd_1125 : lw_tbl[1125]? = some (Jvm.Cond.instanceMethod ({ cls := "CarpetElevenModel", name := "back", desc := "()I" } : Jvm.MethodName)) := by decide +kernel
theorem wd_1126 : lw_tbl[1126]? = some (Jvm.Cond.selects "CarpetElevenModel" ({ cls := "CarpetElevenModel", name := "back", desc := "()I" } : Jvm.MethodName) ({ cls := "CarpetElevenModel", name := "back", desc := "()I" } : Jvm.MethodName)) := by decide +kernel
theorem wd_1127 : lw_tbl[1127]? = some (Jvm.Cond.code ({ cls := "CarpetElevenModel", name := "back", desc := "()I" } : Jvm.MethodName) prog_14_method_48_code (1 : Nat) (Option.some Jvm.ClassFile.FieldType.int)) := by decide +kernel
theorem wd_1128 : lw_tbl[1128]? = some (Jvm.Cond.methodLink "CarpetElevenModel" (242 : Nat) ({ cls := "CarpetElevenModel", name := "putsBack", desc := "(II)V" } : Jvm.MethodName)) := by decide +kernel
theorem wd_1129 : lw_tbl[1129]? = some (Jvm.Cond.privateMethod ({ cls := "CarpetElevenModel", name := "putsBack", desc := "(II)V" } : Jvm.MethodName)) := by decide +kernel
theorem wd_1130 : lw_tbl[1130]? = some (Jvm.Cond.instanceMethod ({ cls := "CarpetElevenModel", name := "putsBack", desc := "(II)V" } : Jvm.MethodName)) := by decide +kernel
theorem wd_1131 : lw_tbl[1131]? = some (Jvm.Cond.code ({ cls := "CarpetElevenModel", name := "putsBack", desc := "(II)V" } : Jvm.MethodName) prog_14_method_45_code (5 : Nat) (Option.none : Option Jvm.ClassFile.FieldType)) := by decide +kernel
theorem wd_1132 : lw_tbl[1132]? = some (Jvm.Cond.methodLink "CarpetElevenLaw" (57 : Nat) ({ cls := "CarpetElevenModel", name := "rule", desc := "(IIII)I" } : Jvm.MethodName)) := by decide +kernel
theorem wd_1133 : lw_tbl[1133]? = some (Jvm.Cond.instanceMethod ({ cls := "CarpetElevenModel", name := "rule", desc := "(IIII)I" } : Jvm.MethodName)) := by decide +kernel
theorem wd_1134 : lw_tbl[1134]? = some (Jvm.Cond.selects "CarpetElevenModel" ({ cls := "CarpetElevenModel", name := "rule", desc := "(IIII)I" } : Jvm.MethodName) ({ cls := "CarpetElevenModel", name := "rule", desc := "(IIII)I" } : Jvm.MethodName)) := by decide +kernel
theorem wd_1135 : lw_tbl[1135]? = some (Jvm.Cond.code ({ cls := "CarpetElevenModel", name := "rule", desc := "(IIII)I" } : Jvm.MethodName) prog_14_method_52_code (5 : Nat) (Option.some Jvm.ClassFile.FieldType.int)) := by decide +kernel
theorem wd_1136 : lw_tbl[1136]? = some (Jvm.Cond.methodLink "CarpetElevenModel" (262 : Nat) ({ cls := "CarpetElevenModel", name := "isRule", desc := "(II)Z" } : Jvm.MethodName)) := by decide +kernel
theorem wd_1137 : lw_tbl[1137]? = some (Jvm.Cond.static ({ cls := "CarpetElevenModel", name := "isRule", desc := "(II)Z" } : Jvm.MethodName)) := by decide +kernel
theorem wd_1138 : lw_tbl[1138]? = some (Jvm.Cond.code ({ cls := "CarpetElevenModel", name := "isRule", desc := "(II)Z" } : Jvm.MethodName) prog_14_method_50_code (2 : Nat) (Option.some Jvm.ClassFile.FieldType.boolean)) := by decide +kernel
theorem wd_1139 : lw_tbl[1139]? = some (Jvm.Cond.methodLink "CarpetElevenModel" (265 : Nat) ({ cls := "CarpetElevenModel", name := "thinks", desc := "(IIIZ)I" } : Jvm.MethodName)) := by decide +kernel
theorem wd_1140 : lw_tbl[1140]? = some (Jvm.Cond.privateMethod ({ cls := "CarpetElevenModel", name := "thinks", desc := "(IIIZ)I" } : Jvm.MethodName)) := by decide +kernel
theorem wd_1141 : lw_tbl[1141]? = some (Jvm.Cond.instanceMethod ({ cls := "CarpetElevenModel", name := "thinks", desc := "(IIIZ)I" } : Jvm.MethodName)) := by decide +kernel
theorem wd_1142 : lw_tbl[1142]? = some (Jvm.Cond.code ({ cls := "CarpetElevenModel", name := "thinks", desc := "(IIIZ)I" } : Jvm.MethodName) prog_14_method_51_code (5 : Nat) (Option.some Jvm.ClassFile.FieldType.int)) := by decide +kernel
theorem wd_1143 : lw_tbl[1143]? = some (Jvm.Cond.methodLink "CarpetElevenModel" (249 : Nat) ({ cls := "CarpetElevenModel", name := "bids", desc := "(IIII)V" } : Jvm.MethodName)) := by decide +kernel
theorem wd_1144 : lw_tbl[1144]? = some (Jvm.Cond.privateMethod ({ cls := "CarpetElevenModel", name := "bids", desc := "(IIII)V" } : Jvm.MethodName)) := by decide +kernel
theorem wd_1145 : lw_tbl[1145]? = some (Jvm.Cond.instanceMethod ({ cls := "CarpetElevenModel", name := "bids", desc := "(IIII)V" } : Jvm.MethodName)) := by decide +kernel
theorem wd_1146 : lw_tbl[1146]? = some (Jvm.Cond.code ({ cls := "CarpetElevenModel", name := "bids", desc := "(IIII)V" } : Jvm.MethodName) prog_14_method_49_code (6 : Nat) (Option.none : Option Jvm.ClassFile.FieldType)) := by decide +kernel
theorem wd_1147 : lw_tbl[1147]? = some (Jvm.Cond.methodLink "CarpetElevenLaw" (61 : Nat) ({ cls := "CarpetElevenModel", name := "bestRule", desc := "(II)I" } : Jvm.MethodName)) := by decide +kernel
theorem wd_1148 : lw_tbl[1148]? = some (Jvm.Cond.instanceMethod ({ cls := "CarpetElevenModel", name := "bestRule", desc := "(II)I" } : Jvm.MethodName)) := by decide +kernel
theorem wd_1149 : lw_tbl[1149]? = some (Jvm.Cond.selects "CarpetElevenModel" ({ cls := "CarpetElevenModel", name := "bestRule", desc := "(II)I" } : Jvm.MethodName) ({ cls := "CarpetElevenModel", name := "bestRule", desc := "(II)I" } : Jvm.MethodName)) := by decide +kernel
theorem wd_1150 : lw_tbl[1150]? = some (Jvm.Cond.code ({ cls := "CarpetElevenModel", name := "bestRule", desc := "(II)I" } : Jvm.MethodName) prog_14_method_53_code (9 : Nat) (Option.some Jvm.ClassFile.FieldType.int)) := by decide +kernel
theorem wd_1151 : lw_tbl[1151]? = some (Jvm.Cond.methodLink "CarpetElevenLaw" (65 : Nat) ({ cls := "CarpetElevenModel", name := "bestAt", desc := "(IIII)I" } : Jvm.MethodName)) := by decide +kernel
theorem wd_1152 : lw_tbl[1152]? = some (Jvm.Cond.instanceMethod ({ cls := "CarpetElevenModel", name := "bestAt", desc := "(IIII)I" } : Jvm.MethodName)) := by decide +kernel
theorem wd_1153 : lw_tbl[1153]? = some (Jvm.Cond.selects "CarpetElevenModel" ({ cls := "CarpetElevenModel", name := "bestAt", desc := "(IIII)I" } : Jvm.MethodName) ({ cls := "CarpetElevenModel", name := "bestAt", desc := "(IIII)I" } : Jvm.MethodName)) := by decide +kernel
theorem wd_1154 : lw_tbl[1154]? = some (Jvm.Cond.code ({ cls := "CarpetElevenModel", name := "bestAt", desc := "(IIII)I" } : Jvm.MethodName) prog_14_method_54_code (10 : Nat) (Option.some Jvm.ClassFile.FieldType.int)) := by decide +kernel
theorem wd_1155 : lw_tbl[1155]? = some (Jvm.Cond.methodLink "CarpetElevenLaw" (69 : Nat) ({ cls := "CarpetElevenModel", name := "whom", desc := "(II)I" } : Jvm.MethodName)) := by decide +kernel
theorem wd_1156 : lw_tbl[1156]? = some (Jvm.Cond.instanceMethod ({ cls := "CarpetElevenModel", name := "whom", desc := "(II)I" } : Jvm.MethodName)) := by decide +kernel
theorem wd_1157 : lw_tbl[1157]? = some (Jvm.Cond.selects "CarpetElevenModel" ({ cls := "CarpetElevenModel", name := "whom", desc := "(II)I" } : Jvm.MethodName) ({ cls := "CarpetElevenModel", name := "whom", desc := "(II)I" } : Jvm.MethodName)) := by decide +kernel
theorem wd_1158 : lw_tbl[1158]? = some (Jvm.Cond.code ({ cls := "CarpetElevenModel", name := "whom", desc := "(II)I" } : Jvm.MethodName) prog_14_method_55_code (7 : Nat) (Option.some Jvm.ClassFile.FieldType.int)) := by decide +kernel
theorem wd_1159 : lw_tbl[1159]? = some (Jvm.Cond.methodLink "CarpetElevenLaw" (73 : Nat) ({ cls := "CarpetElevenModel", name := "allInTurn", desc := "(III)I" } : Jvm.MethodName)) := by decide +kernel
theorem wd_1160 : lw_tbl[1160]? = some (Jvm.Cond.instanceMethod ({ cls := "CarpetElevenModel", name := "allInTurn", desc := "(III)I" } : Jvm.MethodName)) := by decide +kernel
theorem wd_1161 : lw_tbl[1161]? = some (Jvm.Cond.selects "CarpetElevenModel" ({ cls := "CarpetElevenModel", name := "allInTurn", desc := "(III)I" } : Jvm.MethodName) ({ cls := "CarpetElevenModel", name := "allInTurn", desc := "(III)I" } : Jvm.MethodName)) := by decide +kernel
theorem wd_1162 : lw_tbl[1162]? = some (Jvm.Cond.code ({ cls := "CarpetElevenModel", name := "allInTurn", desc := "(III)I" } : Jvm.MethodName) prog_14_method_56_code (7 : Nat) (Option.some Jvm.ClassFile.FieldType.int)) := by decide +kernel
theorem wd_1163 : lw_tbl[1163]? = some (Jvm.Cond.methodLink "CarpetElevenLaw" (77 : Nat) ({ cls := "CarpetElevenModel", name := "hisCost", desc := "(III)I" } : Jvm.MethodName)) := by decide +kernel
theorem wd_1164 : lw_tbl[1164]? = some (Jvm.Cond.instanceMethod ({ cls := "CarpetElevenModel", name := "hisCost", desc := "(III)I" } : Jvm.MethodName)) := by decide +kernel
theorem wd_1165 : lw_tbl[1165]? = some (Jvm.Cond.selects "CarpetElevenModel" ({ cls := "CarpetElevenModel", name := "hisCost", desc := "(III)I" } : Jvm.MethodName) ({ cls := "CarpetElevenModel", name := "hisCost", desc := "(III)I" } : Jvm.MethodName)) := by decide +kernel
theorem wd_1166 : lw_tbl[1166]? = some (Jvm.Cond.code ({ cls := "CarpetElevenModel", name := "hisCost", desc := "(III)I" } : Jvm.MethodName) prog_14_method_58_code (9 : Nat) (Option.some Jvm.ClassFile.FieldType.int)) := by decide +kernel
theorem wd_1167 : lw_tbl[1167]? = some (Jvm.Cond.methodLink "CarpetElevenModel" (269 : Nat) ({ cls := "CarpetElevenModel", name := "isSheet", desc := "(I)Z" } : Jvm.MethodName)) := by decide +kernel
theorem wd_1168 : lw_tbl[1168]? = some (Jvm.Cond.static ({ cls := "CarpetElevenModel", name := "isSheet", desc := "(I)Z" } : Jvm.MethodName)) := by decide +kernel
theorem wd_1169 : lw_tbl[1169]? = some (Jvm.Cond.code ({ cls := "CarpetElevenModel", name := "isSheet", desc := "(I)Z" } : Jvm.MethodName) prog_14_method_68_code (1 : Nat) (Option.some Jvm.ClassFile.FieldType.boolean)) := by decide +kernel
theorem wd_1170 : lw_tbl[1170]? = some (Jvm.Cond.methodLink "CarpetElevenModel" (272 : Nat) ({ cls := "CarpetElevenModel", name := "isJustSo", desc := "(II)Z" } : Jvm.MethodName)) := by decide +kernel
theorem wd_1171 : lw_tbl[1171]? = some (Jvm.Cond.privateMethod ({ cls := "CarpetElevenModel", name := "isJustSo", desc := "(II)Z" } : Jvm.MethodName)) := by decide +kernel
theorem wd_1172 : lw_tbl[1172]? = some (Jvm.Cond.instanceMethod ({ cls := "CarpetElevenModel", name := "isJustSo", desc := "(II)Z" } : Jvm.MethodName)) := by decide +kernel
theorem wd_1173 : lw_tbl[1173]? = some (Jvm.Cond.code ({ cls := "CarpetElevenModel", name := "isJustSo", desc := "(II)Z" } : Jvm.MethodName) prog_14_method_57_code (5 : Nat) (Option.some Jvm.ClassFile.FieldType.boolean)) := by decide +kernel
theorem wd_1174 : lw_tbl[1174]? = some (Jvm.Cond.methodLink "CarpetElevenLaw" (81 : Nat) ({ cls := "CarpetElevenModel", name := "slipped", desc := "(III)I" } : Jvm.MethodName)) := by decide +kernel
theorem wd_1175 : lw_tbl[1175]? = some (Jvm.Cond.instanceMethod ({ cls := "CarpetElevenModel", name := "slipped", desc := "(III)I" } : Jvm.MethodName)) := by decide +kernel
theorem wd_1176 : lw_tbl[1176]? = some (Jvm.Cond.selects "CarpetElevenModel" ({ cls := "CarpetElevenModel", name := "slipped", desc := "(III)I" } : Jvm.MethodName) ({ cls := "CarpetElevenModel", name := "slipped", desc := "(III)I" } : Jvm.MethodName)) := by decide +kernel
theorem wd_1177 : lw_tbl[1177]? = some (Jvm.Cond.code ({ cls := "CarpetElevenModel", name := "slipped", desc := "(III)I" } : Jvm.MethodName) prog_14_method_59_code (6 : Nat) (Option.some Jvm.ClassFile.FieldType.int)) := by decide +kernel
theorem wd_1178 : lw_tbl[1178]? = some (Jvm.Cond.methodLink "CarpetElevenLaw" (85 : Nat) ({ cls := "CarpetElevenModel", name := "market", desc := "(IIII)I" } : Jvm.MethodName)) := by decide +kernel
theorem wd_1179 : lw_tbl[1179]? = some (Jvm.Cond.instanceMethod ({ cls := "CarpetElevenModel", name := "market", desc := "(IIII)I" } : Jvm.MethodName)) := by decide +kernel
theorem wd_1180 : lw_tbl[1180]? = some (Jvm.Cond.selects "CarpetElevenModel" ({ cls := "CarpetElevenModel", name := "market", desc := "(IIII)I" } : Jvm.MethodName) ({ cls := "CarpetElevenModel", name := "market", desc := "(IIII)I" } : Jvm.MethodName)) := by decide +kernel
theorem wd_1181 : lw_tbl[1181]? = some (Jvm.Cond.code ({ cls := "CarpetElevenModel", name := "market", desc := "(IIII)I" } : Jvm.MethodName) prog_14_method_61_code (6 : Nat) (Option.some Jvm.ClassFile.FieldType.int)) := by decide +kernel
theorem wd_1182 : lw_tbl[1182]? = some (Jvm.Cond.methodLink "CarpetElevenModel" (284 : Nat) ({ cls := "CarpetElevenModel", name := "goesBuyer", desc := "(III)V" } : Jvm.MethodName)) := by decide +kernel
theorem wd_1183 : lw_tbl[1183]? = some (Jvm.Cond.privateMethod ({ cls := "CarpetElevenModel", name := "goesBuyer", desc := "(III)V" } : Jvm.MethodName)) := by decide +kernel
theorem wd_1184 : lw_tbl[1184]? = some (Jvm.Cond.instanceMethod ({ cls := "CarpetElevenModel", name := "goesBuyer", desc := "(III)V" } : Jvm.MethodName)) := by decide +kernel
theorem wd_1185 : lw_tbl[1185]? = some (Jvm.Cond.code ({ cls := "CarpetElevenModel", name := "goesBuyer", desc := "(III)V" } : Jvm.MethodName) prog_14_method_60_code (6 : Nat) (Option.none : Option Jvm.ClassFile.FieldType)) := by decide +kernel
theorem wd_1186 : lw_tbl[1186]? = some (Jvm.Cond.methodLink "CarpetElevenLaw" (89 : Nat) ({ cls := "CarpetElevenModel", name := "judge", desc := "(II)I" } : Jvm.MethodName)) := by decide +kernel
theorem wd_1187 : lw_tbl[1187]? = some (Jvm.Cond.instanceMethod ({ cls := "CarpetElevenModel", name := "judge", desc := "(II)I" } : Jvm.MethodName)) := by decide +kernel
theorem wd_1188 : lw_tbl[1188]? = some (Jvm.Cond.selects "CarpetElevenModel" ({ cls := "CarpetElevenModel", name := "judge", desc := "(II)I" } : Jvm.MethodName) ({ cls := "CarpetElevenModel", name := "judge", desc := "(II)I" } : Jvm.MethodName)) := by decide +kernel
theorem wd_1189 : lw_tbl[1189]? = some (Jvm.Cond.code ({ cls := "CarpetElevenModel", name := "judge", desc := "(II)I" } : Jvm.MethodName) prog_14_method_62_code (6 : Nat) (Option.some Jvm.ClassFile.FieldType.int)) := by decide +kernel
theorem wd_1190 : lw_tbl[1190]? = some (Jvm.Cond.methodLink "CarpetElevenLaw" (93 : Nat) ({ cls := "CarpetElevenModel", name := "drawn", desc := "(II)I" } : Jvm.MethodName)) := by decide +kernel
theorem wd_1191 : lw_tbl[1191]? = some (Jvm.Cond.instanceMethod ({ cls := "CarpetElevenModel", name := "drawn", desc := "(II)I" } : Jvm.MethodName)) := by decide +kernel
theorem wd_1192 : lw_tbl[1192]? = some (Jvm.Cond.selects "CarpetElevenModel" ({ cls := "CarpetElevenModel", name := "drawn", desc := "(II)I" } : Jvm.MethodName) ({ cls := "CarpetElevenModel", name := "drawn", desc := "(II)I" } : Jvm.MethodName)) := by decide +kernel
theorem wd_1193 : lw_tbl[1193]? = some (Jvm.Cond.code ({ cls := "CarpetElevenModel", name := "drawn", desc := "(II)I" } : Jvm.MethodName) prog_14_method_64_code (3 : Nat) (Option.some Jvm.ClassFile.FieldType.int)) := by decide +kernel
theorem wd_1194 : lw_tbl[1194]? = some (Jvm.Cond.methodLink "CarpetElevenModel" (289 : Nat) ({ cls := "CarpetElevenModel", name := "drawnBy", desc := "(II)I" } : Jvm.MethodName)) := by decide +kernel
theorem wd_1195 : lw_tbl[1195]? = some (Jvm.Cond.privateMethod ({ cls := "CarpetElevenModel", name := "drawnBy", desc := "(II)I" } : Jvm.MethodName)) := by decide +kernel
theorem wd_1196 : lw_tbl[1196]? = some (Jvm.Cond.instanceMethod ({ cls := "CarpetElevenModel", name := "drawnBy", desc := "(II)I" } : Jvm.MethodName)) := by decide +kernel
theorem wd_1197 : lw_tbl[1197]? = some (Jvm.Cond.code ({ cls := "CarpetElevenModel", name := "drawnBy", desc := "(II)I" } : Jvm.MethodName) prog_14_method_63_code (5 : Nat) (Option.some Jvm.ClassFile.FieldType.int)) := by decide +kernel
theorem wd_1198 : lw_tbl[1198]? = some (Jvm.Cond.constant "CarpetElevenModel" (288 : Nat) (1103515245 : Int32)) := by decide +kernel
theorem wd_1199 : lw_tbl[1199]? = some (Jvm.Cond.methodLink "CarpetElevenLaw" (98 : Nat) ({ cls := "CarpetElevenModel", name := "odds", desc := "(IIII)J" } : Jvm.MethodName)) := by decide +kernel
theorem wd_1200 : lw_tbl[1200]? = some (Jvm.Cond.instanceMethod ({ cls := "CarpetElevenModel", name := "odds", desc := "(IIII)J" } : Jvm.MethodName)) := by decide +kernel
theorem wd_1201 : lw_tbl[1201]? = some (Jvm.Cond.selects "CarpetElevenModel" ({ cls := "CarpetElevenModel", name := "odds", desc := "(IIII)J" } : Jvm.MethodName) ({ cls := "CarpetElevenModel", name := "odds", desc := "(IIII)J" } : Jvm.MethodName)) := by decide +kernel
theorem wd_1202 : lw_tbl[1202]? = some (Jvm.Cond.code ({ cls := "CarpetElevenModel", name := "odds", desc := "(IIII)J" } : Jvm.MethodName) prog_14_method_66_code (7 : Nat) (Option.some Jvm.ClassFile.FieldType.long)) := by decide +kernel
theorem wd_1203 : lw_tbl[1203]? = some (Jvm.Cond.constantLong "CarpetElevenModel" (292 : Nat) (-4611686018427387904 : Int64)) := by decide +kernel
theorem wd_1204 : lw_tbl[1204]? = some (Jvm.Cond.methodLink "CarpetElevenModel" (294 : Nat) ({ cls := "CarpetElevenModel", name := "divisor", desc := "(II)I" } : Jvm.MethodName)) := by decide +kernel
theorem wd_1205 : lw_tbl[1205]? = some (Jvm.Cond.static ({ cls := "CarpetElevenModel", name := "divisor", desc := "(II)I" } : Jvm.MethodName)) := by decide +kernel
theorem wd_1206 : lw_tbl[1206]? = some (Jvm.Cond.code ({ cls := "CarpetElevenModel", name := "divisor", desc := "(II)I" } : Jvm.MethodName) prog_14_method_65_code (5 : Nat) (Option.some Jvm.ClassFile.FieldType.int)) := by decide +kernel
theorem wd_1207 : lw_tbl[1207]? = some (Jvm.Cond.methodLink "CarpetElevenLaw" (110 : Nat) ({ cls := "CarpetElevenModel", name := "count", desc := "(I)I" } : Jvm.MethodName)) := by decide +kernel
theorem wd_1208 : lw_tbl[1208]? = some (Jvm.Cond.instanceMethod ({ cls := "CarpetElevenModel", name := "count", desc := "(I)I" } : Jvm.MethodName)) := by decide +kernel
theorem wd_1209 : lw_tbl[1209]? = some (Jvm.Cond.selects "CarpetElevenModel" ({ cls := "CarpetElevenModel", name := "count", desc := "(I)I" } : Jvm.MethodName) ({ cls := "CarpetElevenModel", name := "count", desc := "(I)I" } : Jvm.MethodName)) := by decide +kernel
theorem wd_1210 : lw_tbl[1210]? = some (Jvm.Cond.code ({ cls := "CarpetElevenModel", name := "count", desc := "(I)I" } : Jvm.MethodName) prog_14_method_67_code (2 : Nat) (Option.some Jvm.ClassFile.FieldType.int)) := by decide +kernel
theorem wd_1211 : lw_tbl[1211]? = some (Jvm.Cond.methodLink "CarpetElevenLaw" (114 : Nat) ({ cls := "CarpetElevenModel", name := "sheet", desc := "(III)I" } : Jvm.MethodName)) := by decide +kernel
theorem wd_1212 : lw_tbl[1212]? = some (Jvm.Cond.instanceMethod ({ cls := "CarpetElevenModel", name := "sheet", desc := "(III)I" } : Jvm.MethodName)) := by decide +kernel
theorem wd_1213 : lw_tbl[1213]? = some (Jvm.Cond.selects "CarpetElevenModel" ({ cls := "CarpetElevenModel", name := "sheet", desc := "(III)I" } : Jvm.MethodName) ({ cls := "CarpetElevenModel", name := "sheet", desc := "(III)I" } : Jvm.MethodName)) := by decide +kernel
theorem wd_1214 : lw_tbl[1214]? = some (Jvm.Cond.code ({ cls := "CarpetElevenModel", name := "sheet", desc := "(III)I" } : Jvm.MethodName) prog_14_method_69_code (5 : Nat) (Option.some Jvm.ClassFile.FieldType.int)) := by decide +kernel
theorem wd_1215 : lw_tbl[1215]? = some (Jvm.Cond.methodLink "CarpetElevenLaw" (118 : Nat) ({ cls := "CarpetElevenModel", name := "cell", desc := "(III)I" } : Jvm.MethodName)) := by decide +kernel
theorem wd_1216 : lw_tbl[1216]? = some (Jvm.Cond.instanceMethod ({ cls := "CarpetElevenModel", name := "cell", desc := "(III)I" } : Jvm.MethodName)) := by decide +kernel
theorem wd_1217 : lw_tbl[1217]? = some (Jvm.Cond.selects "CarpetElevenModel" ({ cls := "CarpetElevenModel", name := "cell", desc := "(III)I" } : Jvm.MethodName) ({ cls := "CarpetElevenModel", name := "cell", desc := "(III)I" } : Jvm.MethodName)) := by decide +kernel
theorem wd_1218 : lw_tbl[1218]? = some (Jvm.Cond.code ({ cls := "CarpetElevenModel", name := "cell", desc := "(III)I" } : Jvm.MethodName) prog_14_method_70_code (4 : Nat) (Option.some Jvm.ClassFile.FieldType.int)) := by decide +kernel
theorem wd_1219 : lw_tbl[1219]? = some (Jvm.Cond.methodLink "CarpetElevenLaw" (123 : Nat) ({ cls := "CarpetElevenModel", name := "copy", desc := "(IIIII)I" } : Jvm.MethodName)) := by decide +kernel
theorem wd_1220 : lw_tbl[1220]? = some (Jvm.Cond.instanceMethod ({ cls := "CarpetElevenModel", name := "copy", desc := "(IIIII)I" } : Jvm.MethodName)) := by decide +kernel
theorem wd_1221 : lw_tbl[1221]? = some (Jvm.Cond.selects "CarpetElevenModel" ({ cls := "CarpetElevenModel", name := "copy", desc := "(IIIII)I" } : Jvm.MethodName) ({ cls := "CarpetElevenModel", name := "copy", desc := "(IIIII)I" } : Jvm.MethodName)) := by decide +kernel
theorem wd_1222 : lw_tbl[1222]? = some (Jvm.Cond.code ({ cls := "CarpetElevenModel", name := "copy", desc := "(IIIII)I" } : Jvm.MethodName) prog_14_method_72_code (7 : Nat) (Option.some Jvm.ClassFile.FieldType.int)) := by decide +kernel
theorem wd_1223 : lw_tbl[1223]? = some (Jvm.Cond.methodLink "CarpetElevenModel" (297 : Nat) ({ cls := "CarpetElevenModel", name := "hasCells", desc := "(III)Z" } : Jvm.MethodName)) := by decide +kernel
theorem wd_1224 : lw_tbl[1224]? = some (Jvm.Cond.privateMethod ({ cls := "CarpetElevenModel", name := "hasCells", desc := "(III)Z" } : Jvm.MethodName)) := by decide +kernel
theorem wd_1225 : lw_tbl[1225]? = some (Jvm.Cond.instanceMethod ({ cls := "CarpetElevenModel", name := "hasCells", desc := "(III)Z" } : Jvm.MethodName)) := by decide +kernel
theorem wd_1226 : lw_tbl[1226]? = some (Jvm.Cond.code ({ cls := "CarpetElevenModel", name := "hasCells", desc := "(III)Z" } : Jvm.MethodName) prog_14_method_71_code (4 : Nat) (Option.some Jvm.ClassFile.FieldType.boolean)) := by decide +kernel
theorem wd_1227 : lw_tbl[1227]? = some (Jvm.Cond.methodLink "CarpetElevenLaw" (127 : Nat) ({ cls := "CarpetElevenModel", name := "sellers", desc := "(IIII)I" } : Jvm.MethodName)) := by decide +kernel
theorem wd_1228 : lw_tbl[1228]? = some (Jvm.Cond.instanceMethod ({ cls := "CarpetElevenModel", name := "sellers", desc := "(IIII)I" } : Jvm.MethodName)) := by decide +kernel
theorem wd_1229 : lw_tbl[1229]? = some (Jvm.Cond.selects "CarpetElevenModel" ({ cls := "CarpetElevenModel", name := "sellers", desc := "(IIII)I" } : Jvm.MethodName) ({ cls := "CarpetElevenModel", name := "sellers", desc := "(IIII)I" } : Jvm.MethodName)) := by decide +kernel
theorem wd_1230 : lw_tbl[1230]? = some (Jvm.Cond.code ({ cls := "CarpetElevenModel", name := "sellers", desc := "(IIII)I" } : Jvm.MethodName) prog_14_method_73_code (8 : Nat) (Option.some Jvm.ClassFile.FieldType.int)) := by decide +kernel
theorem wd_1231 : lw_tbl[1231]? = some (Jvm.Cond.sameMethod "CarpetEleven$Halver" "CarpetEleven$Halver" "stays" "(I)I") := by decide +kernel
theorem wd_1232 : lw_tbl[1232]? = some (Jvm.Cond.sameMethod "CarpetEleven$Stiff" "CarpetEleven$Stiff" "stays" "(I)I") := by decide +kernel
theorem wd_1233 : lw_tbl[1233]? = some (Jvm.Cond.sameMethod "CarpetEleven$Halver" "CarpetEleven$Halver" "steps" "(IIIII)I") := by decide +kernel
theorem wd_1234 : lw_tbl[1234]? = some (Jvm.Cond.castable "CarpetEleven$Brother" "CarpetEleven$Halver") := by decide +kernel
theorem wd_1235 : lw_tbl[1235]? = some (Jvm.Cond.castable "CarpetEleven$Eager" "CarpetEleven$Halver") := by decide +kernel
theorem wd_1236 : lw_tbl[1236]? = some (Jvm.Cond.castable "CarpetEleven$Slip" "CarpetEleven$Stiff") := by decide +kernel
theorem wd_1237 : lw_tbl[1237]? = some (Jvm.Cond.castable "CarpetEleven$Halver" "CarpetEleven$Kind") := by decide +kernel
theorem wd_1238 : lw_tbl[1238]? = some (Jvm.Cond.castable "CarpetEleven$Stiff" "CarpetEleven$Kind") := by decide +kernel
theorem wd_1239 : lw_tbl[1239]? = some (Jvm.Cond.castable "CarpetEleven$Slip" "CarpetEleven$Kind") := by decide +kernel
theorem wd_1240 : lw_tbl[1240]? = some (Jvm.Cond.castable "CarpetEleven$Brother" "CarpetEleven$Kind") := by decide +kernel
theorem wd_1241 : lw_tbl[1241]? = some (Jvm.Cond.castable "CarpetEleven$Eager" "CarpetEleven$Kind") := by decide +kernel
theorem wd_1242 : lw_tbl[1242]? = some (Jvm.Cond.fieldLink "java/lang/String" (9 : Nat) "java/lang/String" "value" "[B") := by decide +kernel
theorem wd_1243 : lw_tbl[1243]? = some (Jvm.Cond.fieldLink "java/lang/String" (15 : Nat) "java/lang/String" "coder" "B") := by decide +kernel
