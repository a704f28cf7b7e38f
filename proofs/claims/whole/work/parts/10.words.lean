theorem hw_0 : (Cond.selects "ShadeNames" ⟨"ShadeNames", "findingOf", "(I)I"⟩ ⟨"ShadeNames", "findingOf", "(I)I"⟩) ∈ xTB := xTB_of 0 (by decide +kernel) rfl
theorem hw_1 : (Cond.selects "ShadeNames" ⟨"ShadeNames", "refusalOfPlace", "(II)I"⟩ ⟨"ShadeNames", "refusalOfPlace", "(II)I"⟩) ∈ xTB := xTB_of 1 (by decide +kernel) rfl
theorem hw_2 : (Cond.selects "ShadeNames" ⟨"ShadeNames", "refusalOfRow", "(I)I"⟩ ⟨"ShadeNames", "refusalOfRow", "(I)I"⟩) ∈ xTB := xTB_of 2 (by decide +kernel) rfl
theorem hw_3 : (Cond.selects "ShadeNames" ⟨"ShadeNames", "refusalOfText", "(I)I"⟩ ⟨"ShadeNames", "refusalOfText", "(I)I"⟩) ∈ xTB := xTB_of 3 (by decide +kernel) rfl
theorem hw_4 : (Cond.selects "ShadeNames$Text" ⟨"ShadeNames$Text", "faultOfItem", "(I)I"⟩ ⟨"ShadeNames$Text", "faultOfItem", "(I)I"⟩) ∈ xTB := xTB_of 4 (by decide +kernel) rfl
theorem hw_5 : (Cond.selects "ShadeNames$Text" ⟨"ShadeNames$Text", "writeItem", "(ILShadeNames$Name;)V"⟩ ⟨"ShadeNames$Text", "writeItem", "(ILShadeNames$Name;)V"⟩) ∈ xTB := xTB_of 5 (by decide +kernel) rfl
theorem hw_6 : (Cond.selects "ShadeNames$Text" ⟨"ShadeNames$Text", "figure", "(I)I"⟩ ⟨"ShadeNames$Text", "figure", "(I)I"⟩) ∈ xTB := xTB_of 6 (by decide +kernel) rfl
theorem hw_7 : (Cond.selects "ShadeNames" ⟨"ShadeNames", "tellOf", "(II)I"⟩ ⟨"ShadeNames", "tellOf", "(II)I"⟩) ∈ xTB := xTB_of 7 (by decide +kernel) rfl
theorem hw_8 : (Cond.selects "ShadeNames" ⟨"ShadeNames", "tellChosen", "()I"⟩ ⟨"ShadeNames", "tellChosen", "()I"⟩) ∈ xTB := xTB_of 8 (by decide +kernel) rfl
theorem hw_9 : (Cond.selects "ShadeNames" ⟨"ShadeNames", "reachesOpenAlone", "(III)Z"⟩ ⟨"ShadeNames", "reachesOpenAlone", "(III)Z"⟩) ∈ xTB := xTB_of 9 (by decide +kernel) rfl
theorem hw_10 : (Cond.selects "ShadeNames" ⟨"ShadeNames", "refusalOfShades", "(III)I"⟩ ⟨"ShadeNames", "refusalOfShades", "(III)I"⟩) ∈ xTB := xTB_of 10 (by decide +kernel) rfl
theorem hw_11 : (Cond.selects "ShadeNames$Cover" ⟨"ShadeNames$Cover", "fewestOf", "(II)I"⟩ ⟨"ShadeNames$Cover", "fewestOf", "(II)I"⟩) ∈ xTB := xTB_of 11 (by decide +kernel) rfl
theorem hw_12 : (Cond.selects "ShadeNames" ⟨"ShadeNames", "refusalOfSayings", "(I)I"⟩ ⟨"ShadeNames", "refusalOfSayings", "(I)I"⟩) ∈ xTB := xTB_of 12 (by decide +kernel) rfl
theorem hw_13 : (Cond.selects "ShadeNames" ⟨"ShadeNames", "refusalOfJudges", "(I)I"⟩ ⟨"ShadeNames", "refusalOfJudges", "(I)I"⟩) ∈ xTB := xTB_of 13 (by decide +kernel) rfl
theorem hw_14 : (Cond.selects "ShadeNames" ⟨"ShadeNames", "tellChance", "(JJ)V"⟩ ⟨"ShadeNames", "tellChance", "(JJ)V"⟩) ∈ xTB := xTB_of 14 (by decide +kernel) rfl
theorem hw_15 : (Cond.selects "ShadeNames" ⟨"ShadeNames", "countRows", "()I"⟩ ⟨"ShadeNames", "countRows", "()I"⟩) ∈ xTB := xTB_of 15 (by decide +kernel) rfl
theorem hw_16 : (Cond.selects "ShadeNames" ⟨"ShadeNames", "countTexts", "()I"⟩ ⟨"ShadeNames", "countTexts", "()I"⟩) ∈ xTB := xTB_of 16 (by decide +kernel) rfl
theorem hw_17 : (Cond.selects "ShadeNames" ⟨"ShadeNames", "countKept", "()I"⟩ ⟨"ShadeNames", "countKept", "()I"⟩) ∈ xTB := xTB_of 17 (by decide +kernel) rfl
theorem hw_18 : (Cond.selects "ShadeNamesModel" ⟨"ShadeNamesModel", "find", "(I)I"⟩ ⟨"ShadeNamesModel", "find", "(I)I"⟩) ∈ xTB := xTB_of 18 (by decide +kernel) rfl
theorem hw_19 : (Cond.selects "ShadeNamesModel" ⟨"ShadeNamesModel", "makeRow", "(II)V"⟩ ⟨"ShadeNamesModel", "makeRow", "(II)V"⟩) ∈ xTB := xTB_of 19 (by decide +kernel) rfl
theorem hw_20 : (Cond.selects "ShadeNamesModel" ⟨"ShadeNamesModel", "refused", "(II)I"⟩ ⟨"ShadeNamesModel", "refused", "(II)I"⟩) ∈ xTB := xTB_of 20 (by decide +kernel) rfl
theorem hw_21 : (Cond.selects "ShadeNamesModel" ⟨"ShadeNamesModel", "tell", "(I)I"⟩ ⟨"ShadeNamesModel", "tell", "(I)I"⟩) ∈ xTB := xTB_of 21 (by decide +kernel) rfl
theorem hw_22 : (Cond.selects "ShadeNamesModel" ⟨"ShadeNamesModel", "isSpan", "(III)Z"⟩ ⟨"ShadeNamesModel", "isSpan", "(III)Z"⟩) ∈ xTB := xTB_of 22 (by decide +kernel) rfl
theorem hw_23 : (Cond.selects "ShadeNamesModel" ⟨"ShadeNamesModel", "faultOf", "(I)I"⟩ ⟨"ShadeNamesModel", "faultOf", "(I)I"⟩) ∈ xTB := xTB_of 23 (by decide +kernel) rfl
theorem hw_24 : (Cond.selects "ShadeNamesModel" ⟨"ShadeNamesModel", "skip", "()V"⟩ ⟨"ShadeNamesModel", "skip", "()V"⟩) ∈ xTB := xTB_of 24 (by decide +kernel) rfl
theorem hw_25 : (Cond.selects "ShadeNamesModel" ⟨"ShadeNamesModel", "here", "()I"⟩ ⟨"ShadeNamesModel", "here", "()I"⟩) ∈ xTB := xTB_of 25 (by decide +kernel) rfl
theorem hw_26 : (Cond.selects "ShadeNamesModel" ⟨"ShadeNamesModel", "readsName", "()Z"⟩ ⟨"ShadeNamesModel", "readsName", "()Z"⟩) ∈ xTB := xTB_of 26 (by decide +kernel) rfl
theorem hw_27 : (Cond.selects "ShadeNamesModel" ⟨"ShadeNamesModel", "figure", "(I)I"⟩ ⟨"ShadeNamesModel", "figure", "(I)I"⟩) ∈ xTB := xTB_of 27 (by decide +kernel) rfl
theorem hw_28 : (Cond.selects "ShadeNamesModel" ⟨"ShadeNamesModel", "isName", "(I)Z"⟩ ⟨"ShadeNamesModel", "isName", "(I)Z"⟩) ∈ xTB := xTB_of 28 (by decide +kernel) rfl
theorem hw_29 : (Cond.selects "ShadeNamesModel" ⟨"ShadeNamesModel", "toldOf", "(II)I"⟩ ⟨"ShadeNamesModel", "toldOf", "(II)I"⟩) ∈ xTB := xTB_of 29 (by decide +kernel) rfl
theorem hw_30 : (Cond.selects "ShadeNamesModel" ⟨"ShadeNamesModel", "of", "(II)I"⟩ ⟨"ShadeNamesModel", "of", "(II)I"⟩) ∈ xTB := xTB_of 30 (by decide +kernel) rfl
theorem hw_31 : (Cond.selects "ShadeNamesModel" ⟨"ShadeNamesModel", "shadeOf", "(I)I"⟩ ⟨"ShadeNamesModel", "shadeOf", "(I)I"⟩) ∈ xTB := xTB_of 31 (by decide +kernel) rfl
theorem hw_32 : (Cond.selects "ShadeNamesModel" ⟨"ShadeNamesModel", "isOf", "(II)Z"⟩ ⟨"ShadeNamesModel", "isOf", "(II)Z"⟩) ∈ xTB := xTB_of 32 (by decide +kernel) rfl
theorem hw_33 : (Cond.selects "ShadeNamesModel" ⟨"ShadeNamesModel", "calledBy", "(I)I"⟩ ⟨"ShadeNamesModel", "calledBy", "(I)I"⟩) ∈ xTB := xTB_of 33 (by decide +kernel) rfl
theorem hw_34 : (Cond.selects "ShadeNamesModel" ⟨"ShadeNamesModel", "caller", "(I)I"⟩ ⟨"ShadeNamesModel", "caller", "(I)I"⟩) ∈ xTB := xTB_of 34 (by decide +kernel) rfl
theorem hw_35 : (Cond.selects "ShadeNamesModel" ⟨"ShadeNamesModel", "reaching", "(I)I"⟩ ⟨"ShadeNamesModel", "reaching", "(I)I"⟩) ∈ xTB := xTB_of 35 (by decide +kernel) rfl
theorem hw_36 : (Cond.selects "ShadeNamesModel" ⟨"ShadeNamesModel", "reaches", "(II)Z"⟩ ⟨"ShadeNamesModel", "reaches", "(II)Z"⟩) ∈ xTB := xTB_of 36 (by decide +kernel) rfl
theorem hw_37 : (Cond.selects "ShadeNamesModel" ⟨"ShadeNamesModel", "likeFirst", "(I)I"⟩ ⟨"ShadeNamesModel", "likeFirst", "(I)I"⟩) ∈ xTB := xTB_of 37 (by decide +kernel) rfl
theorem hw_38 : (Cond.selects "ShadeNamesModel" ⟨"ShadeNamesModel", "othersReached", "(I)I"⟩ ⟨"ShadeNamesModel", "othersReached", "(I)I"⟩) ∈ xTB := xTB_of 38 (by decide +kernel) rfl
theorem hw_39 : (Cond.selects "ShadeNamesModel" ⟨"ShadeNamesModel", "reachedAhead", "(I)I"⟩ ⟨"ShadeNamesModel", "reachedAhead", "(I)I"⟩) ∈ xTB := xTB_of 39 (by decide +kernel) rfl
theorem hw_40 : (Cond.selects "ShadeNamesModel" ⟨"ShadeNamesModel", "keepPast", "()V"⟩ ⟨"ShadeNamesModel", "keepPast", "()V"⟩) ∈ xTB := xTB_of 40 (by decide +kernel) rfl
theorem hw_41 : (Cond.selects "ShadeNamesModel" ⟨"ShadeNamesModel", "copyRegistry", "(II)V"⟩ ⟨"ShadeNamesModel", "copyRegistry", "(II)V"⟩) ∈ xTB := xTB_of 41 (by decide +kernel) rfl
theorem hw_42 : (Cond.selects "ShadeNamesModel" ⟨"ShadeNamesModel", "dueFor", "(II)I"⟩ ⟨"ShadeNamesModel", "dueFor", "(II)I"⟩) ∈ xTB := xTB_of 42 (by decide +kernel) rfl
theorem hw_43 : (Cond.selects "ShadeNamesModel" ⟨"ShadeNamesModel", "ownersOf", "(I)I"⟩ ⟨"ShadeNamesModel", "ownersOf", "(I)I"⟩) ∈ xTB := xTB_of 43 (by decide +kernel) rfl
theorem hw_44 : (Cond.selects "ShadeNamesModel" ⟨"ShadeNamesModel", "layFree", "()V"⟩ ⟨"ShadeNamesModel", "layFree", "()V"⟩) ∈ xTB := xTB_of 44 (by decide +kernel) rfl
theorem hw_45 : (Cond.selects "ShadeNamesModel" ⟨"ShadeNamesModel", "isGap", "(III)Z"⟩ ⟨"ShadeNamesModel", "isGap", "(III)Z"⟩) ∈ xTB := xTB_of 45 (by decide +kernel) rfl
theorem hw_46 : (Cond.selects "ShadeNamesModel" ⟨"ShadeNamesModel", "areShades", "(I)Z"⟩ ⟨"ShadeNamesModel", "areShades", "(I)Z"⟩) ∈ xTB := xTB_of 46 (by decide +kernel) rfl
theorem hw_47 : (Cond.selects "ShadeNamesModel" ⟨"ShadeNamesModel", "ownerOf", "(I)I"⟩ ⟨"ShadeNamesModel", "ownerOf", "(I)I"⟩) ∈ xTB := xTB_of 47 (by decide +kernel) rfl
theorem hw_48 : (Cond.selects "ShadeNamesModel" ⟨"ShadeNamesModel", "noShades", "(III)I"⟩ ⟨"ShadeNamesModel", "noShades", "(III)I"⟩) ∈ xTB := xTB_of 48 (by decide +kernel) rfl
theorem hw_49 : (Cond.selects "ShadeNamesModel" ⟨"ShadeNamesModel", "placesFrom", "(III)I"⟩ ⟨"ShadeNamesModel", "placesFrom", "(III)I"⟩) ∈ xTB := xTB_of 49 (by decide +kernel) rfl
theorem hw_50 : (Cond.selects "ShadeNamesModel" ⟨"ShadeNamesModel", "layMixed", "(I)V"⟩ ⟨"ShadeNamesModel", "layMixed", "(I)V"⟩) ∈ xTB := xTB_of 50 (by decide +kernel) rfl
theorem hw_51 : (Cond.selects "ShadeNamesModel" ⟨"ShadeNamesModel", "reachedAt", "(II)V"⟩ ⟨"ShadeNamesModel", "reachedAt", "(II)V"⟩) ∈ xTB := xTB_of 51 (by decide +kernel) rfl
theorem hw_52 : (Cond.selects "ShadeNamesModel" ⟨"ShadeNamesModel", "noThrees", "(I)I"⟩ ⟨"ShadeNamesModel", "noThrees", "(I)I"⟩) ∈ xTB := xTB_of 52 (by decide +kernel) rfl
theorem hw_53 : (Cond.selects "ShadeNamesModel" ⟨"ShadeNamesModel", "eyesOf", "(I)I"⟩ ⟨"ShadeNamesModel", "eyesOf", "(I)I"⟩) ∈ xTB := xTB_of 53 (by decide +kernel) rfl
theorem hw_54 : (Cond.selects "ShadeNamesModel" ⟨"ShadeNamesModel", "areEyes", "(I)Z"⟩ ⟨"ShadeNamesModel", "areEyes", "(I)Z"⟩) ∈ xTB := xTB_of 54 (by decide +kernel) rfl
theorem hw_55 : (Cond.selects "ShadeNamesModel" ⟨"ShadeNamesModel", "tellParts", "(I)I"⟩ ⟨"ShadeNamesModel", "tellParts", "(I)I"⟩) ∈ xTB := xTB_of 55 (by decide +kernel) rfl
theorem hw_56 : (Cond.selects "ShadeNamesModel" ⟨"ShadeNamesModel", "countOf", "(I)I"⟩ ⟨"ShadeNamesModel", "countOf", "(I)I"⟩) ∈ xTB := xTB_of 56 (by decide +kernel) rfl
theorem hw_57 : (Cond.selects "ShadeNamesModel" ⟨"ShadeNamesModel", "sumOf", "(I)I"⟩ ⟨"ShadeNamesModel", "sumOf", "(I)I"⟩) ∈ xTB := xTB_of 57 (by decide +kernel) rfl
theorem hw_58 : (Cond.selects "ShadeNamesModel" ⟨"ShadeNamesModel", "kindMany", "(I)I"⟩ ⟨"ShadeNamesModel", "kindMany", "(I)I"⟩) ∈ xTB := xTB_of 58 (by decide +kernel) rfl
theorem hw_59 : (Cond.selects "ShadeNamesModel" ⟨"ShadeNamesModel", "thereOf", "(I)I"⟩ ⟨"ShadeNamesModel", "thereOf", "(I)I"⟩) ∈ xTB := xTB_of 59 (by decide +kernel) rfl
theorem hw_61 : (Jvm.Cond.initialized "ShadeNames") ∈ xTB := xTB_of 61 (by decide +kernel) rfl
theorem hw_62 : (Jvm.Cond.initialized "ShadeNames$Row") ∈ xTB := xTB_of 62 (by decide +kernel) rfl
theorem hw_63 : (Jvm.Cond.initialized "ShadeNames$Text") ∈ xTB := xTB_of 63 (by decide +kernel) rfl
theorem hw_64 : (Jvm.Cond.initialized "ShadeNames$Registry") ∈ xTB := xTB_of 64 (by decide +kernel) rfl
theorem hw_65 : (Jvm.Cond.initialized "ShadeNames$Name") ∈ xTB := xTB_of 65 (by decide +kernel) rfl
theorem hw_66 : (Jvm.Cond.initialized "ShadeNames$Cover") ∈ xTB := xTB_of 66 (by decide +kernel) rfl
theorem hw_67 : (Jvm.Cond.initialized "ShadeNames$Palette") ∈ xTB := xTB_of 67 (by decide +kernel) rfl
theorem hw_68 : (Jvm.Cond.initialized "ShadeNamesModel") ∈ xTB := xTB_of 68 (by decide +kernel) rfl
theorem hw_69 : (Jvm.Cond.initialized "java/lang/System") ∈ xTB := xTB_of 69 (by decide +kernel) rfl
theorem hw_70 : (Jvm.Cond.initialized "ShadeNames$Kind") ∈ xTB := xTB_of 70 (by decide +kernel) rfl
theorem hw_71 : (Jvm.Cond.initialized "java/lang/String") ∈ xTB := xTB_of 71 (by decide +kernel) rfl
theorem hw_72 : (Jvm.Cond.initialized "java/lang/StringLatin1") ∈ xTB := xTB_of 72 (by decide +kernel) rfl
theorem hw_73 : (Jvm.Cond.initialized "jdk/internal/util/Preconditions") ∈ xTB := xTB_of 73 (by decide +kernel) rfl
theorem hw_75 : (Jvm.Cond.initialized "ShadeNames$Shade") ∈ xTB := xTB_of 75 (by decide +kernel) rfl
theorem hw_76 : (Jvm.Cond.initialized "java/lang/Math") ∈ xTB := xTB_of 76 (by decide +kernel) rfl
theorem hw_77 : (Jvm.Cond.initialized "java/lang/Integer") ∈ xTB := xTB_of 77 (by decide +kernel) rfl
theorem hw_78 : (Jvm.Cond.classLink "ShadeNamesLaw" (7 : Nat) "ShadeNames") ∈ xTB := xTB_of 78 (by decide +kernel) rfl
theorem hw_79 : (Jvm.Cond.instantiable "ShadeNames" (13 : Nat)) ∈ xTB := xTB_of 79 (by decide +kernel) rfl
theorem hw_80 : (Jvm.Cond.methodLink "ShadeNamesLaw" (9 : Nat) ({ cls := "ShadeNames", name := "<init>", desc := "()V" } : Jvm.MethodName)) ∈ xTB := xTB_of 80 (by decide +kernel) rfl
theorem hw_81 : (Jvm.Cond.instanceMethod ({ cls := "ShadeNames", name := "<init>", desc := "()V" } : Jvm.MethodName)) ∈ xTB := xTB_of 81 (by decide +kernel) rfl
theorem hw_82 : (Jvm.Cond.code ({ cls := "ShadeNames", name := "<init>", desc := "()V" } : Jvm.MethodName) prog_1_method_1_code (2 : Nat) (Option.none : Option Jvm.ClassFile.FieldType)) ∈ xTB := xTB_of 82 (by decide +kernel) rfl
theorem hw_83 : (Jvm.Cond.methodLink "ShadeNames" (1 : Nat) ({ cls := "java/lang/Object", name := "<init>", desc := "()V" } : Jvm.MethodName)) ∈ xTB := xTB_of 83 (by decide +kernel) rfl
theorem hw_84 : (Jvm.Cond.instanceMethod ({ cls := "java/lang/Object", name := "<init>", desc := "()V" } : Jvm.MethodName)) ∈ xTB := xTB_of 84 (by decide +kernel) rfl
theorem hw_85 : (Jvm.Cond.code ({ cls := "java/lang/Object", name := "<init>", desc := "()V" } : Jvm.MethodName) object_method_1_code (1 : Nat) (Option.none : Option Jvm.ClassFile.FieldType)) ∈ xTB := xTB_of 85 (by decide +kernel) rfl
theorem hw_86 : (Jvm.Cond.classLink "ShadeNames" (9 : Nat) "ShadeNames$Row") ∈ xTB := xTB_of 86 (by decide +kernel) rfl
theorem hw_88 : (Jvm.Cond.instantiable "ShadeNames$Row" (2 : Nat)) ∈ xTB := xTB_of 88 (by decide +kernel) rfl
theorem hw_89 : (Jvm.Cond.methodLink "ShadeNames" (15 : Nat) ({ cls := "ShadeNames$Row", name := "<init>", desc := "()V" } : Jvm.MethodName)) ∈ xTB := xTB_of 89 (by decide +kernel) rfl
theorem hw_90 : (Jvm.Cond.instanceMethod ({ cls := "ShadeNames$Row", name := "<init>", desc := "()V" } : Jvm.MethodName)) ∈ xTB := xTB_of 90 (by decide +kernel) rfl
theorem hw_91 : (Jvm.Cond.code ({ cls := "ShadeNames$Row", name := "<init>", desc := "()V" } : Jvm.MethodName) prog_7_method_1_code (1 : Nat) (Option.none : Option Jvm.ClassFile.FieldType)) ∈ xTB := xTB_of 91 (by decide +kernel) rfl
theorem hw_92 : (Jvm.Cond.methodLink "ShadeNames$Row" (1 : Nat) ({ cls := "java/lang/Object", name := "<init>", desc := "()V" } : Jvm.MethodName)) ∈ xTB := xTB_of 92 (by decide +kernel) rfl
theorem hw_93 : (Jvm.Cond.fieldLink "ShadeNames$Row" (9 : Nat) "ShadeNames$Row" "places" "[I") ∈ xTB := xTB_of 93 (by decide +kernel) rfl
theorem hw_94 : (Jvm.Cond.fieldLink "ShadeNames$Palette" (21 : Nat) "ShadeNames$Row" "places" "[I") ∈ xTB := xTB_of 94 (by decide +kernel) rfl
theorem hw_95 : (Jvm.Cond.fieldLink "ShadeNames$Cover" (25 : Nat) "ShadeNames$Row" "places" "[I") ∈ xTB := xTB_of 95 (by decide +kernel) rfl
theorem hw_96 : (Jvm.Cond.fieldLink "ShadeNames" (81 : Nat) "ShadeNames$Row" "places" "[I") ∈ xTB := xTB_of 96 (by decide +kernel) rfl
theorem hw_97 : (Jvm.Cond.fieldLink "ShadeNames$Row" (13 : Nat) "ShadeNames$Row" "size" "I") ∈ xTB := xTB_of 97 (by decide +kernel) rfl
theorem hw_98 : (Jvm.Cond.fieldLink "ShadeNames$Palette" (15 : Nat) "ShadeNames$Row" "size" "I") ∈ xTB := xTB_of 98 (by decide +kernel) rfl
theorem hw_99 : (Jvm.Cond.fieldLink "ShadeNames$Cover" (17 : Nat) "ShadeNames$Row" "size" "I") ∈ xTB := xTB_of 99 (by decide +kernel) rfl
theorem hw_100 : (Jvm.Cond.fieldLink "ShadeNames" (107 : Nat) "ShadeNames$Row" "size" "I") ∈ xTB := xTB_of 100 (by decide +kernel) rfl
theorem hw_106 : (Jvm.Cond.arrayClass Jvm.ClassFile.FieldType.int) ∈ xTB := xTB_of 106 (by decide +kernel) rfl
theorem hw_107 : (Jvm.Cond.classLink "ShadeNames" (16 : Nat) "ShadeNames$Text") ∈ xTB := xTB_of 107 (by decide +kernel) rfl
theorem hw_109 : (Jvm.Cond.instantiable "ShadeNames$Text" (2 : Nat)) ∈ xTB := xTB_of 109 (by decide +kernel) rfl
theorem hw_110 : (Jvm.Cond.methodLink "ShadeNames" (22 : Nat) ({ cls := "ShadeNames$Text", name := "<init>", desc := "()V" } : Jvm.MethodName)) ∈ xTB := xTB_of 110 (by decide +kernel) rfl
theorem hw_111 : (Jvm.Cond.instanceMethod ({ cls := "ShadeNames$Text", name := "<init>", desc := "()V" } : Jvm.MethodName)) ∈ xTB := xTB_of 111 (by decide +kernel) rfl
theorem hw_112 : (Jvm.Cond.code ({ cls := "ShadeNames$Text", name := "<init>", desc := "()V" } : Jvm.MethodName) prog_9_method_1_code (1 : Nat) (Option.none : Option Jvm.ClassFile.FieldType)) ∈ xTB := xTB_of 112 (by decide +kernel) rfl
theorem hw_113 : (Jvm.Cond.methodLink "ShadeNames$Text" (3 : Nat) ({ cls := "java/lang/Object", name := "<init>", desc := "()V" } : Jvm.MethodName)) ∈ xTB := xTB_of 113 (by decide +kernel) rfl
theorem hw_114 : (Jvm.Cond.fieldLink "ShadeNames$Text" (11 : Nat) "ShadeNames$Text" "signs" "[B") ∈ xTB := xTB_of 114 (by decide +kernel) rfl
theorem hw_115 : (Jvm.Cond.fieldLink "ShadeNames" (119 : Nat) "ShadeNames$Text" "signs" "[B") ∈ xTB := xTB_of 115 (by decide +kernel) rfl
theorem hw_116 : (Jvm.Cond.fieldLink "ShadeNames$Text" (15 : Nat) "ShadeNames$Text" "size" "I") ∈ xTB := xTB_of 116 (by decide +kernel) rfl
theorem hw_117 : (Jvm.Cond.fieldLink "ShadeNames" (118 : Nat) "ShadeNames$Text" "size" "I") ∈ xTB := xTB_of 117 (by decide +kernel) rfl
theorem hw_123 : (Jvm.Cond.arrayClass Jvm.ClassFile.FieldType.byte) ∈ xTB := xTB_of 123 (by decide +kernel) rfl
theorem hw_124 : (Jvm.Cond.classLink "ShadeNames" (23 : Nat) "ShadeNames$Registry") ∈ xTB := xTB_of 124 (by decide +kernel) rfl
theorem hw_125 : (Jvm.Cond.instantiable "ShadeNames$Registry" (5 : Nat)) ∈ xTB := xTB_of 125 (by decide +kernel) rfl
theorem hw_126 : (Jvm.Cond.methodLink "ShadeNames" (25 : Nat) ({ cls := "ShadeNames$Registry", name := "<init>", desc := "()V" } : Jvm.MethodName)) ∈ xTB := xTB_of 126 (by decide +kernel) rfl
theorem hw_127 : (Jvm.Cond.instanceMethod ({ cls := "ShadeNames$Registry", name := "<init>", desc := "()V" } : Jvm.MethodName)) ∈ xTB := xTB_of 127 (by decide +kernel) rfl
theorem hw_128 : (Jvm.Cond.code ({ cls := "ShadeNames$Registry", name := "<init>", desc := "()V" } : Jvm.MethodName) prog_6_method_1_code (2 : Nat) (Option.none : Option Jvm.ClassFile.FieldType)) ∈ xTB := xTB_of 128 (by decide +kernel) rfl
theorem hw_129 : (Jvm.Cond.methodLink "ShadeNames$Registry" (3 : Nat) ({ cls := "java/lang/Object", name := "<init>", desc := "()V" } : Jvm.MethodName)) ∈ xTB := xTB_of 129 (by decide +kernel) rfl
theorem hw_130 : (Jvm.Cond.classLink "ShadeNames$Registry" (11 : Nat) "ShadeNames$Name") ∈ xTB := xTB_of 130 (by decide +kernel) rfl
theorem hw_132 : (Jvm.Cond.instantiable "ShadeNames$Name" (6 : Nat)) ∈ xTB := xTB_of 132 (by decide +kernel) rfl
theorem hw_134 : (Jvm.Cond.instanceMethod ({ cls := "ShadeNames$Name", name := "<init>", desc := "()V" } : Jvm.MethodName)) ∈ xTB := xTB_of 134 (by decide +kernel) rfl
theorem hw_135 : (Jvm.Cond.code ({ cls := "ShadeNames$Name", name := "<init>", desc := "()V" } : Jvm.MethodName) prog_4_method_1_code (1 : Nat) (Option.none : Option Jvm.ClassFile.FieldType)) ∈ xTB := xTB_of 135 (by decide +kernel) rfl
theorem hw_136 : (Jvm.Cond.methodLink "ShadeNames$Name" (1 : Nat) ({ cls := "java/lang/Object", name := "<init>", desc := "()V" } : Jvm.MethodName)) ∈ xTB := xTB_of 136 (by decide +kernel) rfl
theorem hw_137 : (Jvm.Cond.fieldLink "ShadeNames$Name" (7 : Nat) "ShadeNames$Name" "kind" "I") ∈ xTB := xTB_of 137 (by decide +kernel) rfl
theorem hw_138 : (Jvm.Cond.fieldLink "ShadeNames$Registry" (40 : Nat) "ShadeNames$Name" "kind" "I") ∈ xTB := xTB_of 138 (by decide +kernel) rfl
theorem hw_139 : (Jvm.Cond.fieldLink "ShadeNames$Text" (53 : Nat) "ShadeNames$Name" "kind" "I") ∈ xTB := xTB_of 139 (by decide +kernel) rfl
theorem hw_140 : (Jvm.Cond.fieldLink "ShadeNames" (143 : Nat) "ShadeNames$Name" "kind" "I") ∈ xTB := xTB_of 140 (by decide +kernel) rfl
theorem hw_141 : (Jvm.Cond.fieldLink "ShadeNames$Name" (18 : Nat) "ShadeNames$Name" "origin" "I") ∈ xTB := xTB_of 141 (by decide +kernel) rfl
theorem hw_142 : (Jvm.Cond.fieldLink "ShadeNames$Registry" (43 : Nat) "ShadeNames$Name" "origin" "I") ∈ xTB := xTB_of 142 (by decide +kernel) rfl
theorem hw_143 : (Jvm.Cond.fieldLink "ShadeNames$Text" (67 : Nat) "ShadeNames$Name" "origin" "I") ∈ xTB := xTB_of 143 (by decide +kernel) rfl
theorem hw_144 : (Jvm.Cond.fieldLink "ShadeNames$Name" (21 : Nat) "ShadeNames$Name" "range" "I") ∈ xTB := xTB_of 144 (by decide +kernel) rfl
theorem hw_145 : (Jvm.Cond.fieldLink "ShadeNames$Registry" (46 : Nat) "ShadeNames$Name" "range" "I") ∈ xTB := xTB_of 145 (by decide +kernel) rfl
theorem hw_146 : (Jvm.Cond.fieldLink "ShadeNames$Text" (70 : Nat) "ShadeNames$Name" "range" "I") ∈ xTB := xTB_of 146 (by decide +kernel) rfl
theorem hw_147 : (Jvm.Cond.fieldLink "ShadeNames" (268 : Nat) "ShadeNames$Name" "range" "I") ∈ xTB := xTB_of 147 (by decide +kernel) rfl
theorem hw_148 : (Jvm.Cond.fieldLink "ShadeNames$Name" (24 : Nat) "ShadeNames$Name" "owner" "I") ∈ xTB := xTB_of 148 (by decide +kernel) rfl
theorem hw_149 : (Jvm.Cond.fieldLink "ShadeNames$Registry" (49 : Nat) "ShadeNames$Name" "owner" "I") ∈ xTB := xTB_of 149 (by decide +kernel) rfl
theorem hw_150 : (Jvm.Cond.fieldLink "ShadeNames$Text" (73 : Nat) "ShadeNames$Name" "owner" "I") ∈ xTB := xTB_of 150 (by decide +kernel) rfl
theorem hw_151 : (Jvm.Cond.fieldLink "ShadeNames" (262 : Nat) "ShadeNames$Name" "owner" "I") ∈ xTB := xTB_of 151 (by decide +kernel) rfl
theorem hw_152 : (Jvm.Cond.fieldLink "ShadeNames$Name" (15 : Nat) "ShadeNames$Name" "dues" "I") ∈ xTB := xTB_of 152 (by decide +kernel) rfl
theorem hw_153 : (Jvm.Cond.fieldLink "ShadeNames$Registry" (52 : Nat) "ShadeNames$Name" "dues" "I") ∈ xTB := xTB_of 153 (by decide +kernel) rfl
theorem hw_154 : (Jvm.Cond.fieldLink "ShadeNames$Text" (76 : Nat) "ShadeNames$Name" "dues" "I") ∈ xTB := xTB_of 154 (by decide +kernel) rfl
theorem hw_155 : (Jvm.Cond.fieldLink "ShadeNames" (166 : Nat) "ShadeNames$Name" "dues" "I") ∈ xTB := xTB_of 155 (by decide +kernel) rfl
theorem hw_156 : (Jvm.Cond.fieldLink "ShadeNames$Name" (27 : Nat) "ShadeNames$Name" "fades" "Z") ∈ xTB := xTB_of 156 (by decide +kernel) rfl
theorem hw_157 : (Jvm.Cond.fieldLink "ShadeNames$Registry" (55 : Nat) "ShadeNames$Name" "fades" "Z") ∈ xTB := xTB_of 157 (by decide +kernel) rfl
theorem hw_158 : (Jvm.Cond.fieldLink "ShadeNames$Text" (79 : Nat) "ShadeNames$Name" "fades" "Z") ∈ xTB := xTB_of 158 (by decide +kernel) rfl
theorem hw_159 : (Jvm.Cond.fieldLink "ShadeNames" (326 : Nat) "ShadeNames$Name" "fades" "Z") ∈ xTB := xTB_of 159 (by decide +kernel) rfl
theorem hw_173 : (Jvm.Cond.fieldLink "ShadeNames$Registry" (13 : Nat) "ShadeNames$Registry" "all" "[LShadeNames$Name;") ∈ xTB := xTB_of 173 (by decide +kernel) rfl
theorem hw_174 : (Jvm.Cond.fieldLink "ShadeNames" (139 : Nat) "ShadeNames$Registry" "all" "[LShadeNames$Name;") ∈ xTB := xTB_of 174 (by decide +kernel) rfl
theorem hw_175 : (Jvm.Cond.fieldLink "ShadeNames$Registry" (22 : Nat) "ShadeNames$Registry" "size" "I") ∈ xTB := xTB_of 175 (by decide +kernel) rfl
theorem hw_176 : (Jvm.Cond.fieldLink "ShadeNames$Text" (44 : Nat) "ShadeNames$Registry" "size" "I") ∈ xTB := xTB_of 176 (by decide +kernel) rfl
theorem hw_177 : (Jvm.Cond.fieldLink "ShadeNames" (133 : Nat) "ShadeNames$Registry" "size" "I") ∈ xTB := xTB_of 177 (by decide +kernel) rfl
theorem hw_178 : (Jvm.Cond.fieldLink "ShadeNames$Registry" (18 : Nat) "ShadeNames$Registry" "wasSaying" "[Z") ∈ xTB := xTB_of 178 (by decide +kernel) rfl
theorem hw_179 : (Jvm.Cond.fieldLink "ShadeNames$Registry" (26 : Nat) "ShadeNames$Registry" "deeds" "I") ∈ xTB := xTB_of 179 (by decide +kernel) rfl
theorem hw_180 : (Jvm.Cond.fieldLink "ShadeNames" (172 : Nat) "ShadeNames$Registry" "deeds" "I") ∈ xTB := xTB_of 180 (by decide +kernel) rfl
theorem hw_181 : (Jvm.Cond.fieldLink "ShadeNames$Registry" (29 : Nat) "ShadeNames$Registry" "years" "I") ∈ xTB := xTB_of 181 (by decide +kernel) rfl
theorem hw_193 : (Jvm.Cond.arrayClass Jvm.ClassFile.FieldType.boolean) ∈ xTB := xTB_of 193 (by decide +kernel) rfl
theorem hw_195 : (Jvm.Cond.classLink "ShadeNames" (34 : Nat) "ShadeNames$Cover") ∈ xTB := xTB_of 195 (by decide +kernel) rfl
theorem hw_196 : (Jvm.Cond.instantiable "ShadeNames$Cover" (2 : Nat)) ∈ xTB := xTB_of 196 (by decide +kernel) rfl
theorem hw_197 : (Jvm.Cond.methodLink "ShadeNames" (36 : Nat) ({ cls := "ShadeNames$Cover", name := "<init>", desc := "()V" } : Jvm.MethodName)) ∈ xTB := xTB_of 197 (by decide +kernel) rfl
theorem hw_198 : (Jvm.Cond.instanceMethod ({ cls := "ShadeNames$Cover", name := "<init>", desc := "()V" } : Jvm.MethodName)) ∈ xTB := xTB_of 198 (by decide +kernel) rfl
theorem hw_199 : (Jvm.Cond.code ({ cls := "ShadeNames$Cover", name := "<init>", desc := "()V" } : Jvm.MethodName) prog_2_method_1_code (1 : Nat) (Option.none : Option Jvm.ClassFile.FieldType)) ∈ xTB := xTB_of 199 (by decide +kernel) rfl
theorem hw_200 : (Jvm.Cond.methodLink "ShadeNames$Cover" (1 : Nat) ({ cls := "java/lang/Object", name := "<init>", desc := "()V" } : Jvm.MethodName)) ∈ xTB := xTB_of 200 (by decide +kernel) rfl
theorem hw_201 : (Jvm.Cond.fieldLink "ShadeNames$Cover" (9 : Nat) "ShadeNames$Cover" "canBeReached" "[Z") ∈ xTB := xTB_of 201 (by decide +kernel) rfl
theorem hw_202 : (Jvm.Cond.fieldLink "ShadeNames$Cover" (13 : Nat) "ShadeNames$Cover" "fewestFor" "[I") ∈ xTB := xTB_of 202 (by decide +kernel) rfl
theorem hw_208 : (Jvm.Cond.classLink "ShadeNames" (41 : Nat) "ShadeNames$Palette") ∈ xTB := xTB_of 208 (by decide +kernel) rfl
theorem hw_209 : (Jvm.Cond.instantiable "ShadeNames$Palette" (2 : Nat)) ∈ xTB := xTB_of 209 (by decide +kernel) rfl
theorem hw_210 : (Jvm.Cond.methodLink "ShadeNames" (43 : Nat) ({ cls := "ShadeNames$Palette", name := "<init>", desc := "()V" } : Jvm.MethodName)) ∈ xTB := xTB_of 210 (by decide +kernel) rfl
theorem hw_211 : (Jvm.Cond.instanceMethod ({ cls := "ShadeNames$Palette", name := "<init>", desc := "()V" } : Jvm.MethodName)) ∈ xTB := xTB_of 211 (by decide +kernel) rfl
theorem hw_212 : (Jvm.Cond.code ({ cls := "ShadeNames$Palette", name := "<init>", desc := "()V" } : Jvm.MethodName) prog_5_method_1_code (1 : Nat) (Option.none : Option Jvm.ClassFile.FieldType)) ∈ xTB := xTB_of 212 (by decide +kernel) rfl
theorem hw_213 : (Jvm.Cond.methodLink "ShadeNames$Palette" (3 : Nat) ({ cls := "java/lang/Object", name := "<init>", desc := "()V" } : Jvm.MethodName)) ∈ xTB := xTB_of 213 (by decide +kernel) rfl
theorem hw_214 : (Jvm.Cond.fieldLink "ShadeNames$Palette" (11 : Nat) "ShadeNames$Palette" "there" "[I") ∈ xTB := xTB_of 214 (by decide +kernel) rfl
theorem hw_215 : (Jvm.Cond.fieldLink "ShadeNames$Palette" (28 : Nat) "ShadeNames$Palette" "least" "I") ∈ xTB := xTB_of 215 (by decide +kernel) rfl
theorem hw_216 : (Jvm.Cond.fieldLink "ShadeNames" (232 : Nat) "ShadeNames$Palette" "least" "I") ∈ xTB := xTB_of 216 (by decide +kernel) rfl
theorem hw_222 : (Jvm.Cond.fieldLink "ShadeNames" (11 : Nat) "ShadeNames" "rows" "[LShadeNames$Row;") ∈ xTB := xTB_of 222 (by decide +kernel) rfl
theorem hw_223 : (Jvm.Cond.fieldLink "ShadeNames" (18 : Nat) "ShadeNames" "texts" "[LShadeNames$Text;") ∈ xTB := xTB_of 223 (by decide +kernel) rfl
theorem hw_224 : (Jvm.Cond.fieldLink "ShadeNames" (26 : Nat) "ShadeNames" "names" "LShadeNames$Registry;") ∈ xTB := xTB_of 224 (by decide +kernel) rfl
theorem hw_225 : (Jvm.Cond.fieldLink "ShadeNames" (30 : Nat) "ShadeNames" "kept" "[LShadeNames$Registry;") ∈ xTB := xTB_of 225 (by decide +kernel) rfl
theorem hw_226 : (Jvm.Cond.fieldLink "ShadeNames" (37 : Nat) "ShadeNames" "covering" "LShadeNames$Cover;") ∈ xTB := xTB_of 226 (by decide +kernel) rfl
theorem hw_227 : (Jvm.Cond.fieldLink "ShadeNames" (44 : Nat) "ShadeNames" "palette" "LShadeNames$Palette;") ∈ xTB := xTB_of 227 (by decide +kernel) rfl
theorem hw_228 : (Jvm.Cond.fieldLink "ShadeNames" (50 : Nat) "ShadeNames" "open" "[Z") ∈ xTB := xTB_of 228 (by decide +kernel) rfl
theorem hw_229 : (Jvm.Cond.fieldLink "ShadeNames" (54 : Nat) "ShadeNames" "chosen" "[Z") ∈ xTB := xTB_of 229 (by decide +kernel) rfl
theorem hw_230 : (Jvm.Cond.fieldLink "ShadeNames" (57 : Nat) "ShadeNames" "found" "[I") ∈ xTB := xTB_of 230 (by decide +kernel) rfl
theorem hw_231 : (Jvm.Cond.fieldLink "ShadeNames" (307 : Nat) "ShadeNames" "latestFinding" "I") ∈ xTB := xTB_of 231 (by decide +kernel) rfl
theorem hw_232 : (Jvm.Cond.fieldLink "ShadeNames" (84 : Nat) "ShadeNames" "told" "I") ∈ xTB := xTB_of 232 (by decide +kernel) rfl
theorem hw_233 : (Jvm.Cond.fieldLink "ShadeNames" (286 : Nat) "ShadeNames" "chanceUpper" "J") ∈ xTB := xTB_of 233 (by decide +kernel) rfl
theorem hw_234 : (Jvm.Cond.fieldLink "ShadeNames" (61 : Nat) "ShadeNames" "chanceLower" "J") ∈ xTB := xTB_of 234 (by decide +kernel) rfl
theorem hw_262 : (Jvm.Cond.methodLink "ShadeNamesLaw" (13 : Nat) ({ cls := "ShadeNames", name := "row", desc := "(II)I" } : Jvm.MethodName)) ∈ xTB := xTB_of 262 (by decide +kernel) rfl
theorem hw_263 : (Jvm.Cond.instanceMethod ({ cls := "ShadeNames", name := "row", desc := "(II)I" } : Jvm.MethodName)) ∈ xTB := xTB_of 263 (by decide +kernel) rfl
theorem hw_264 : (Jvm.Cond.selects "ShadeNames" ({ cls := "ShadeNames", name := "row", desc := "(II)I" } : Jvm.MethodName) ({ cls := "ShadeNames", name := "row", desc := "(II)I" } : Jvm.MethodName)) ∈ xTB := xTB_of 264 (by decide +kernel) rfl
theorem hw_265 : (Jvm.Cond.code ({ cls := "ShadeNames", name := "row", desc := "(II)I" } : Jvm.MethodName) prog_1_method_2_code (3 : Nat) (Option.some Jvm.ClassFile.FieldType.int)) ∈ xTB := xTB_of 265 (by decide +kernel) rfl
theorem hw_266 : (Jvm.Cond.methodLink "ShadeNames" (65 : Nat) ({ cls := "ShadeNames", name := "among", desc := "(II)Z" } : Jvm.MethodName)) ∈ xTB := xTB_of 266 (by decide +kernel) rfl
theorem hw_267 : (Jvm.Cond.static ({ cls := "ShadeNames", name := "among", desc := "(II)Z" } : Jvm.MethodName)) ∈ xTB := xTB_of 267 (by decide +kernel) rfl
theorem hw_268 : (Jvm.Cond.code ({ cls := "ShadeNames", name := "among", desc := "(II)Z" } : Jvm.MethodName) prog_1_method_48_code (2 : Nat) (Option.some Jvm.ClassFile.FieldType.boolean)) ∈ xTB := xTB_of 268 (by decide +kernel) rfl
theorem hw_269 : (Jvm.Cond.methodLink "ShadeNames" (69 : Nat) ({ cls := "ShadeNames", name := "findingOf", desc := "(I)I" } : Jvm.MethodName)) ∈ xTB := xTB_of 269 (by decide +kernel) rfl
theorem hw_271 : (Jvm.Cond.instanceMethod ({ cls := "ShadeNames", name := "findingOf", desc := "(I)I" } : Jvm.MethodName)) ∈ xTB := xTB_of 271 (by decide +kernel) rfl
theorem hw_272 : (Jvm.Cond.code ({ cls := "ShadeNames", name := "findingOf", desc := "(I)I" } : Jvm.MethodName) prog_1_method_49_code (2 : Nat) (Option.some Jvm.ClassFile.FieldType.int)) ∈ xTB := xTB_of 272 (by decide +kernel) rfl
theorem hw_273 : (Jvm.Cond.methodLink "ShadeNames" (73 : Nat) ({ cls := "ShadeNames$Row", name := "begin", desc := "(I)V" } : Jvm.MethodName)) ∈ xTB := xTB_of 273 (by decide +kernel) rfl
theorem hw_274 : (Jvm.Cond.instanceMethod ({ cls := "ShadeNames$Row", name := "begin", desc := "(I)V" } : Jvm.MethodName)) ∈ xTB := xTB_of 274 (by decide +kernel) rfl
theorem hw_275 : (Jvm.Cond.selects "ShadeNames$Row" ({ cls := "ShadeNames$Row", name := "begin", desc := "(I)V" } : Jvm.MethodName) ({ cls := "ShadeNames$Row", name := "begin", desc := "(I)V" } : Jvm.MethodName)) ∈ xTB := xTB_of 275 (by decide +kernel) rfl
theorem hw_276 : (Jvm.Cond.code ({ cls := "ShadeNames$Row", name := "begin", desc := "(I)V" } : Jvm.MethodName) prog_7_method_2_code (3 : Nat) (Option.none : Option Jvm.ClassFile.FieldType)) ∈ xTB := xTB_of 276 (by decide +kernel) rfl
theorem hw_277 : (Jvm.Cond.methodLink "ShadeNamesLaw" (18 : Nat) ({ cls := "ShadeNames", name := "lay", desc := "(III)I" } : Jvm.MethodName)) ∈ xTB := xTB_of 277 (by decide +kernel) rfl
theorem hw_278 : (Jvm.Cond.instanceMethod ({ cls := "ShadeNames", name := "lay", desc := "(III)I" } : Jvm.MethodName)) ∈ xTB := xTB_of 278 (by decide +kernel) rfl
theorem hw_279 : (Jvm.Cond.selects "ShadeNames" ({ cls := "ShadeNames", name := "lay", desc := "(III)I" } : Jvm.MethodName) ({ cls := "ShadeNames", name := "lay", desc := "(III)I" } : Jvm.MethodName)) ∈ xTB := xTB_of 279 (by decide +kernel) rfl
theorem hw_280 : (Jvm.Cond.code ({ cls := "ShadeNames", name := "lay", desc := "(III)I" } : Jvm.MethodName) prog_1_method_3_code (5 : Nat) (Option.some Jvm.ClassFile.FieldType.int)) ∈ xTB := xTB_of 280 (by decide +kernel) rfl
theorem hw_281 : (Jvm.Cond.methodLink "ShadeNames" (77 : Nat) ({ cls := "ShadeNames", name := "refusalOfPlace", desc := "(II)I" } : Jvm.MethodName)) ∈ xTB := xTB_of 281 (by decide +kernel) rfl
theorem hw_283 : (Jvm.Cond.instanceMethod ({ cls := "ShadeNames", name := "refusalOfPlace", desc := "(II)I" } : Jvm.MethodName)) ∈ xTB := xTB_of 283 (by decide +kernel) rfl
theorem hw_284 : (Jvm.Cond.code ({ cls := "ShadeNames", name := "refusalOfPlace", desc := "(II)I" } : Jvm.MethodName) prog_1_method_51_code (4 : Nat) (Option.some Jvm.ClassFile.FieldType.int)) ∈ xTB := xTB_of 284 (by decide +kernel) rfl
theorem hw_285 : (Jvm.Cond.methodLink "ShadeNames" (88 : Nat) ({ cls := "ShadeNames", name := "refusalOfRow", desc := "(I)I" } : Jvm.MethodName)) ∈ xTB := xTB_of 285 (by decide +kernel) rfl
theorem hw_287 : (Jvm.Cond.instanceMethod ({ cls := "ShadeNames", name := "refusalOfRow", desc := "(I)I" } : Jvm.MethodName)) ∈ xTB := xTB_of 287 (by decide +kernel) rfl
theorem hw_288 : (Jvm.Cond.code ({ cls := "ShadeNames", name := "refusalOfRow", desc := "(I)I" } : Jvm.MethodName) prog_1_method_50_code (2 : Nat) (Option.some Jvm.ClassFile.FieldType.int)) ∈ xTB := xTB_of 288 (by decide +kernel) rfl
theorem hw_289 : (Jvm.Cond.methodLink "ShadeNames" (94 : Nat) ({ cls := "ShadeNames$Row", name := "isThere", desc := "()Z" } : Jvm.MethodName)) ∈ xTB := xTB_of 289 (by decide +kernel) rfl
theorem hw_290 : (Jvm.Cond.instanceMethod ({ cls := "ShadeNames$Row", name := "isThere", desc := "()Z" } : Jvm.MethodName)) ∈ xTB := xTB_of 290 (by decide +kernel) rfl
theorem hw_291 : (Jvm.Cond.selects "ShadeNames$Row" ({ cls := "ShadeNames$Row", name := "isThere", desc := "()Z" } : Jvm.MethodName) ({ cls := "ShadeNames$Row", name := "isThere", desc := "()Z" } : Jvm.MethodName)) ∈ xTB := xTB_of 291 (by decide +kernel) rfl
theorem hw_292 : (Jvm.Cond.code ({ cls := "ShadeNames$Row", name := "isThere", desc := "()Z" } : Jvm.MethodName) prog_7_method_4_code (1 : Nat) (Option.some Jvm.ClassFile.FieldType.boolean)) ∈ xTB := xTB_of 292 (by decide +kernel) rfl
theorem hw_293 : (Jvm.Cond.methodLink "ShadeNamesLaw" (23 : Nat) ({ cls := "ShadeNames", name := "at", desc := "(II)I" } : Jvm.MethodName)) ∈ xTB := xTB_of 293 (by decide +kernel) rfl
theorem hw_294 : (Jvm.Cond.instanceMethod ({ cls := "ShadeNames", name := "at", desc := "(II)I" } : Jvm.MethodName)) ∈ xTB := xTB_of 294 (by decide +kernel) rfl
theorem hw_295 : (Jvm.Cond.selects "ShadeNames" ({ cls := "ShadeNames", name := "at", desc := "(II)I" } : Jvm.MethodName) ({ cls := "ShadeNames", name := "at", desc := "(II)I" } : Jvm.MethodName)) ∈ xTB := xTB_of 295 (by decide +kernel) rfl
theorem hw_296 : (Jvm.Cond.code ({ cls := "ShadeNames", name := "at", desc := "(II)I" } : Jvm.MethodName) prog_1_method_4_code (4 : Nat) (Option.some Jvm.ClassFile.FieldType.int)) ∈ xTB := xTB_of 296 (by decide +kernel) rfl
theorem hw_297 : (Jvm.Cond.methodLink "ShadeNamesLaw" (27 : Nat) ({ cls := "ShadeNames", name := "tear", desc := "(I)I" } : Jvm.MethodName)) ∈ xTB := xTB_of 297 (by decide +kernel) rfl
theorem hw_298 : (Jvm.Cond.instanceMethod ({ cls := "ShadeNames", name := "tear", desc := "(I)I" } : Jvm.MethodName)) ∈ xTB := xTB_of 298 (by decide +kernel) rfl
theorem hw_299 : (Jvm.Cond.selects "ShadeNames" ({ cls := "ShadeNames", name := "tear", desc := "(I)I" } : Jvm.MethodName) ({ cls := "ShadeNames", name := "tear", desc := "(I)I" } : Jvm.MethodName)) ∈ xTB := xTB_of 299 (by decide +kernel) rfl
theorem hw_300 : (Jvm.Cond.code ({ cls := "ShadeNames", name := "tear", desc := "(I)I" } : Jvm.MethodName) prog_1_method_5_code (3 : Nat) (Option.some Jvm.ClassFile.FieldType.int)) ∈ xTB := xTB_of 300 (by decide +kernel) rfl
theorem hw_301 : (Jvm.Cond.methodLink "ShadeNames" (91 : Nat) ({ cls := "ShadeNames$Row", name := "remove", desc := "()V" } : Jvm.MethodName)) ∈ xTB := xTB_of 301 (by decide +kernel) rfl
theorem hw_302 : (Jvm.Cond.instanceMethod ({ cls := "ShadeNames$Row", name := "remove", desc := "()V" } : Jvm.MethodName)) ∈ xTB := xTB_of 302 (by decide +kernel) rfl
theorem hw_303 : (Jvm.Cond.selects "ShadeNames$Row" ({ cls := "ShadeNames$Row", name := "remove", desc := "()V" } : Jvm.MethodName) ({ cls := "ShadeNames$Row", name := "remove", desc := "()V" } : Jvm.MethodName)) ∈ xTB := xTB_of 303 (by decide +kernel) rfl
theorem hw_304 : (Jvm.Cond.code ({ cls := "ShadeNames$Row", name := "remove", desc := "()V" } : Jvm.MethodName) prog_7_method_3_code (1 : Nat) (Option.none : Option Jvm.ClassFile.FieldType)) ∈ xTB := xTB_of 304 (by decide +kernel) rfl
theorem hw_305 : (Jvm.Cond.methodLink "ShadeNamesLaw" (32 : Nat) ({ cls := "ShadeNames", name := "copy", desc := "(IIIII)I" } : Jvm.MethodName)) ∈ xTB := xTB_of 305 (by decide +kernel) rfl
theorem hw_306 : (Jvm.Cond.instanceMethod ({ cls := "ShadeNames", name := "copy", desc := "(IIIII)I" } : Jvm.MethodName)) ∈ xTB := xTB_of 306 (by decide +kernel) rfl
theorem hw_307 : (Jvm.Cond.selects "ShadeNames" ({ cls := "ShadeNames", name := "copy", desc := "(IIIII)I" } : Jvm.MethodName) ({ cls := "ShadeNames", name := "copy", desc := "(IIIII)I" } : Jvm.MethodName)) ∈ xTB := xTB_of 307 (by decide +kernel) rfl
theorem hw_308 : (Jvm.Cond.code ({ cls := "ShadeNames", name := "copy", desc := "(IIIII)I" } : Jvm.MethodName) prog_1_method_6_code (6 : Nat) (Option.some Jvm.ClassFile.FieldType.int)) ∈ xTB := xTB_of 308 (by decide +kernel) rfl
theorem hw_309 : (Jvm.Cond.methodLink "ShadeNames" (98 : Nat) ({ cls := "ShadeNames$Row", name := "holds", desc := "(II)Z" } : Jvm.MethodName)) ∈ xTB := xTB_of 309 (by decide +kernel) rfl
theorem hw_310 : (Jvm.Cond.instanceMethod ({ cls := "ShadeNames$Row", name := "holds", desc := "(II)Z" } : Jvm.MethodName)) ∈ xTB := xTB_of 310 (by decide +kernel) rfl
theorem hw_311 : (Jvm.Cond.selects "ShadeNames$Row" ({ cls := "ShadeNames$Row", name := "holds", desc := "(II)Z" } : Jvm.MethodName) ({ cls := "ShadeNames$Row", name := "holds", desc := "(II)Z" } : Jvm.MethodName)) ∈ xTB := xTB_of 311 (by decide +kernel) rfl
theorem hw_312 : (Jvm.Cond.code ({ cls := "ShadeNames$Row", name := "holds", desc := "(II)Z" } : Jvm.MethodName) prog_7_method_5_code (3 : Nat) (Option.some Jvm.ClassFile.FieldType.boolean)) ∈ xTB := xTB_of 312 (by decide +kernel) rfl
theorem hw_313 : (Jvm.Cond.methodLink "ShadeNames" (101 : Nat) ({ cls := "java/lang/System", name := "arraycopy", desc := "(Ljava/lang/Object;ILjava/lang/Object;II)V" } : Jvm.MethodName)) ∈ xTB := xTB_of 313 (by decide +kernel) rfl
theorem hw_314 : (Jvm.Cond.static ({ cls := "java/lang/System", name := "arraycopy", desc := "(Ljava/lang/Object;ILjava/lang/Object;II)V" } : Jvm.MethodName)) ∈ xTB := xTB_of 314 (by decide +kernel) rfl
theorem hw_315 : (Jvm.Cond.native ({ cls := "java/lang/System", name := "arraycopy", desc := "(Ljava/lang/Object;ILjava/lang/Object;II)V" } : Jvm.MethodName)) ∈ xTB := xTB_of 315 (by decide +kernel) rfl
theorem hw_316 : (Jvm.Cond.methodLink "ShadeNamesLaw" (37 : Nat) ({ cls := "ShadeNames", name := "mean", desc := "(I)I" } : Jvm.MethodName)) ∈ xTB := xTB_of 316 (by decide +kernel) rfl
theorem hw_317 : (Jvm.Cond.instanceMethod ({ cls := "ShadeNames", name := "mean", desc := "(I)I" } : Jvm.MethodName)) ∈ xTB := xTB_of 317 (by decide +kernel) rfl
theorem hw_318 : (Jvm.Cond.selects "ShadeNames" ({ cls := "ShadeNames", name := "mean", desc := "(I)I" } : Jvm.MethodName) ({ cls := "ShadeNames", name := "mean", desc := "(I)I" } : Jvm.MethodName)) ∈ xTB := xTB_of 318 (by decide +kernel) rfl
theorem hw_319 : (Jvm.Cond.code ({ cls := "ShadeNames", name := "mean", desc := "(I)I" } : Jvm.MethodName) prog_1_method_7_code (4 : Nat) (Option.some Jvm.ClassFile.FieldType.int)) ∈ xTB := xTB_of 319 (by decide +kernel) rfl
theorem hw_320 : (Jvm.Cond.methodLink "ShadeNames" (110 : Nat) ({ cls := "ShadeNames$Row", name := "sum", desc := "()J" } : Jvm.MethodName)) ∈ xTB := xTB_of 320 (by decide +kernel) rfl
theorem hw_321 : (Jvm.Cond.instanceMethod ({ cls := "ShadeNames$Row", name := "sum", desc := "()J" } : Jvm.MethodName)) ∈ xTB := xTB_of 321 (by decide +kernel) rfl
theorem hw_322 : (Jvm.Cond.selects "ShadeNames$Row" ({ cls := "ShadeNames$Row", name := "sum", desc := "()J" } : Jvm.MethodName) ({ cls := "ShadeNames$Row", name := "sum", desc := "()J" } : Jvm.MethodName)) ∈ xTB := xTB_of 322 (by decide +kernel) rfl
theorem hw_323 : (Jvm.Cond.code ({ cls := "ShadeNames$Row", name := "sum", desc := "()J" } : Jvm.MethodName) prog_7_method_7_code (4 : Nat) (Option.some Jvm.ClassFile.FieldType.long)) ∈ xTB := xTB_of 323 (by decide +kernel) rfl
theorem hw_324 : (Jvm.Cond.methodLink "ShadeNamesLaw" (41 : Nat) ({ cls := "ShadeNames", name := "text", desc := "(II)I" } : Jvm.MethodName)) ∈ xTB := xTB_of 324 (by decide +kernel) rfl
theorem hw_325 : (Jvm.Cond.instanceMethod ({ cls := "ShadeNames", name := "text", desc := "(II)I" } : Jvm.MethodName)) ∈ xTB := xTB_of 325 (by decide +kernel) rfl
theorem hw_326 : (Jvm.Cond.selects "ShadeNames" ({ cls := "ShadeNames", name := "text", desc := "(II)I" } : Jvm.MethodName) ({ cls := "ShadeNames", name := "text", desc := "(II)I" } : Jvm.MethodName)) ∈ xTB := xTB_of 326 (by decide +kernel) rfl
theorem hw_327 : (Jvm.Cond.code ({ cls := "ShadeNames", name := "text", desc := "(II)I" } : Jvm.MethodName) prog_1_method_8_code (3 : Nat) (Option.some Jvm.ClassFile.FieldType.int)) ∈ xTB := xTB_of 327 (by decide +kernel) rfl
theorem hw_328 : (Jvm.Cond.methodLink "ShadeNames" (114 : Nat) ({ cls := "ShadeNames$Text", name := "begin", desc := "(I)V" } : Jvm.MethodName)) ∈ xTB := xTB_of 328 (by decide +kernel) rfl
theorem hw_329 : (Jvm.Cond.instanceMethod ({ cls := "ShadeNames$Text", name := "begin", desc := "(I)V" } : Jvm.MethodName)) ∈ xTB := xTB_of 329 (by decide +kernel) rfl
theorem hw_330 : (Jvm.Cond.selects "ShadeNames$Text" ({ cls := "ShadeNames$Text", name := "begin", desc := "(I)V" } : Jvm.MethodName) ({ cls := "ShadeNames$Text", name := "begin", desc := "(I)V" } : Jvm.MethodName)) ∈ xTB := xTB_of 330 (by decide +kernel) rfl
theorem hw_331 : (Jvm.Cond.code ({ cls := "ShadeNames$Text", name := "begin", desc := "(I)V" } : Jvm.MethodName) prog_9_method_2_code (3 : Nat) (Option.none : Option Jvm.ClassFile.FieldType)) ∈ xTB := xTB_of 331 (by decide +kernel) rfl
theorem hw_332 : (Jvm.Cond.methodLink "ShadeNamesLaw" (45 : Nat) ({ cls := "ShadeNames", name := "put", desc := "(III)I" } : Jvm.MethodName)) ∈ xTB := xTB_of 332 (by decide +kernel) rfl
theorem hw_333 : (Jvm.Cond.instanceMethod ({ cls := "ShadeNames", name := "put", desc := "(III)I" } : Jvm.MethodName)) ∈ xTB := xTB_of 333 (by decide +kernel) rfl
theorem hw_334 : (Jvm.Cond.selects "ShadeNames" ({ cls := "ShadeNames", name := "put", desc := "(III)I" } : Jvm.MethodName) ({ cls := "ShadeNames", name := "put", desc := "(III)I" } : Jvm.MethodName)) ∈ xTB := xTB_of 334 (by decide +kernel) rfl
theorem hw_335 : (Jvm.Cond.code ({ cls := "ShadeNames", name := "put", desc := "(III)I" } : Jvm.MethodName) prog_1_method_9_code (6 : Nat) (Option.some Jvm.ClassFile.FieldType.int)) ∈ xTB := xTB_of 335 (by decide +kernel) rfl
theorem hw_336 : (Jvm.Cond.methodLink "ShadeNames" (115 : Nat) ({ cls := "ShadeNames", name := "refusalOfText", desc := "(I)I" } : Jvm.MethodName)) ∈ xTB := xTB_of 336 (by decide +kernel) rfl
theorem hw_338 : (Jvm.Cond.instanceMethod ({ cls := "ShadeNames", name := "refusalOfText", desc := "(I)I" } : Jvm.MethodName)) ∈ xTB := xTB_of 338 (by decide +kernel) rfl
theorem hw_339 : (Jvm.Cond.code ({ cls := "ShadeNames", name := "refusalOfText", desc := "(I)I" } : Jvm.MethodName) prog_1_method_52_code (2 : Nat) (Option.some Jvm.ClassFile.FieldType.int)) ∈ xTB := xTB_of 339 (by decide +kernel) rfl
theorem hw_340 : (Jvm.Cond.methodLink "ShadeNames" (322 : Nat) ({ cls := "ShadeNames$Text", name := "isThere", desc := "()Z" } : Jvm.MethodName)) ∈ xTB := xTB_of 340 (by decide +kernel) rfl
theorem hw_341 : (Jvm.Cond.instanceMethod ({ cls := "ShadeNames$Text", name := "isThere", desc := "()Z" } : Jvm.MethodName)) ∈ xTB := xTB_of 341 (by decide +kernel) rfl
theorem hw_342 : (Jvm.Cond.selects "ShadeNames$Text" ({ cls := "ShadeNames$Text", name := "isThere", desc := "()Z" } : Jvm.MethodName) ({ cls := "ShadeNames$Text", name := "isThere", desc := "()Z" } : Jvm.MethodName)) ∈ xTB := xTB_of 342 (by decide +kernel) rfl
theorem hw_343 : (Jvm.Cond.code ({ cls := "ShadeNames$Text", name := "isThere", desc := "()Z" } : Jvm.MethodName) prog_9_method_3_code (1 : Nat) (Option.some Jvm.ClassFile.FieldType.boolean)) ∈ xTB := xTB_of 343 (by decide +kernel) rfl
theorem hw_344 : (Jvm.Cond.methodLink "ShadeNamesLaw" (49 : Nat) ({ cls := "ShadeNames", name := "fault", desc := "(I)I" } : Jvm.MethodName)) ∈ xTB := xTB_of 344 (by decide +kernel) rfl
theorem hw_345 : (Jvm.Cond.instanceMethod ({ cls := "ShadeNames", name := "fault", desc := "(I)I" } : Jvm.MethodName)) ∈ xTB := xTB_of 345 (by decide +kernel) rfl
theorem hw_346 : (Jvm.Cond.selects "ShadeNames" ({ cls := "ShadeNames", name := "fault", desc := "(I)I" } : Jvm.MethodName) ({ cls := "ShadeNames", name := "fault", desc := "(I)I" } : Jvm.MethodName)) ∈ xTB := xTB_of 346 (by decide +kernel) rfl
theorem hw_347 : (Jvm.Cond.code ({ cls := "ShadeNames", name := "fault", desc := "(I)I" } : Jvm.MethodName) prog_1_method_10_code (3 : Nat) (Option.some Jvm.ClassFile.FieldType.int)) ∈ xTB := xTB_of 347 (by decide +kernel) rfl
theorem hw_348 : (Jvm.Cond.methodLink "ShadeNames" (123 : Nat) ({ cls := "ShadeNames$Text", name := "firstFault", desc := "()I" } : Jvm.MethodName)) ∈ xTB := xTB_of 348 (by decide +kernel) rfl
theorem hw_349 : (Jvm.Cond.instanceMethod ({ cls := "ShadeNames$Text", name := "firstFault", desc := "()I" } : Jvm.MethodName)) ∈ xTB := xTB_of 349 (by decide +kernel) rfl
theorem hw_350 : (Jvm.Cond.selects "ShadeNames$Text" ({ cls := "ShadeNames$Text", name := "firstFault", desc := "()I" } : Jvm.MethodName) ({ cls := "ShadeNames$Text", name := "firstFault", desc := "()I" } : Jvm.MethodName)) ∈ xTB := xTB_of 350 (by decide +kernel) rfl
theorem hw_351 : (Jvm.Cond.code ({ cls := "ShadeNames$Text", name := "firstFault", desc := "()I" } : Jvm.MethodName) prog_9_method_4_code (4 : Nat) (Option.some Jvm.ClassFile.FieldType.int)) ∈ xTB := xTB_of 351 (by decide +kernel) rfl
theorem hw_352 : (Jvm.Cond.methodLink "ShadeNames$Text" (21 : Nat) ({ cls := "ShadeNames$Text", name := "faultOfItem", desc := "(I)I" } : Jvm.MethodName)) ∈ xTB := xTB_of 352 (by decide +kernel) rfl
theorem hw_354 : (Jvm.Cond.instanceMethod ({ cls := "ShadeNames$Text", name := "faultOfItem", desc := "(I)I" } : Jvm.MethodName)) ∈ xTB := xTB_of 354 (by decide +kernel) rfl
theorem hw_355 : (Jvm.Cond.code ({ cls := "ShadeNames$Text", name := "faultOfItem", desc := "(I)I" } : Jvm.MethodName) prog_9_method_5_code (3 : Nat) (Option.some Jvm.ClassFile.FieldType.int)) ∈ xTB := xTB_of 355 (by decide +kernel) rfl
theorem hw_356 : (Jvm.Cond.methodLink "ShadeNames$Text" (25 : Nat) ({ cls := "ShadeNames$Text", name := "fits", desc := "(II)Z" } : Jvm.MethodName)) ∈ xTB := xTB_of 356 (by decide +kernel) rfl
theorem hw_357 : (Jvm.Cond.static ({ cls := "ShadeNames$Text", name := "fits", desc := "(II)Z" } : Jvm.MethodName)) ∈ xTB := xTB_of 357 (by decide +kernel) rfl
theorem hw_358 : (Jvm.Cond.code ({ cls := "ShadeNames$Text", name := "fits", desc := "(II)Z" } : Jvm.MethodName) prog_9_method_6_code (2 : Nat) (Option.some Jvm.ClassFile.FieldType.boolean)) ∈ xTB := xTB_of 358 (by decide +kernel) rfl
theorem hw_359 : (Jvm.Cond.methodLink "ShadeNames$Text" (29 : Nat) ({ cls := "ShadeNames$Kind", name := "ofLetter", desc := "(I)I" } : Jvm.MethodName)) ∈ xTB := xTB_of 359 (by decide +kernel) rfl
theorem hw_360 : (Jvm.Cond.static ({ cls := "ShadeNames$Kind", name := "ofLetter", desc := "(I)I" } : Jvm.MethodName)) ∈ xTB := xTB_of 360 (by decide +kernel) rfl
theorem hw_361 : (Jvm.Cond.code ({ cls := "ShadeNames$Kind", name := "ofLetter", desc := "(I)I" } : Jvm.MethodName) prog_3_method_2_code (2 : Nat) (Option.some Jvm.ClassFile.FieldType.int)) ∈ xTB := xTB_of 361 (by decide +kernel) rfl
theorem hw_363 : (Jvm.Cond.methodLink "ShadeNames$Kind" (11 : Nat) ({ cls := "java/lang/String", name := "length", desc := "()I" } : Jvm.MethodName)) ∈ xTB := xTB_of 363 (by decide +kernel) rfl
theorem hw_364 : (Jvm.Cond.instanceMethod ({ cls := "java/lang/String", name := "length", desc := "()I" } : Jvm.MethodName)) ∈ xTB := xTB_of 364 (by decide +kernel) rfl
theorem hw_365 : (Jvm.Cond.selects "java/lang/String" ({ cls := "java/lang/String", name := "length", desc := "()I" } : Jvm.MethodName) ({ cls := "java/lang/String", name := "length", desc := "()I" } : Jvm.MethodName)) ∈ xTB := xTB_of 365 (by decide +kernel) rfl
theorem hw_366 : (Jvm.Cond.code ({ cls := "java/lang/String", name := "length", desc := "()I" } : Jvm.MethodName) prog_14_method_54_code (1 : Nat) (Option.some Jvm.ClassFile.FieldType.int)) ∈ xTB := xTB_of 366 (by decide +kernel) rfl
theorem hw_367 : (Jvm.Cond.methodLink "java/lang/String" (335 : Nat) ({ cls := "java/lang/String", name := "coder", desc := "()B" } : Jvm.MethodName)) ∈ xTB := xTB_of 367 (by decide +kernel) rfl
theorem hw_368 : (Jvm.Cond.instanceMethod ({ cls := "java/lang/String", name := "coder", desc := "()B" } : Jvm.MethodName)) ∈ xTB := xTB_of 368 (by decide +kernel) rfl
theorem hw_369 : (Jvm.Cond.selects "java/lang/String" ({ cls := "java/lang/String", name := "coder", desc := "()B" } : Jvm.MethodName) ({ cls := "java/lang/String", name := "coder", desc := "()B" } : Jvm.MethodName)) ∈ xTB := xTB_of 369 (by decide +kernel) rfl
theorem hw_370 : (Jvm.Cond.code ({ cls := "java/lang/String", name := "coder", desc := "()B" } : Jvm.MethodName) prog_14_method_152_code (1 : Nat) (Option.some Jvm.ClassFile.FieldType.byte)) ∈ xTB := xTB_of 370 (by decide +kernel) rfl
theorem hw_371 : (Jvm.Cond.fieldLink "java/lang/String" (38 : Nat) "java/lang/String" "COMPACT_STRINGS" "Z") ∈ xTB := xTB_of 371 (by decide +kernel) rfl
theorem hw_373 : (Jvm.Cond.methodLink "ShadeNames$Kind" (17 : Nat) ({ cls := "java/lang/String", name := "charAt", desc := "(I)C" } : Jvm.MethodName)) ∈ xTB := xTB_of 373 (by decide +kernel) rfl
theorem hw_374 : (Jvm.Cond.instanceMethod ({ cls := "java/lang/String", name := "charAt", desc := "(I)C" } : Jvm.MethodName)) ∈ xTB := xTB_of 374 (by decide +kernel) rfl
theorem hw_375 : (Jvm.Cond.selects "java/lang/String" ({ cls := "java/lang/String", name := "charAt", desc := "(I)C" } : Jvm.MethodName) ({ cls := "java/lang/String", name := "charAt", desc := "(I)C" } : Jvm.MethodName)) ∈ xTB := xTB_of 375 (by decide +kernel) rfl
theorem hw_376 : (Jvm.Cond.code ({ cls := "java/lang/String", name := "charAt", desc := "(I)C" } : Jvm.MethodName) prog_14_method_56_code (2 : Nat) (Option.some Jvm.ClassFile.FieldType.char)) ∈ xTB := xTB_of 376 (by decide +kernel) rfl
theorem hw_377 : (Jvm.Cond.methodLink "java/lang/String" (492 : Nat) ({ cls := "java/lang/String", name := "isLatin1", desc := "()Z" } : Jvm.MethodName)) ∈ xTB := xTB_of 377 (by decide +kernel) rfl
theorem hw_378 : (Jvm.Cond.instanceMethod ({ cls := "java/lang/String", name := "isLatin1", desc := "()Z" } : Jvm.MethodName)) ∈ xTB := xTB_of 378 (by decide +kernel) rfl
theorem hw_379 : (Jvm.Cond.selects "java/lang/String" ({ cls := "java/lang/String", name := "isLatin1", desc := "()Z" } : Jvm.MethodName) ({ cls := "java/lang/String", name := "isLatin1", desc := "()Z" } : Jvm.MethodName)) ∈ xTB := xTB_of 379 (by decide +kernel) rfl
theorem hw_380 : (Jvm.Cond.code ({ cls := "java/lang/String", name := "isLatin1", desc := "()Z" } : Jvm.MethodName) prog_14_method_154_code (1 : Nat) (Option.some Jvm.ClassFile.FieldType.boolean)) ∈ xTB := xTB_of 380 (by decide +kernel) rfl
theorem hw_381 : (Jvm.Cond.methodLink "java/lang/String" (495 : Nat) ({ cls := "java/lang/StringLatin1", name := "charAt", desc := "([BI)C" } : Jvm.MethodName)) ∈ xTB := xTB_of 381 (by decide +kernel) rfl
theorem hw_382 : (Jvm.Cond.static ({ cls := "java/lang/StringLatin1", name := "charAt", desc := "([BI)C" } : Jvm.MethodName)) ∈ xTB := xTB_of 382 (by decide +kernel) rfl
theorem hw_383 : (Jvm.Cond.code ({ cls := "java/lang/StringLatin1", name := "charAt", desc := "([BI)C" } : Jvm.MethodName) prog_15_method_2_code (2 : Nat) (Option.some Jvm.ClassFile.FieldType.char)) ∈ xTB := xTB_of 383 (by decide +kernel) rfl
theorem hw_384 : (Jvm.Cond.methodLink "java/lang/StringLatin1" (9 : Nat) ({ cls := "java/lang/String", name := "checkIndex", desc := "(II)V" } : Jvm.MethodName)) ∈ xTB := xTB_of 384 (by decide +kernel) rfl
theorem hw_385 : (Jvm.Cond.static ({ cls := "java/lang/String", name := "checkIndex", desc := "(II)V" } : Jvm.MethodName)) ∈ xTB := xTB_of 385 (by decide +kernel) rfl
theorem hw_386 : (Jvm.Cond.code ({ cls := "java/lang/String", name := "checkIndex", desc := "(II)V" } : Jvm.MethodName) prog_14_method_155_code (2 : Nat) (Option.none : Option Jvm.ClassFile.FieldType)) ∈ xTB := xTB_of 386 (by decide +kernel) rfl
theorem hw_387 : (Jvm.Cond.fieldLink "java/lang/String" (1053 : Nat) "jdk/internal/util/Preconditions" "SIOOBE_FORMATTER" "Ljava/util/function/BiFunction;") ∈ xTB := xTB_of 387 (by decide +kernel) rfl
theorem hw_389 : (Jvm.Cond.methodLink "java/lang/String" (1059 : Nat) ({ cls := "jdk/internal/util/Preconditions", name := "checkIndex", desc := "(IILjava/util/function/BiFunction;)I" } : Jvm.MethodName)) ∈ xTB := xTB_of 389 (by decide +kernel) rfl
theorem hw_390 : (Jvm.Cond.static ({ cls := "jdk/internal/util/Preconditions", name := "checkIndex", desc := "(IILjava/util/function/BiFunction;)I" } : Jvm.MethodName)) ∈ xTB := xTB_of 390 (by decide +kernel) rfl
theorem hw_391 : (Jvm.Cond.code ({ cls := "jdk/internal/util/Preconditions", name := "checkIndex", desc := "(IILjava/util/function/BiFunction;)I" } : Jvm.MethodName) prog_18_method_11_code (3 : Nat) (Option.some Jvm.ClassFile.FieldType.int)) ∈ xTB := xTB_of 391 (by decide +kernel) rfl
theorem hw_411 : (Jvm.Cond.fieldLink "ShadeNames$Text" (34 : Nat) "ShadeNames$Text" "GREATEST" "[I") ∈ xTB := xTB_of 411 (by decide +kernel) rfl
theorem hw_414 : (Jvm.Cond.methodLink "ShadeNamesLaw" (53 : Nat) ({ cls := "ShadeNames", name := "registry", desc := "(I)I" } : Jvm.MethodName)) ∈ xTB := xTB_of 414 (by decide +kernel) rfl
theorem hw_415 : (Jvm.Cond.instanceMethod ({ cls := "ShadeNames", name := "registry", desc := "(I)I" } : Jvm.MethodName)) ∈ xTB := xTB_of 415 (by decide +kernel) rfl
theorem hw_416 : (Jvm.Cond.selects "ShadeNames" ({ cls := "ShadeNames", name := "registry", desc := "(I)I" } : Jvm.MethodName) ({ cls := "ShadeNames", name := "registry", desc := "(I)I" } : Jvm.MethodName)) ∈ xTB := xTB_of 416 (by decide +kernel) rfl
theorem hw_417 : (Jvm.Cond.code ({ cls := "ShadeNames", name := "registry", desc := "(I)I" } : Jvm.MethodName) prog_1_method_11_code (4 : Nat) (Option.some Jvm.ClassFile.FieldType.int)) ∈ xTB := xTB_of 417 (by decide +kernel) rfl
theorem hw_418 : (Jvm.Cond.methodLink "ShadeNames" (127 : Nat) ({ cls := "ShadeNames$Text", name := "writeInto", desc := "(LShadeNames$Registry;)V" } : Jvm.MethodName)) ∈ xTB := xTB_of 418 (by decide +kernel) rfl
theorem hw_419 : (Jvm.Cond.instanceMethod ({ cls := "ShadeNames$Text", name := "writeInto", desc := "(LShadeNames$Registry;)V" } : Jvm.MethodName)) ∈ xTB := xTB_of 419 (by decide +kernel) rfl
theorem hw_420 : (Jvm.Cond.selects "ShadeNames$Text" ({ cls := "ShadeNames$Text", name := "writeInto", desc := "(LShadeNames$Registry;)V" } : Jvm.MethodName) ({ cls := "ShadeNames$Text", name := "writeInto", desc := "(LShadeNames$Registry;)V" } : Jvm.MethodName)) ∈ xTB := xTB_of 420 (by decide +kernel) rfl
theorem hw_421 : (Jvm.Cond.code ({ cls := "ShadeNames$Text", name := "writeInto", desc := "(LShadeNames$Registry;)V" } : Jvm.MethodName) prog_9_method_7_code (3 : Nat) (Option.none : Option Jvm.ClassFile.FieldType)) ∈ xTB := xTB_of 421 (by decide +kernel) rfl
theorem hw_422 : (Jvm.Cond.methodLink "ShadeNames$Text" (41 : Nat) ({ cls := "ShadeNames$Registry", name := "begin", desc := "()V" } : Jvm.MethodName)) ∈ xTB := xTB_of 422 (by decide +kernel) rfl
theorem hw_423 : (Jvm.Cond.instanceMethod ({ cls := "ShadeNames$Registry", name := "begin", desc := "()V" } : Jvm.MethodName)) ∈ xTB := xTB_of 423 (by decide +kernel) rfl
theorem hw_424 : (Jvm.Cond.selects "ShadeNames$Registry" ({ cls := "ShadeNames$Registry", name := "begin", desc := "()V" } : Jvm.MethodName) ({ cls := "ShadeNames$Registry", name := "begin", desc := "()V" } : Jvm.MethodName)) ∈ xTB := xTB_of 424 (by decide +kernel) rfl
theorem hw_425 : (Jvm.Cond.code ({ cls := "ShadeNames$Registry", name := "begin", desc := "()V" } : Jvm.MethodName) prog_6_method_2_code (1 : Nat) (Option.none : Option Jvm.ClassFile.FieldType)) ∈ xTB := xTB_of 425 (by decide +kernel) rfl
theorem hw_426 : (Jvm.Cond.methodLink "ShadeNames$Text" (45 : Nat) ({ cls := "ShadeNames$Registry", name := "grow", desc := "()LShadeNames$Name;" } : Jvm.MethodName)) ∈ xTB := xTB_of 426 (by decide +kernel) rfl
theorem hw_427 : (Jvm.Cond.instanceMethod ({ cls := "ShadeNames$Registry", name := "grow", desc := "()LShadeNames$Name;" } : Jvm.MethodName)) ∈ xTB := xTB_of 427 (by decide +kernel) rfl
theorem hw_428 : (Jvm.Cond.selects "ShadeNames$Registry" ({ cls := "ShadeNames$Registry", name := "grow", desc := "()LShadeNames$Name;" } : Jvm.MethodName) ({ cls := "ShadeNames$Registry", name := "grow", desc := "()LShadeNames$Name;" } : Jvm.MethodName)) ∈ xTB := xTB_of 428 (by decide +kernel) rfl
theorem hw_429 : (Jvm.Cond.code ({ cls := "ShadeNames$Registry", name := "grow", desc := "()LShadeNames$Name;" } : Jvm.MethodName) prog_6_method_4_code (2 : Nat) (Option.some (Jvm.ClassFile.FieldType.object "ShadeNames$Name"))) ∈ xTB := xTB_of 429 (by decide +kernel) rfl
theorem hw_430 : (Jvm.Cond.methodLink "ShadeNames$Text" (49 : Nat) ({ cls := "ShadeNames$Text", name := "writeItem", desc := "(ILShadeNames$Name;)V" } : Jvm.MethodName)) ∈ xTB := xTB_of 430 (by decide +kernel) rfl
theorem hw_432 : (Jvm.Cond.instanceMethod ({ cls := "ShadeNames$Text", name := "writeItem", desc := "(ILShadeNames$Name;)V" } : Jvm.MethodName)) ∈ xTB := xTB_of 432 (by decide +kernel) rfl
theorem hw_433 : (Jvm.Cond.code ({ cls := "ShadeNames$Text", name := "writeItem", desc := "(ILShadeNames$Name;)V" } : Jvm.MethodName) prog_9_method_8_code (3 : Nat) (Option.none : Option Jvm.ClassFile.FieldType)) ∈ xTB := xTB_of 433 (by decide +kernel) rfl
theorem hw_434 : (Jvm.Cond.methodLink "ShadeNames$Text" (58 : Nat) ({ cls := "ShadeNames$Text", name := "figure", desc := "(I)I" } : Jvm.MethodName)) ∈ xTB := xTB_of 434 (by decide +kernel) rfl
theorem hw_436 : (Jvm.Cond.instanceMethod ({ cls := "ShadeNames$Text", name := "figure", desc := "(I)I" } : Jvm.MethodName)) ∈ xTB := xTB_of 436 (by decide +kernel) rfl
theorem hw_437 : (Jvm.Cond.code ({ cls := "ShadeNames$Text", name := "figure", desc := "(I)I" } : Jvm.MethodName) prog_9_method_9_code (2 : Nat) (Option.some Jvm.ClassFile.FieldType.int)) ∈ xTB := xTB_of 437 (by decide +kernel) rfl
theorem hw_438 : (Jvm.Cond.methodLink "ShadeNames$Text" (61 : Nat) ({ cls := "ShadeNames$Shade", name := "of", desc := "(III)I" } : Jvm.MethodName)) ∈ xTB := xTB_of 438 (by decide +kernel) rfl
theorem hw_439 : (Jvm.Cond.static ({ cls := "ShadeNames$Shade", name := "of", desc := "(III)I" } : Jvm.MethodName)) ∈ xTB := xTB_of 439 (by decide +kernel) rfl
theorem hw_440 : (Jvm.Cond.code ({ cls := "ShadeNames$Shade", name := "of", desc := "(III)I" } : Jvm.MethodName) prog_8_method_2_code (3 : Nat) (Option.some Jvm.ClassFile.FieldType.int)) ∈ xTB := xTB_of 440 (by decide +kernel) rfl
theorem hw_441 : (Jvm.Cond.methodLink "ShadeNames" (131 : Nat) ({ cls := "ShadeNames$Registry", name := "begin", desc := "()V" } : Jvm.MethodName)) ∈ xTB := xTB_of 441 (by decide +kernel) rfl
theorem hw_442 : (Jvm.Cond.methodLink "ShadeNamesLaw" (57 : Nat) ({ cls := "ShadeNames", name := "name", desc := "(II)I" } : Jvm.MethodName)) ∈ xTB := xTB_of 442 (by decide +kernel) rfl
theorem hw_443 : (Jvm.Cond.instanceMethod ({ cls := "ShadeNames", name := "name", desc := "(II)I" } : Jvm.MethodName)) ∈ xTB := xTB_of 443 (by decide +kernel) rfl
theorem hw_444 : (Jvm.Cond.selects "ShadeNames" ({ cls := "ShadeNames", name := "name", desc := "(II)I" } : Jvm.MethodName) ({ cls := "ShadeNames", name := "name", desc := "(II)I" } : Jvm.MethodName)) ∈ xTB := xTB_of 444 (by decide +kernel) rfl
theorem hw_445 : (Jvm.Cond.code ({ cls := "ShadeNames", name := "name", desc := "(II)I" } : Jvm.MethodName) prog_1_method_12_code (3 : Nat) (Option.some Jvm.ClassFile.FieldType.int)) ∈ xTB := xTB_of 445 (by decide +kernel) rfl
theorem hw_446 : (Jvm.Cond.methodLink "ShadeNames" (134 : Nat) ({ cls := "ShadeNames", name := "tellOf", desc := "(II)I" } : Jvm.MethodName)) ∈ xTB := xTB_of 446 (by decide +kernel) rfl
theorem hw_448 : (Jvm.Cond.instanceMethod ({ cls := "ShadeNames", name := "tellOf", desc := "(II)I" } : Jvm.MethodName)) ∈ xTB := xTB_of 448 (by decide +kernel) rfl
theorem hw_449 : (Jvm.Cond.code ({ cls := "ShadeNames", name := "tellOf", desc := "(II)I" } : Jvm.MethodName) prog_1_method_56_code (4 : Nat) (Option.some Jvm.ClassFile.FieldType.int)) ∈ xTB := xTB_of 449 (by decide +kernel) rfl
theorem hw_450 : (Jvm.Cond.methodLink "ShadeNames" (256 : Nat) ({ cls := "ShadeNames$Registry", name := "shadeOf", desc := "(II)I" } : Jvm.MethodName)) ∈ xTB := xTB_of 450 (by decide +kernel) rfl
theorem hw_451 : (Jvm.Cond.instanceMethod ({ cls := "ShadeNames$Registry", name := "shadeOf", desc := "(II)I" } : Jvm.MethodName)) ∈ xTB := xTB_of 451 (by decide +kernel) rfl
theorem hw_452 : (Jvm.Cond.selects "ShadeNames$Registry" ({ cls := "ShadeNames$Registry", name := "shadeOf", desc := "(II)I" } : Jvm.MethodName) ({ cls := "ShadeNames$Registry", name := "shadeOf", desc := "(II)I" } : Jvm.MethodName)) ∈ xTB := xTB_of 452 (by decide +kernel) rfl
theorem hw_453 : (Jvm.Cond.code ({ cls := "ShadeNames$Registry", name := "shadeOf", desc := "(II)I" } : Jvm.MethodName) prog_6_method_8_code (4 : Nat) (Option.some Jvm.ClassFile.FieldType.int)) ∈ xTB := xTB_of 453 (by decide +kernel) rfl
theorem hw_454 : (Jvm.Cond.methodLink "ShadeNames$Registry" (63 : Nat) ({ cls := "ShadeNames$Shade", name := "faded", desc := "(II)I" } : Jvm.MethodName)) ∈ xTB := xTB_of 454 (by decide +kernel) rfl
theorem hw_455 : (Jvm.Cond.static ({ cls := "ShadeNames$Shade", name := "faded", desc := "(II)I" } : Jvm.MethodName)) ∈ xTB := xTB_of 455 (by decide +kernel) rfl
theorem hw_456 : (Jvm.Cond.code ({ cls := "ShadeNames$Shade", name := "faded", desc := "(II)I" } : Jvm.MethodName) prog_8_method_7_code (2 : Nat) (Option.some Jvm.ClassFile.FieldType.int)) ∈ xTB := xTB_of 456 (by decide +kernel) rfl
theorem hw_457 : (Jvm.Cond.methodLink "ShadeNames$Shade" (7 : Nat) ({ cls := "ShadeNames$Shade", name := "partA", desc := "(I)I" } : Jvm.MethodName)) ∈ xTB := xTB_of 457 (by decide +kernel) rfl
theorem hw_458 : (Jvm.Cond.static ({ cls := "ShadeNames$Shade", name := "partA", desc := "(I)I" } : Jvm.MethodName)) ∈ xTB := xTB_of 458 (by decide +kernel) rfl
theorem hw_459 : (Jvm.Cond.code ({ cls := "ShadeNames$Shade", name := "partA", desc := "(I)I" } : Jvm.MethodName) prog_8_method_3_code (1 : Nat) (Option.some Jvm.ClassFile.FieldType.int)) ∈ xTB := xTB_of 459 (by decide +kernel) rfl
theorem hw_460 : (Jvm.Cond.methodLink "ShadeNames$Shade" (23 : Nat) ({ cls := "java/lang/Math", name := "max", desc := "(II)I" } : Jvm.MethodName)) ∈ xTB := xTB_of 460 (by decide +kernel) rfl
theorem hw_461 : (Jvm.Cond.static ({ cls := "java/lang/Math", name := "max", desc := "(II)I" } : Jvm.MethodName)) ∈ xTB := xTB_of 461 (by decide +kernel) rfl
theorem hw_462 : (Jvm.Cond.code ({ cls := "java/lang/Math", name := "max", desc := "(II)I" } : Jvm.MethodName) prog_13_method_65_code (2 : Nat) (Option.some Jvm.ClassFile.FieldType.int)) ∈ xTB := xTB_of 462 (by decide +kernel) rfl
theorem hw_463 : (Jvm.Cond.methodLink "ShadeNames$Shade" (13 : Nat) ({ cls := "ShadeNames$Shade", name := "partB", desc := "(I)I" } : Jvm.MethodName)) ∈ xTB := xTB_of 463 (by decide +kernel) rfl
theorem hw_464 : (Jvm.Cond.static ({ cls := "ShadeNames$Shade", name := "partB", desc := "(I)I" } : Jvm.MethodName)) ∈ xTB := xTB_of 464 (by decide +kernel) rfl
theorem hw_465 : (Jvm.Cond.code ({ cls := "ShadeNames$Shade", name := "partB", desc := "(I)I" } : Jvm.MethodName) prog_8_method_4_code (1 : Nat) (Option.some Jvm.ClassFile.FieldType.int)) ∈ xTB := xTB_of 465 (by decide +kernel) rfl
theorem hw_466 : (Jvm.Cond.methodLink "ShadeNames$Shade" (16 : Nat) ({ cls := "ShadeNames$Shade", name := "partC", desc := "(I)I" } : Jvm.MethodName)) ∈ xTB := xTB_of 466 (by decide +kernel) rfl
theorem hw_467 : (Jvm.Cond.static ({ cls := "ShadeNames$Shade", name := "partC", desc := "(I)I" } : Jvm.MethodName)) ∈ xTB := xTB_of 467 (by decide +kernel) rfl
theorem hw_468 : (Jvm.Cond.code ({ cls := "ShadeNames$Shade", name := "partC", desc := "(I)I" } : Jvm.MethodName) prog_8_method_5_code (1 : Nat) (Option.some Jvm.ClassFile.FieldType.int)) ∈ xTB := xTB_of 468 (by decide +kernel) rfl
theorem hw_469 : (Jvm.Cond.methodLink "ShadeNames$Shade" (19 : Nat) ({ cls := "ShadeNames$Shade", name := "of", desc := "(III)I" } : Jvm.MethodName)) ∈ xTB := xTB_of 469 (by decide +kernel) rfl
theorem hw_470 : (Jvm.Cond.methodLink "ShadeNames" (271 : Nat) ({ cls := "ShadeNames$Kind", name := "countReached", desc := "(III)I" } : Jvm.MethodName)) ∈ xTB := xTB_of 470 (by decide +kernel) rfl
theorem hw_471 : (Jvm.Cond.static ({ cls := "ShadeNames$Kind", name := "countReached", desc := "(III)I" } : Jvm.MethodName)) ∈ xTB := xTB_of 471 (by decide +kernel) rfl
theorem hw_472 : (Jvm.Cond.code ({ cls := "ShadeNames$Kind", name := "countReached", desc := "(III)I" } : Jvm.MethodName) prog_3_method_6_code (5 : Nat) (Option.some Jvm.ClassFile.FieldType.int)) ∈ xTB := xTB_of 472 (by decide +kernel) rfl
theorem hw_473 : (Jvm.Cond.methodLink "ShadeNames$Kind" (50 : Nat) ({ cls := "ShadeNames$Kind", name := "reaches", desc := "(IIII)Z" } : Jvm.MethodName)) ∈ xTB := xTB_of 473 (by decide +kernel) rfl
theorem hw_474 : (Jvm.Cond.static ({ cls := "ShadeNames$Kind", name := "reaches", desc := "(IIII)Z" } : Jvm.MethodName)) ∈ xTB := xTB_of 474 (by decide +kernel) rfl
theorem hw_475 : (Jvm.Cond.code ({ cls := "ShadeNames$Kind", name := "reaches", desc := "(IIII)Z" } : Jvm.MethodName) prog_3_method_5_code (5 : Nat) (Option.some Jvm.ClassFile.FieldType.boolean)) ∈ xTB := xTB_of 475 (by decide +kernel) rfl
theorem hw_476 : (Jvm.Cond.methodLink "ShadeNames$Kind" (42 : Nat) ({ cls := "ShadeNames$Kind", name := "farFrom", desc := "(III)I" } : Jvm.MethodName)) ∈ xTB := xTB_of 476 (by decide +kernel) rfl
theorem hw_477 : (Jvm.Cond.static ({ cls := "ShadeNames$Kind", name := "farFrom", desc := "(III)I" } : Jvm.MethodName)) ∈ xTB := xTB_of 477 (by decide +kernel) rfl
theorem hw_478 : (Jvm.Cond.code ({ cls := "ShadeNames$Kind", name := "farFrom", desc := "(III)I" } : Jvm.MethodName) prog_3_method_4_code (6 : Nat) (Option.some Jvm.ClassFile.FieldType.int)) ∈ xTB := xTB_of 478 (by decide +kernel) rfl
theorem hw_479 : (Jvm.Cond.methodLink "ShadeNames$Kind" (21 : Nat) ({ cls := "ShadeNames$Shade", name := "partA", desc := "(I)I" } : Jvm.MethodName)) ∈ xTB := xTB_of 479 (by decide +kernel) rfl
theorem hw_480 : (Jvm.Cond.methodLink "ShadeNames$Kind" (27 : Nat) ({ cls := "java/lang/Math", name := "abs", desc := "(I)I" } : Jvm.MethodName)) ∈ xTB := xTB_of 480 (by decide +kernel) rfl
theorem hw_481 : (Jvm.Cond.static ({ cls := "java/lang/Math", name := "abs", desc := "(I)I" } : Jvm.MethodName)) ∈ xTB := xTB_of 481 (by decide +kernel) rfl
theorem hw_482 : (Jvm.Cond.code ({ cls := "java/lang/Math", name := "abs", desc := "(I)I" } : Jvm.MethodName) prog_13_method_59_code (1 : Nat) (Option.some Jvm.ClassFile.FieldType.int)) ∈ xTB := xTB_of 482 (by decide +kernel) rfl
theorem hw_483 : (Jvm.Cond.methodLink "ShadeNames$Kind" (32 : Nat) ({ cls := "ShadeNames$Shade", name := "partB", desc := "(I)I" } : Jvm.MethodName)) ∈ xTB := xTB_of 483 (by decide +kernel) rfl
theorem hw_484 : (Jvm.Cond.methodLink "ShadeNames$Kind" (35 : Nat) ({ cls := "ShadeNames$Shade", name := "partC", desc := "(I)I" } : Jvm.MethodName)) ∈ xTB := xTB_of 484 (by decide +kernel) rfl
theorem hw_485 : (Jvm.Cond.methodLink "ShadeNames$Kind" (38 : Nat) ({ cls := "java/lang/Math", name := "max", desc := "(II)I" } : Jvm.MethodName)) ∈ xTB := xTB_of 485 (by decide +kernel) rfl
theorem hw_486 : (Jvm.Cond.methodLink "ShadeNames$Kind" (46 : Nat) ({ cls := "ShadeNames$Kind", name := "isOf", desc := "(II)Z" } : Jvm.MethodName)) ∈ xTB := xTB_of 486 (by decide +kernel) rfl
theorem hw_487 : (Jvm.Cond.static ({ cls := "ShadeNames$Kind", name := "isOf", desc := "(II)Z" } : Jvm.MethodName)) ∈ xTB := xTB_of 487 (by decide +kernel) rfl
theorem hw_488 : (Jvm.Cond.code ({ cls := "ShadeNames$Kind", name := "isOf", desc := "(II)Z" } : Jvm.MethodName) prog_3_method_3_code (2 : Nat) (Option.some Jvm.ClassFile.FieldType.boolean)) ∈ xTB := xTB_of 488 (by decide +kernel) rfl
theorem hw_489 : (Jvm.Cond.methodLink "ShadeNamesLaw" (61 : Nat) ({ cls := "ShadeNames", name := "mark", desc := "(II)I" } : Jvm.MethodName)) ∈ xTB := xTB_of 489 (by decide +kernel) rfl
theorem hw_490 : (Jvm.Cond.instanceMethod ({ cls := "ShadeNames", name := "mark", desc := "(II)I" } : Jvm.MethodName)) ∈ xTB := xTB_of 490 (by decide +kernel) rfl
theorem hw_491 : (Jvm.Cond.selects "ShadeNames" ({ cls := "ShadeNames", name := "mark", desc := "(II)I" } : Jvm.MethodName) ({ cls := "ShadeNames", name := "mark", desc := "(II)I" } : Jvm.MethodName)) ∈ xTB := xTB_of 491 (by decide +kernel) rfl
theorem hw_492 : (Jvm.Cond.code ({ cls := "ShadeNames", name := "mark", desc := "(II)I" } : Jvm.MethodName) prog_1_method_13_code (3 : Nat) (Option.some Jvm.ClassFile.FieldType.int)) ∈ xTB := xTB_of 492 (by decide +kernel) rfl
theorem hw_493 : (Jvm.Cond.methodLink "ShadeNames" (148 : Nat) ({ cls := "ShadeNames$Kind", name := "isOf", desc := "(II)Z" } : Jvm.MethodName)) ∈ xTB := xTB_of 493 (by decide +kernel) rfl
theorem hw_494 : (Jvm.Cond.methodLink "ShadeNames" (151 : Nat) ({ cls := "ShadeNames$Registry", name := "countCalledBy", desc := "(I)I" } : Jvm.MethodName)) ∈ xTB := xTB_of 494 (by decide +kernel) rfl
theorem hw_495 : (Jvm.Cond.instanceMethod ({ cls := "ShadeNames$Registry", name := "countCalledBy", desc := "(I)I" } : Jvm.MethodName)) ∈ xTB := xTB_of 495 (by decide +kernel) rfl
theorem hw_496 : (Jvm.Cond.selects "ShadeNames$Registry" ({ cls := "ShadeNames$Registry", name := "countCalledBy", desc := "(I)I" } : Jvm.MethodName) ({ cls := "ShadeNames$Registry", name := "countCalledBy", desc := "(I)I" } : Jvm.MethodName)) ∈ xTB := xTB_of 496 (by decide +kernel) rfl
theorem hw_497 : (Jvm.Cond.code ({ cls := "ShadeNames$Registry", name := "countCalledBy", desc := "(I)I" } : Jvm.MethodName) prog_6_method_16_code (4 : Nat) (Option.some Jvm.ClassFile.FieldType.int)) ∈ xTB := xTB_of 497 (by decide +kernel) rfl
theorem hw_498 : (Jvm.Cond.methodLink "ShadeNames$Registry" (78 : Nat) ({ cls := "ShadeNames$Registry", name := "callerOf", desc := "(II)I" } : Jvm.MethodName)) ∈ xTB := xTB_of 498 (by decide +kernel) rfl
theorem hw_499 : (Jvm.Cond.instanceMethod ({ cls := "ShadeNames$Registry", name := "callerOf", desc := "(II)I" } : Jvm.MethodName)) ∈ xTB := xTB_of 499 (by decide +kernel) rfl
theorem hw_500 : (Jvm.Cond.selects "ShadeNames$Registry" ({ cls := "ShadeNames$Registry", name := "callerOf", desc := "(II)I" } : Jvm.MethodName) ({ cls := "ShadeNames$Registry", name := "callerOf", desc := "(II)I" } : Jvm.MethodName)) ∈ xTB := xTB_of 500 (by decide +kernel) rfl
theorem hw_501 : (Jvm.Cond.code ({ cls := "ShadeNames$Registry", name := "callerOf", desc := "(II)I" } : Jvm.MethodName) prog_6_method_10_code (4 : Nat) (Option.some Jvm.ClassFile.FieldType.int)) ∈ xTB := xTB_of 501 (by decide +kernel) rfl
theorem hw_502 : (Jvm.Cond.methodLink "ShadeNames$Registry" (74 : Nat) ({ cls := "ShadeNames$Registry", name := "nameReaches", desc := "(III)Z" } : Jvm.MethodName)) ∈ xTB := xTB_of 502 (by decide +kernel) rfl
theorem hw_503 : (Jvm.Cond.instanceMethod ({ cls := "ShadeNames$Registry", name := "nameReaches", desc := "(III)Z" } : Jvm.MethodName)) ∈ xTB := xTB_of 503 (by decide +kernel) rfl
theorem hw_504 : (Jvm.Cond.selects "ShadeNames$Registry" ({ cls := "ShadeNames$Registry", name := "nameReaches", desc := "(III)Z" } : Jvm.MethodName) ({ cls := "ShadeNames$Registry", name := "nameReaches", desc := "(III)Z" } : Jvm.MethodName)) ∈ xTB := xTB_of 504 (by decide +kernel) rfl
theorem hw_505 : (Jvm.Cond.code ({ cls := "ShadeNames$Registry", name := "nameReaches", desc := "(III)Z" } : Jvm.MethodName) prog_6_method_9_code (4 : Nat) (Option.some Jvm.ClassFile.FieldType.boolean)) ∈ xTB := xTB_of 505 (by decide +kernel) rfl
theorem hw_506 : (Jvm.Cond.methodLink "ShadeNames$Registry" (59 : Nat) ({ cls := "ShadeNames$Registry", name := "shadeOf", desc := "(II)I" } : Jvm.MethodName)) ∈ xTB := xTB_of 506 (by decide +kernel) rfl
theorem hw_507 : (Jvm.Cond.methodLink "ShadeNames$Registry" (68 : Nat) ({ cls := "ShadeNames$Kind", name := "reaches", desc := "(IIII)Z" } : Jvm.MethodName)) ∈ xTB := xTB_of 507 (by decide +kernel) rfl
theorem hw_508 : (Jvm.Cond.methodLink "ShadeNames" (154 : Nat) ({ cls := "ShadeNames$Registry", name := "countMissedBySharpness", desc := "(I)I" } : Jvm.MethodName)) ∈ xTB := xTB_of 508 (by decide +kernel) rfl
theorem hw_509 : (Jvm.Cond.instanceMethod ({ cls := "ShadeNames$Registry", name := "countMissedBySharpness", desc := "(I)I" } : Jvm.MethodName)) ∈ xTB := xTB_of 509 (by decide +kernel) rfl
theorem hw_510 : (Jvm.Cond.selects "ShadeNames$Registry" ({ cls := "ShadeNames$Registry", name := "countMissedBySharpness", desc := "(I)I" } : Jvm.MethodName) ({ cls := "ShadeNames$Registry", name := "countMissedBySharpness", desc := "(I)I" } : Jvm.MethodName)) ∈ xTB := xTB_of 510 (by decide +kernel) rfl
theorem hw_511 : (Jvm.Cond.code ({ cls := "ShadeNames$Registry", name := "countMissedBySharpness", desc := "(I)I" } : Jvm.MethodName) prog_6_method_17_code (4 : Nat) (Option.some Jvm.ClassFile.FieldType.int)) ∈ xTB := xTB_of 511 (by decide +kernel) rfl
theorem hw_512 : (Jvm.Cond.methodLink "ShadeNames$Registry" (85 : Nat) ({ cls := "ShadeNames$Kind", name := "countReached", desc := "(III)I" } : Jvm.MethodName)) ∈ xTB := xTB_of 512 (by decide +kernel) rfl
theorem hw_513 : (Jvm.Cond.methodLink "ShadeNames" (157 : Nat) ({ cls := "ShadeNames$Registry", name := "countReachedOfOwnLight", desc := "(I)I" } : Jvm.MethodName)) ∈ xTB := xTB_of 513 (by decide +kernel) rfl
theorem hw_514 : (Jvm.Cond.instanceMethod ({ cls := "ShadeNames$Registry", name := "countReachedOfOwnLight", desc := "(I)I" } : Jvm.MethodName)) ∈ xTB := xTB_of 514 (by decide +kernel) rfl
theorem hw_515 : (Jvm.Cond.selects "ShadeNames$Registry" ({ cls := "ShadeNames$Registry", name := "countReachedOfOwnLight", desc := "(I)I" } : Jvm.MethodName) ({ cls := "ShadeNames$Registry", name := "countReachedOfOwnLight", desc := "(I)I" } : Jvm.MethodName)) ∈ xTB := xTB_of 515 (by decide +kernel) rfl
theorem hw_516 : (Jvm.Cond.code ({ cls := "ShadeNames$Registry", name := "countReachedOfOwnLight", desc := "(I)I" } : Jvm.MethodName) prog_6_method_18_code (5 : Nat) (Option.some Jvm.ClassFile.FieldType.int)) ∈ xTB := xTB_of 516 (by decide +kernel) rfl
theorem hw_517 : (Jvm.Cond.methodLink "ShadeNames$Registry" (89 : Nat) ({ cls := "ShadeNames$Shade", name := "partA", desc := "(I)I" } : Jvm.MethodName)) ∈ xTB := xTB_of 517 (by decide +kernel) rfl
theorem hw_518 : (Jvm.Cond.methodLink "ShadeNames" (160 : Nat) ({ cls := "ShadeNames$Registry", name := "countOthersReached", desc := "(I)I" } : Jvm.MethodName)) ∈ xTB := xTB_of 518 (by decide +kernel) rfl
theorem hw_519 : (Jvm.Cond.instanceMethod ({ cls := "ShadeNames$Registry", name := "countOthersReached", desc := "(I)I" } : Jvm.MethodName)) ∈ xTB := xTB_of 519 (by decide +kernel) rfl
theorem hw_520 : (Jvm.Cond.selects "ShadeNames$Registry" ({ cls := "ShadeNames$Registry", name := "countOthersReached", desc := "(I)I" } : Jvm.MethodName) ({ cls := "ShadeNames$Registry", name := "countOthersReached", desc := "(I)I" } : Jvm.MethodName)) ∈ xTB := xTB_of 520 (by decide +kernel) rfl
theorem hw_521 : (Jvm.Cond.code ({ cls := "ShadeNames$Registry", name := "countOthersReached", desc := "(I)I" } : Jvm.MethodName) prog_6_method_19_code (4 : Nat) (Option.some Jvm.ClassFile.FieldType.int)) ∈ xTB := xTB_of 521 (by decide +kernel) rfl
theorem hw_522 : (Jvm.Cond.methodLink "ShadeNames" (163 : Nat) ({ cls := "ShadeNames$Registry", name := "countReachedBehindOthers", desc := "(I)I" } : Jvm.MethodName)) ∈ xTB := xTB_of 522 (by decide +kernel) rfl
theorem hw_523 : (Jvm.Cond.instanceMethod ({ cls := "ShadeNames$Registry", name := "countReachedBehindOthers", desc := "(I)I" } : Jvm.MethodName)) ∈ xTB := xTB_of 523 (by decide +kernel) rfl
theorem hw_524 : (Jvm.Cond.selects "ShadeNames$Registry" ({ cls := "ShadeNames$Registry", name := "countReachedBehindOthers", desc := "(I)I" } : Jvm.MethodName) ({ cls := "ShadeNames$Registry", name := "countReachedBehindOthers", desc := "(I)I" } : Jvm.MethodName)) ∈ xTB := xTB_of 524 (by decide +kernel) rfl
theorem hw_525 : (Jvm.Cond.code ({ cls := "ShadeNames$Registry", name := "countReachedBehindOthers", desc := "(I)I" } : Jvm.MethodName) prog_6_method_20_code (4 : Nat) (Option.some Jvm.ClassFile.FieldType.int)) ∈ xTB := xTB_of 525 (by decide +kernel) rfl
theorem hw_526 : (Jvm.Cond.methodLink "ShadeNamesLaw" (65 : Nat) ({ cls := "ShadeNames", name := "due", desc := "(II)I" } : Jvm.MethodName)) ∈ xTB := xTB_of 526 (by decide +kernel) rfl
theorem hw_527 : (Jvm.Cond.instanceMethod ({ cls := "ShadeNames", name := "due", desc := "(II)I" } : Jvm.MethodName)) ∈ xTB := xTB_of 527 (by decide +kernel) rfl
theorem hw_528 : (Jvm.Cond.selects "ShadeNames" ({ cls := "ShadeNames", name := "due", desc := "(II)I" } : Jvm.MethodName) ({ cls := "ShadeNames", name := "due", desc := "(II)I" } : Jvm.MethodName)) ∈ xTB := xTB_of 528 (by decide +kernel) rfl
theorem hw_529 : (Jvm.Cond.code ({ cls := "ShadeNames", name := "due", desc := "(II)I" } : Jvm.MethodName) prog_1_method_14_code (4 : Nat) (Option.some Jvm.ClassFile.FieldType.int)) ∈ xTB := xTB_of 529 (by decide +kernel) rfl
theorem hw_530 : (Jvm.Cond.methodLink "ShadeNamesLaw" (69 : Nat) ({ cls := "ShadeNames", name := "say", desc := "(IIII)I" } : Jvm.MethodName)) ∈ xTB := xTB_of 530 (by decide +kernel) rfl
theorem hw_531 : (Jvm.Cond.instanceMethod ({ cls := "ShadeNames", name := "say", desc := "(IIII)I" } : Jvm.MethodName)) ∈ xTB := xTB_of 531 (by decide +kernel) rfl
theorem hw_532 : (Jvm.Cond.selects "ShadeNames" ({ cls := "ShadeNames", name := "say", desc := "(IIII)I" } : Jvm.MethodName) ({ cls := "ShadeNames", name := "say", desc := "(IIII)I" } : Jvm.MethodName)) ∈ xTB := xTB_of 532 (by decide +kernel) rfl
theorem hw_533 : (Jvm.Cond.code ({ cls := "ShadeNames", name := "say", desc := "(IIII)I" } : Jvm.MethodName) prog_1_method_15_code (5 : Nat) (Option.some Jvm.ClassFile.FieldType.int)) ∈ xTB := xTB_of 533 (by decide +kernel) rfl
theorem hw_534 : (Jvm.Cond.methodLink "ShadeNames" (169 : Nat) ({ cls := "ShadeNames$Registry", name := "callerOf", desc := "(II)I" } : Jvm.MethodName)) ∈ xTB := xTB_of 534 (by decide +kernel) rfl
theorem hw_535 : (Jvm.Cond.methodLink "ShadeNames" (175 : Nat) ({ cls := "ShadeNames$Registry", name := "addSaid", desc := "(IIII)I" } : Jvm.MethodName)) ∈ xTB := xTB_of 535 (by decide +kernel) rfl
theorem hw_536 : (Jvm.Cond.instanceMethod ({ cls := "ShadeNames$Registry", name := "addSaid", desc := "(IIII)I" } : Jvm.MethodName)) ∈ xTB := xTB_of 536 (by decide +kernel) rfl
theorem hw_537 : (Jvm.Cond.selects "ShadeNames$Registry" ({ cls := "ShadeNames$Registry", name := "addSaid", desc := "(IIII)I" } : Jvm.MethodName) ({ cls := "ShadeNames$Registry", name := "addSaid", desc := "(IIII)I" } : Jvm.MethodName)) ∈ xTB := xTB_of 537 (by decide +kernel) rfl
theorem hw_538 : (Jvm.Cond.code ({ cls := "ShadeNames$Registry", name := "addSaid", desc := "(IIII)I" } : Jvm.MethodName) prog_6_method_5_code (6 : Nat) (Option.some Jvm.ClassFile.FieldType.int)) ∈ xTB := xTB_of 538 (by decide +kernel) rfl
theorem hw_539 : (Jvm.Cond.methodLink "ShadeNames$Registry" (36 : Nat) ({ cls := "ShadeNames$Registry", name := "grow", desc := "()LShadeNames$Name;" } : Jvm.MethodName)) ∈ xTB := xTB_of 539 (by decide +kernel) rfl
theorem hw_540 : (Jvm.Cond.methodLink "ShadeNamesLaw" (74 : Nat) ({ cls := "ShadeNames", name := "year", desc := "()I" } : Jvm.MethodName)) ∈ xTB := xTB_of 540 (by decide +kernel) rfl
theorem hw_541 : (Jvm.Cond.instanceMethod ({ cls := "ShadeNames", name := "year", desc := "()I" } : Jvm.MethodName)) ∈ xTB := xTB_of 541 (by decide +kernel) rfl
theorem hw_542 : (Jvm.Cond.selects "ShadeNames" ({ cls := "ShadeNames", name := "year", desc := "()I" } : Jvm.MethodName) ({ cls := "ShadeNames", name := "year", desc := "()I" } : Jvm.MethodName)) ∈ xTB := xTB_of 542 (by decide +kernel) rfl
theorem hw_543 : (Jvm.Cond.code ({ cls := "ShadeNames", name := "year", desc := "()I" } : Jvm.MethodName) prog_1_method_16_code (1 : Nat) (Option.some Jvm.ClassFile.FieldType.int)) ∈ xTB := xTB_of 543 (by decide +kernel) rfl
theorem hw_544 : (Jvm.Cond.methodLink "ShadeNames" (179 : Nat) ({ cls := "ShadeNames$Registry", name := "passYear", desc := "()I" } : Jvm.MethodName)) ∈ xTB := xTB_of 544 (by decide +kernel) rfl
theorem hw_545 : (Jvm.Cond.instanceMethod ({ cls := "ShadeNames$Registry", name := "passYear", desc := "()I" } : Jvm.MethodName)) ∈ xTB := xTB_of 545 (by decide +kernel) rfl
theorem hw_546 : (Jvm.Cond.selects "ShadeNames$Registry" ({ cls := "ShadeNames$Registry", name := "passYear", desc := "()I" } : Jvm.MethodName) ({ cls := "ShadeNames$Registry", name := "passYear", desc := "()I" } : Jvm.MethodName)) ∈ xTB := xTB_of 546 (by decide +kernel) rfl
theorem hw_547 : (Jvm.Cond.code ({ cls := "ShadeNames$Registry", name := "passYear", desc := "()I" } : Jvm.MethodName) prog_6_method_6_code (3 : Nat) (Option.some Jvm.ClassFile.FieldType.int)) ∈ xTB := xTB_of 547 (by decide +kernel) rfl
theorem hw_548 : (Jvm.Cond.methodLink "ShadeNamesLaw" (79 : Nat) ({ cls := "ShadeNames", name := "undo", desc := "(I)I" } : Jvm.MethodName)) ∈ xTB := xTB_of 548 (by decide +kernel) rfl
theorem hw_549 : (Jvm.Cond.instanceMethod ({ cls := "ShadeNames", name := "undo", desc := "(I)I" } : Jvm.MethodName)) ∈ xTB := xTB_of 549 (by decide +kernel) rfl
theorem hw_550 : (Jvm.Cond.selects "ShadeNames" ({ cls := "ShadeNames", name := "undo", desc := "(I)I" } : Jvm.MethodName) ({ cls := "ShadeNames", name := "undo", desc := "(I)I" } : Jvm.MethodName)) ∈ xTB := xTB_of 550 (by decide +kernel) rfl
theorem hw_551 : (Jvm.Cond.code ({ cls := "ShadeNames", name := "undo", desc := "(I)I" } : Jvm.MethodName) prog_1_method_17_code (2 : Nat) (Option.some Jvm.ClassFile.FieldType.int)) ∈ xTB := xTB_of 551 (by decide +kernel) rfl
theorem hw_552 : (Jvm.Cond.methodLink "ShadeNames" (182 : Nat) ({ cls := "ShadeNames$Registry", name := "undoFrom", desc := "(I)I" } : Jvm.MethodName)) ∈ xTB := xTB_of 552 (by decide +kernel) rfl
theorem hw_553 : (Jvm.Cond.instanceMethod ({ cls := "ShadeNames$Registry", name := "undoFrom", desc := "(I)I" } : Jvm.MethodName)) ∈ xTB := xTB_of 553 (by decide +kernel) rfl
theorem hw_554 : (Jvm.Cond.selects "ShadeNames$Registry" ({ cls := "ShadeNames$Registry", name := "undoFrom", desc := "(I)I" } : Jvm.MethodName) ({ cls := "ShadeNames$Registry", name := "undoFrom", desc := "(I)I" } : Jvm.MethodName)) ∈ xTB := xTB_of 554 (by decide +kernel) rfl
theorem hw_555 : (Jvm.Cond.code ({ cls := "ShadeNames$Registry", name := "undoFrom", desc := "(I)I" } : Jvm.MethodName) prog_6_method_7_code (4 : Nat) (Option.some Jvm.ClassFile.FieldType.int)) ∈ xTB := xTB_of 555 (by decide +kernel) rfl
theorem hw_556 : (Jvm.Cond.methodLink "ShadeNamesLaw" (83 : Nat) ({ cls := "ShadeNames", name := "keep", desc := "(I)I" } : Jvm.MethodName)) ∈ xTB := xTB_of 556 (by decide +kernel) rfl
theorem hw_557 : (Jvm.Cond.instanceMethod ({ cls := "ShadeNames", name := "keep", desc := "(I)I" } : Jvm.MethodName)) ∈ xTB := xTB_of 557 (by decide +kernel) rfl
theorem hw_558 : (Jvm.Cond.selects "ShadeNames" ({ cls := "ShadeNames", name := "keep", desc := "(I)I" } : Jvm.MethodName) ({ cls := "ShadeNames", name := "keep", desc := "(I)I" } : Jvm.MethodName)) ∈ xTB := xTB_of 558 (by decide +kernel) rfl
theorem hw_559 : (Jvm.Cond.code ({ cls := "ShadeNames", name := "keep", desc := "(I)I" } : Jvm.MethodName) prog_1_method_18_code (2 : Nat) (Option.some Jvm.ClassFile.FieldType.int)) ∈ xTB := xTB_of 559 (by decide +kernel) rfl
theorem hw_560 : (Jvm.Cond.methodLink "ShadeNames" (185 : Nat) ({ cls := "ShadeNames$Registry", name := "become", desc := "(LShadeNames$Registry;)V" } : Jvm.MethodName)) ∈ xTB := xTB_of 560 (by decide +kernel) rfl
theorem hw_561 : (Jvm.Cond.instanceMethod ({ cls := "ShadeNames$Registry", name := "become", desc := "(LShadeNames$Registry;)V" } : Jvm.MethodName)) ∈ xTB := xTB_of 561 (by decide +kernel) rfl
theorem hw_562 : (Jvm.Cond.selects "ShadeNames$Registry" ({ cls := "ShadeNames$Registry", name := "become", desc := "(LShadeNames$Registry;)V" } : Jvm.MethodName) ({ cls := "ShadeNames$Registry", name := "become", desc := "(LShadeNames$Registry;)V" } : Jvm.MethodName)) ∈ xTB := xTB_of 562 (by decide +kernel) rfl
theorem hw_563 : (Jvm.Cond.code ({ cls := "ShadeNames$Registry", name := "become", desc := "(LShadeNames$Registry;)V" } : Jvm.MethodName) prog_6_method_3_code (3 : Nat) (Option.none : Option Jvm.ClassFile.FieldType)) ∈ xTB := xTB_of 563 (by decide +kernel) rfl
theorem hw_564 : (Jvm.Cond.methodLink "ShadeNames$Registry" (32 : Nat) ({ cls := "ShadeNames$Name", name := "takeFrom", desc := "(LShadeNames$Name;)V" } : Jvm.MethodName)) ∈ xTB := xTB_of 564 (by decide +kernel) rfl
theorem hw_565 : (Jvm.Cond.instanceMethod ({ cls := "ShadeNames$Name", name := "takeFrom", desc := "(LShadeNames$Name;)V" } : Jvm.MethodName)) ∈ xTB := xTB_of 565 (by decide +kernel) rfl
theorem hw_566 : (Jvm.Cond.selects "ShadeNames$Name" ({ cls := "ShadeNames$Name", name := "takeFrom", desc := "(LShadeNames$Name;)V" } : Jvm.MethodName) ({ cls := "ShadeNames$Name", name := "takeFrom", desc := "(LShadeNames$Name;)V" } : Jvm.MethodName)) ∈ xTB := xTB_of 566 (by decide +kernel) rfl
theorem hw_567 : (Jvm.Cond.code ({ cls := "ShadeNames$Name", name := "takeFrom", desc := "(LShadeNames$Name;)V" } : Jvm.MethodName) prog_4_method_3_code (2 : Nat) (Option.none : Option Jvm.ClassFile.FieldType)) ∈ xTB := xTB_of 567 (by decide +kernel) rfl
theorem hw_568 : (Jvm.Cond.methodLink "ShadeNamesLaw" (87 : Nat) ({ cls := "ShadeNames", name := "on", desc := "(I)I" } : Jvm.MethodName)) ∈ xTB := xTB_of 568 (by decide +kernel) rfl
theorem hw_569 : (Jvm.Cond.instanceMethod ({ cls := "ShadeNames", name := "on", desc := "(I)I" } : Jvm.MethodName)) ∈ xTB := xTB_of 569 (by decide +kernel) rfl
theorem hw_570 : (Jvm.Cond.selects "ShadeNames" ({ cls := "ShadeNames", name := "on", desc := "(I)I" } : Jvm.MethodName) ({ cls := "ShadeNames", name := "on", desc := "(I)I" } : Jvm.MethodName)) ∈ xTB := xTB_of 570 (by decide +kernel) rfl
theorem hw_571 : (Jvm.Cond.code ({ cls := "ShadeNames", name := "on", desc := "(I)I" } : Jvm.MethodName) prog_1_method_19_code (2 : Nat) (Option.some Jvm.ClassFile.FieldType.int)) ∈ xTB := xTB_of 571 (by decide +kernel) rfl
theorem hw_572 : (Jvm.Cond.methodLink "ShadeNamesLaw" (91 : Nat) ({ cls := "ShadeNames", name := "apart", desc := "(II)I" } : Jvm.MethodName)) ∈ xTB := xTB_of 572 (by decide +kernel) rfl
theorem hw_573 : (Jvm.Cond.instanceMethod ({ cls := "ShadeNames", name := "apart", desc := "(II)I" } : Jvm.MethodName)) ∈ xTB := xTB_of 573 (by decide +kernel) rfl
theorem hw_574 : (Jvm.Cond.selects "ShadeNames" ({ cls := "ShadeNames", name := "apart", desc := "(II)I" } : Jvm.MethodName) ({ cls := "ShadeNames", name := "apart", desc := "(II)I" } : Jvm.MethodName)) ∈ xTB := xTB_of 574 (by decide +kernel) rfl
theorem hw_575 : (Jvm.Cond.code ({ cls := "ShadeNames", name := "apart", desc := "(II)I" } : Jvm.MethodName) prog_1_method_20_code (3 : Nat) (Option.some Jvm.ClassFile.FieldType.int)) ∈ xTB := xTB_of 575 (by decide +kernel) rfl
theorem hw_576 : (Jvm.Cond.methodLink "ShadeNames" (188 : Nat) ({ cls := "ShadeNames", name := "farApart", desc := "(II)I" } : Jvm.MethodName)) ∈ xTB := xTB_of 576 (by decide +kernel) rfl
theorem hw_577 : (Jvm.Cond.static ({ cls := "ShadeNames", name := "farApart", desc := "(II)I" } : Jvm.MethodName)) ∈ xTB := xTB_of 577 (by decide +kernel) rfl
theorem hw_578 : (Jvm.Cond.code ({ cls := "ShadeNames", name := "farApart", desc := "(II)I" } : Jvm.MethodName) prog_1_method_59_code (2 : Nat) (Option.some Jvm.ClassFile.FieldType.int)) ∈ xTB := xTB_of 578 (by decide +kernel) rfl
theorem hw_579 : (Jvm.Cond.methodLink "ShadeNames" (334 : Nat) ({ cls := "ShadeNames$Kind", name := "farFrom", desc := "(III)I" } : Jvm.MethodName)) ∈ xTB := xTB_of 579 (by decide +kernel) rfl
theorem hw_580 : (Jvm.Cond.methodLink "ShadeNamesLaw" (95 : Nat) ({ cls := "ShadeNames", name := "called", desc := "(I)I" } : Jvm.MethodName)) ∈ xTB := xTB_of 580 (by decide +kernel) rfl
theorem hw_581 : (Jvm.Cond.instanceMethod ({ cls := "ShadeNames", name := "called", desc := "(I)I" } : Jvm.MethodName)) ∈ xTB := xTB_of 581 (by decide +kernel) rfl
theorem hw_582 : (Jvm.Cond.selects "ShadeNames" ({ cls := "ShadeNames", name := "called", desc := "(I)I" } : Jvm.MethodName) ({ cls := "ShadeNames", name := "called", desc := "(I)I" } : Jvm.MethodName)) ∈ xTB := xTB_of 582 (by decide +kernel) rfl
theorem hw_583 : (Jvm.Cond.code ({ cls := "ShadeNames", name := "called", desc := "(I)I" } : Jvm.MethodName) prog_1_method_21_code (2 : Nat) (Option.some Jvm.ClassFile.FieldType.int)) ∈ xTB := xTB_of 583 (by decide +kernel) rfl
theorem hw_584 : (Jvm.Cond.methodLink "ShadeNames" (191 : Nat) ({ cls := "ShadeNames$Registry", name := "reachersOf", desc := "(I)I" } : Jvm.MethodName)) ∈ xTB := xTB_of 584 (by decide +kernel) rfl
theorem hw_585 : (Jvm.Cond.instanceMethod ({ cls := "ShadeNames$Registry", name := "reachersOf", desc := "(I)I" } : Jvm.MethodName)) ∈ xTB := xTB_of 585 (by decide +kernel) rfl
theorem hw_586 : (Jvm.Cond.selects "ShadeNames$Registry" ({ cls := "ShadeNames$Registry", name := "reachersOf", desc := "(I)I" } : Jvm.MethodName) ({ cls := "ShadeNames$Registry", name := "reachersOf", desc := "(I)I" } : Jvm.MethodName)) ∈ xTB := xTB_of 586 (by decide +kernel) rfl
theorem hw_587 : (Jvm.Cond.code ({ cls := "ShadeNames$Registry", name := "reachersOf", desc := "(I)I" } : Jvm.MethodName) prog_6_method_12_code (4 : Nat) (Option.some Jvm.ClassFile.FieldType.int)) ∈ xTB := xTB_of 587 (by decide +kernel) rfl
theorem hw_588 : (Jvm.Cond.methodLink "ShadeNamesLaw" (99 : Nat) ({ cls := "ShadeNames", name := "owes", desc := "(II)I" } : Jvm.MethodName)) ∈ xTB := xTB_of 588 (by decide +kernel) rfl
theorem hw_589 : (Jvm.Cond.instanceMethod ({ cls := "ShadeNames", name := "owes", desc := "(II)I" } : Jvm.MethodName)) ∈ xTB := xTB_of 589 (by decide +kernel) rfl
theorem hw_590 : (Jvm.Cond.selects "ShadeNames" ({ cls := "ShadeNames", name := "owes", desc := "(II)I" } : Jvm.MethodName) ({ cls := "ShadeNames", name := "owes", desc := "(II)I" } : Jvm.MethodName)) ∈ xTB := xTB_of 590 (by decide +kernel) rfl
theorem hw_591 : (Jvm.Cond.code ({ cls := "ShadeNames", name := "owes", desc := "(II)I" } : Jvm.MethodName) prog_1_method_22_code (3 : Nat) (Option.some Jvm.ClassFile.FieldType.int)) ∈ xTB := xTB_of 591 (by decide +kernel) rfl
theorem hw_592 : (Jvm.Cond.methodLink "ShadeNames" (194 : Nat) ({ cls := "ShadeNames$Registry", name := "owedBy", desc := "(II)I" } : Jvm.MethodName)) ∈ xTB := xTB_of 592 (by decide +kernel) rfl
theorem hw_593 : (Jvm.Cond.instanceMethod ({ cls := "ShadeNames$Registry", name := "owedBy", desc := "(II)I" } : Jvm.MethodName)) ∈ xTB := xTB_of 593 (by decide +kernel) rfl
theorem hw_594 : (Jvm.Cond.selects "ShadeNames$Registry" ({ cls := "ShadeNames$Registry", name := "owedBy", desc := "(II)I" } : Jvm.MethodName) ({ cls := "ShadeNames$Registry", name := "owedBy", desc := "(II)I" } : Jvm.MethodName)) ∈ xTB := xTB_of 594 (by decide +kernel) rfl
theorem hw_595 : (Jvm.Cond.code ({ cls := "ShadeNames$Registry", name := "owedBy", desc := "(II)I" } : Jvm.MethodName) prog_6_method_14_code (4 : Nat) (Option.some Jvm.ClassFile.FieldType.int)) ∈ xTB := xTB_of 595 (by decide +kernel) rfl
theorem hw_596 : (Jvm.Cond.methodLink "ShadeNames$Registry" (81 : Nat) ({ cls := "ShadeNames$Name", name := "owed", desc := "()I" } : Jvm.MethodName)) ∈ xTB := xTB_of 596 (by decide +kernel) rfl
theorem hw_597 : (Jvm.Cond.instanceMethod ({ cls := "ShadeNames$Name", name := "owed", desc := "()I" } : Jvm.MethodName)) ∈ xTB := xTB_of 597 (by decide +kernel) rfl
theorem hw_598 : (Jvm.Cond.selects "ShadeNames$Name" ({ cls := "ShadeNames$Name", name := "owed", desc := "()I" } : Jvm.MethodName) ({ cls := "ShadeNames$Name", name := "owed", desc := "()I" } : Jvm.MethodName)) ∈ xTB := xTB_of 598 (by decide +kernel) rfl
theorem hw_599 : (Jvm.Cond.code ({ cls := "ShadeNames$Name", name := "owed", desc := "()I" } : Jvm.MethodName) prog_4_method_2_code (1 : Nat) (Option.some Jvm.ClassFile.FieldType.int)) ∈ xTB := xTB_of 599 (by decide +kernel) rfl
theorem hw_600 : (Jvm.Cond.methodLink "ShadeNamesLaw" (103 : Nat) ({ cls := "ShadeNames", name := "disputed", desc := "()I" } : Jvm.MethodName)) ∈ xTB := xTB_of 600 (by decide +kernel) rfl
theorem hw_601 : (Jvm.Cond.instanceMethod ({ cls := "ShadeNames", name := "disputed", desc := "()I" } : Jvm.MethodName)) ∈ xTB := xTB_of 601 (by decide +kernel) rfl
theorem hw_602 : (Jvm.Cond.selects "ShadeNames" ({ cls := "ShadeNames", name := "disputed", desc := "()I" } : Jvm.MethodName) ({ cls := "ShadeNames", name := "disputed", desc := "()I" } : Jvm.MethodName)) ∈ xTB := xTB_of 602 (by decide +kernel) rfl
theorem hw_603 : (Jvm.Cond.code ({ cls := "ShadeNames", name := "disputed", desc := "()I" } : Jvm.MethodName) prog_1_method_23_code (2 : Nat) (Option.some Jvm.ClassFile.FieldType.int)) ∈ xTB := xTB_of 603 (by decide +kernel) rfl
theorem hw_604 : (Jvm.Cond.methodLink "ShadeNames" (197 : Nat) ({ cls := "ShadeNames$Registry", name := "isDisputed", desc := "(I)Z" } : Jvm.MethodName)) ∈ xTB := xTB_of 604 (by decide +kernel) rfl
theorem hw_605 : (Jvm.Cond.instanceMethod ({ cls := "ShadeNames$Registry", name := "isDisputed", desc := "(I)Z" } : Jvm.MethodName)) ∈ xTB := xTB_of 605 (by decide +kernel) rfl
theorem hw_606 : (Jvm.Cond.selects "ShadeNames$Registry" ({ cls := "ShadeNames$Registry", name := "isDisputed", desc := "(I)Z" } : Jvm.MethodName) ({ cls := "ShadeNames$Registry", name := "isDisputed", desc := "(I)Z" } : Jvm.MethodName)) ∈ xTB := xTB_of 606 (by decide +kernel) rfl
theorem hw_607 : (Jvm.Cond.code ({ cls := "ShadeNames$Registry", name := "isDisputed", desc := "(I)Z" } : Jvm.MethodName) prog_6_method_13_code (4 : Nat) (Option.some Jvm.ClassFile.FieldType.boolean)) ∈ xTB := xTB_of 607 (by decide +kernel) rfl
theorem hw_608 : (Jvm.Cond.methodLink "ShadeNames" (201 : Nat) ({ cls := "ShadeNames", name := "tellChosen", desc := "()I" } : Jvm.MethodName)) ∈ xTB := xTB_of 608 (by decide +kernel) rfl
theorem hw_610 : (Jvm.Cond.instanceMethod ({ cls := "ShadeNames", name := "tellChosen", desc := "()I" } : Jvm.MethodName)) ∈ xTB := xTB_of 610 (by decide +kernel) rfl
theorem hw_611 : (Jvm.Cond.code ({ cls := "ShadeNames", name := "tellChosen", desc := "()I" } : Jvm.MethodName) prog_1_method_57_code (3 : Nat) (Option.some Jvm.ClassFile.FieldType.int)) ∈ xTB := xTB_of 611 (by decide +kernel) rfl
theorem hw_612 : (Jvm.Cond.methodLink "ShadeNamesLaw" (107 : Nat) ({ cls := "ShadeNames", name := "free", desc := "()I" } : Jvm.MethodName)) ∈ xTB := xTB_of 612 (by decide +kernel) rfl
theorem hw_613 : (Jvm.Cond.instanceMethod ({ cls := "ShadeNames", name := "free", desc := "()I" } : Jvm.MethodName)) ∈ xTB := xTB_of 613 (by decide +kernel) rfl
theorem hw_614 : (Jvm.Cond.selects "ShadeNames" ({ cls := "ShadeNames", name := "free", desc := "()I" } : Jvm.MethodName) ({ cls := "ShadeNames", name := "free", desc := "()I" } : Jvm.MethodName)) ∈ xTB := xTB_of 614 (by decide +kernel) rfl
theorem hw_615 : (Jvm.Cond.code ({ cls := "ShadeNames", name := "free", desc := "()I" } : Jvm.MethodName) prog_1_method_24_code (2 : Nat) (Option.some Jvm.ClassFile.FieldType.int)) ∈ xTB := xTB_of 615 (by decide +kernel) rfl
theorem hw_616 : (Jvm.Cond.methodLink "ShadeNamesLaw" (111 : Nat) ({ cls := "ShadeNames", name := "gap", desc := "(II)I" } : Jvm.MethodName)) ∈ xTB := xTB_of 616 (by decide +kernel) rfl
theorem hw_617 : (Jvm.Cond.instanceMethod ({ cls := "ShadeNames", name := "gap", desc := "(II)I" } : Jvm.MethodName)) ∈ xTB := xTB_of 617 (by decide +kernel) rfl
theorem hw_618 : (Jvm.Cond.selects "ShadeNames" ({ cls := "ShadeNames", name := "gap", desc := "(II)I" } : Jvm.MethodName) ({ cls := "ShadeNames", name := "gap", desc := "(II)I" } : Jvm.MethodName)) ∈ xTB := xTB_of 618 (by decide +kernel) rfl
theorem hw_619 : (Jvm.Cond.code ({ cls := "ShadeNames", name := "gap", desc := "(II)I" } : Jvm.MethodName) prog_1_method_25_code (4 : Nat) (Option.some Jvm.ClassFile.FieldType.int)) ∈ xTB := xTB_of 619 (by decide +kernel) rfl
theorem hw_620 : (Jvm.Cond.methodLink "ShadeNames" (204 : Nat) ({ cls := "ShadeNames", name := "reachesOpenAlone", desc := "(III)Z" } : Jvm.MethodName)) ∈ xTB := xTB_of 620 (by decide +kernel) rfl
theorem hw_622 : (Jvm.Cond.instanceMethod ({ cls := "ShadeNames", name := "reachesOpenAlone", desc := "(III)Z" } : Jvm.MethodName)) ∈ xTB := xTB_of 622 (by decide +kernel) rfl
theorem hw_623 : (Jvm.Cond.code ({ cls := "ShadeNames", name := "reachesOpenAlone", desc := "(III)Z" } : Jvm.MethodName) prog_1_method_58_code (5 : Nat) (Option.some Jvm.ClassFile.FieldType.boolean)) ∈ xTB := xTB_of 623 (by decide +kernel) rfl
theorem hw_624 : (Jvm.Cond.methodLink "ShadeNames" (330 : Nat) ({ cls := "ShadeNames$Kind", name := "reaches", desc := "(IIII)Z" } : Jvm.MethodName)) ∈ xTB := xTB_of 624 (by decide +kernel) rfl
theorem hw_625 : (Jvm.Cond.methodLink "ShadeNamesLaw" (115 : Nat) ({ cls := "ShadeNames", name := "lives", desc := "(II)I" } : Jvm.MethodName)) ∈ xTB := xTB_of 625 (by decide +kernel) rfl
theorem hw_626 : (Jvm.Cond.instanceMethod ({ cls := "ShadeNames", name := "lives", desc := "(II)I" } : Jvm.MethodName)) ∈ xTB := xTB_of 626 (by decide +kernel) rfl
theorem hw_627 : (Jvm.Cond.selects "ShadeNames" ({ cls := "ShadeNames", name := "lives", desc := "(II)I" } : Jvm.MethodName) ({ cls := "ShadeNames", name := "lives", desc := "(II)I" } : Jvm.MethodName)) ∈ xTB := xTB_of 627 (by decide +kernel) rfl
theorem hw_628 : (Jvm.Cond.code ({ cls := "ShadeNames", name := "lives", desc := "(II)I" } : Jvm.MethodName) prog_1_method_26_code (6 : Nat) (Option.some Jvm.ClassFile.FieldType.int)) ∈ xTB := xTB_of 628 (by decide +kernel) rfl
theorem hw_629 : (Jvm.Cond.methodLink "ShadeNames" (208 : Nat) ({ cls := "ShadeNames", name := "refusalOfShades", desc := "(III)I" } : Jvm.MethodName)) ∈ xTB := xTB_of 629 (by decide +kernel) rfl
theorem hw_631 : (Jvm.Cond.instanceMethod ({ cls := "ShadeNames", name := "refusalOfShades", desc := "(III)I" } : Jvm.MethodName)) ∈ xTB := xTB_of 631 (by decide +kernel) rfl
theorem hw_632 : (Jvm.Cond.code ({ cls := "ShadeNames", name := "refusalOfShades", desc := "(III)I" } : Jvm.MethodName) prog_1_method_53_code (5 : Nat) (Option.some Jvm.ClassFile.FieldType.int)) ∈ xTB := xTB_of 632 (by decide +kernel) rfl
theorem hw_633 : (Jvm.Cond.methodLink "ShadeNames" (323 : Nat) ({ cls := "ShadeNames$Row", name := "holdsOnlyBelow", desc := "(I)Z" } : Jvm.MethodName)) ∈ xTB := xTB_of 633 (by decide +kernel) rfl
theorem hw_634 : (Jvm.Cond.instanceMethod ({ cls := "ShadeNames$Row", name := "holdsOnlyBelow", desc := "(I)Z" } : Jvm.MethodName)) ∈ xTB := xTB_of 634 (by decide +kernel) rfl
theorem hw_635 : (Jvm.Cond.selects "ShadeNames$Row" ({ cls := "ShadeNames$Row", name := "holdsOnlyBelow", desc := "(I)Z" } : Jvm.MethodName) ({ cls := "ShadeNames$Row", name := "holdsOnlyBelow", desc := "(I)Z" } : Jvm.MethodName)) ∈ xTB := xTB_of 635 (by decide +kernel) rfl
theorem hw_636 : (Jvm.Cond.code ({ cls := "ShadeNames$Row", name := "holdsOnlyBelow", desc := "(I)Z" } : Jvm.MethodName) prog_7_method_6_code (3 : Nat) (Option.some Jvm.ClassFile.FieldType.boolean)) ∈ xTB := xTB_of 636 (by decide +kernel) rfl
theorem hw_638 : (Jvm.Cond.methodLink "ShadeNames" (212 : Nat) ({ cls := "ShadeNames$Registry", name := "owedTo", desc := "(II)I" } : Jvm.MethodName)) ∈ xTB := xTB_of 638 (by decide +kernel) rfl
theorem hw_639 : (Jvm.Cond.instanceMethod ({ cls := "ShadeNames$Registry", name := "owedTo", desc := "(II)I" } : Jvm.MethodName)) ∈ xTB := xTB_of 639 (by decide +kernel) rfl
theorem hw_640 : (Jvm.Cond.selects "ShadeNames$Registry" ({ cls := "ShadeNames$Registry", name := "owedTo", desc := "(II)I" } : Jvm.MethodName) ({ cls := "ShadeNames$Registry", name := "owedTo", desc := "(II)I" } : Jvm.MethodName)) ∈ xTB := xTB_of 640 (by decide +kernel) rfl
theorem hw_641 : (Jvm.Cond.code ({ cls := "ShadeNames$Registry", name := "owedTo", desc := "(II)I" } : Jvm.MethodName) prog_6_method_15_code (4 : Nat) (Option.some Jvm.ClassFile.FieldType.int)) ∈ xTB := xTB_of 641 (by decide +kernel) rfl
theorem hw_642 : (Jvm.Cond.methodLink "ShadeNamesLaw" (119 : Nat) ({ cls := "ShadeNames", name := "cover", desc := "(II)I" } : Jvm.MethodName)) ∈ xTB := xTB_of 642 (by decide +kernel) rfl
theorem hw_643 : (Jvm.Cond.instanceMethod ({ cls := "ShadeNames", name := "cover", desc := "(II)I" } : Jvm.MethodName)) ∈ xTB := xTB_of 643 (by decide +kernel) rfl
theorem hw_644 : (Jvm.Cond.selects "ShadeNames" ({ cls := "ShadeNames", name := "cover", desc := "(II)I" } : Jvm.MethodName) ({ cls := "ShadeNames", name := "cover", desc := "(II)I" } : Jvm.MethodName)) ∈ xTB := xTB_of 644 (by decide +kernel) rfl
theorem hw_645 : (Jvm.Cond.code ({ cls := "ShadeNames", name := "cover", desc := "(II)I" } : Jvm.MethodName) prog_1_method_27_code (4 : Nat) (Option.some Jvm.ClassFile.FieldType.int)) ∈ xTB := xTB_of 645 (by decide +kernel) rfl
theorem hw_646 : (Jvm.Cond.methodLink "ShadeNames" (215 : Nat) ({ cls := "ShadeNames$Cover", name := "fewest", desc := "(LShadeNames$Row;I)I" } : Jvm.MethodName)) ∈ xTB := xTB_of 646 (by decide +kernel) rfl
theorem hw_647 : (Jvm.Cond.instanceMethod ({ cls := "ShadeNames$Cover", name := "fewest", desc := "(LShadeNames$Row;I)I" } : Jvm.MethodName)) ∈ xTB := xTB_of 647 (by decide +kernel) rfl
theorem hw_648 : (Jvm.Cond.selects "ShadeNames$Cover" ({ cls := "ShadeNames$Cover", name := "fewest", desc := "(LShadeNames$Row;I)I" } : Jvm.MethodName) ({ cls := "ShadeNames$Cover", name := "fewest", desc := "(LShadeNames$Row;I)I" } : Jvm.MethodName)) ∈ xTB := xTB_of 648 (by decide +kernel) rfl
theorem hw_649 : (Jvm.Cond.code ({ cls := "ShadeNames$Cover", name := "fewest", desc := "(LShadeNames$Row;I)I" } : Jvm.MethodName) prog_2_method_3_code (5 : Nat) (Option.some Jvm.ClassFile.FieldType.int)) ∈ xTB := xTB_of 649 (by decide +kernel) rfl
theorem hw_650 : (Jvm.Cond.methodLink "ShadeNames$Cover" (34 : Nat) ({ cls := "ShadeNames$Cover", name := "placesReached", desc := "(LShadeNames$Row;II)I" } : Jvm.MethodName)) ∈ xTB := xTB_of 650 (by decide +kernel) rfl
theorem hw_651 : (Jvm.Cond.static ({ cls := "ShadeNames$Cover", name := "placesReached", desc := "(LShadeNames$Row;II)I" } : Jvm.MethodName)) ∈ xTB := xTB_of 651 (by decide +kernel) rfl
theorem hw_652 : (Jvm.Cond.code ({ cls := "ShadeNames$Cover", name := "placesReached", desc := "(LShadeNames$Row;II)I" } : Jvm.MethodName) prog_2_method_2_code (5 : Nat) (Option.some Jvm.ClassFile.FieldType.int)) ∈ xTB := xTB_of 652 (by decide +kernel) rfl
theorem hw_653 : (Jvm.Cond.methodLink "ShadeNames$Cover" (28 : Nat) ({ cls := "ShadeNames$Kind", name := "reaches", desc := "(IIII)Z" } : Jvm.MethodName)) ∈ xTB := xTB_of 653 (by decide +kernel) rfl
theorem hw_654 : (Jvm.Cond.methodLink "ShadeNames$Cover" (38 : Nat) ({ cls := "ShadeNames$Cover", name := "fewestOf", desc := "(II)I" } : Jvm.MethodName)) ∈ xTB := xTB_of 654 (by decide +kernel) rfl
theorem hw_656 : (Jvm.Cond.instanceMethod ({ cls := "ShadeNames$Cover", name := "fewestOf", desc := "(II)I" } : Jvm.MethodName)) ∈ xTB := xTB_of 656 (by decide +kernel) rfl
theorem hw_657 : (Jvm.Cond.code ({ cls := "ShadeNames$Cover", name := "fewestOf", desc := "(II)I" } : Jvm.MethodName) prog_2_method_4_code (5 : Nat) (Option.some Jvm.ClassFile.FieldType.int)) ∈ xTB := xTB_of 657 (by decide +kernel) rfl
theorem hw_658 : (Jvm.Cond.methodLink "ShadeNames$Cover" (42 : Nat) ({ cls := "java/lang/Math", name := "min", desc := "(II)I" } : Jvm.MethodName)) ∈ xTB := xTB_of 658 (by decide +kernel) rfl
theorem hw_659 : (Jvm.Cond.static ({ cls := "java/lang/Math", name := "min", desc := "(II)I" } : Jvm.MethodName)) ∈ xTB := xTB_of 659 (by decide +kernel) rfl
theorem hw_660 : (Jvm.Cond.code ({ cls := "java/lang/Math", name := "min", desc := "(II)I" } : Jvm.MethodName) prog_13_method_69_code (2 : Nat) (Option.some Jvm.ClassFile.FieldType.int)) ∈ xTB := xTB_of 660 (by decide +kernel) rfl
theorem hw_661 : (Jvm.Cond.methodLink "ShadeNamesLaw" (123 : Nat) ({ cls := "ShadeNames", name := "best", desc := "(II)I" } : Jvm.MethodName)) ∈ xTB := xTB_of 661 (by decide +kernel) rfl
theorem hw_662 : (Jvm.Cond.instanceMethod ({ cls := "ShadeNames", name := "best", desc := "(II)I" } : Jvm.MethodName)) ∈ xTB := xTB_of 662 (by decide +kernel) rfl
theorem hw_663 : (Jvm.Cond.selects "ShadeNames" ({ cls := "ShadeNames", name := "best", desc := "(II)I" } : Jvm.MethodName) ({ cls := "ShadeNames", name := "best", desc := "(II)I" } : Jvm.MethodName)) ∈ xTB := xTB_of 663 (by decide +kernel) rfl
theorem hw_664 : (Jvm.Cond.code ({ cls := "ShadeNames", name := "best", desc := "(II)I" } : Jvm.MethodName) prog_1_method_28_code (8 : Nat) (Option.some Jvm.ClassFile.FieldType.int)) ∈ xTB := xTB_of 664 (by decide +kernel) rfl
theorem hw_665 : (Jvm.Cond.methodLink "ShadeNames" (219 : Nat) ({ cls := "ShadeNames$Cover", name := "placesReached", desc := "(LShadeNames$Row;II)I" } : Jvm.MethodName)) ∈ xTB := xTB_of 665 (by decide +kernel) rfl
theorem hw_666 : (Jvm.Cond.methodLink "ShadeNames" (223 : Nat) ({ cls := "java/lang/Integer", name := "bitCount", desc := "(I)I" } : Jvm.MethodName)) ∈ xTB := xTB_of 666 (by decide +kernel) rfl
theorem hw_667 : (Jvm.Cond.static ({ cls := "java/lang/Integer", name := "bitCount", desc := "(I)I" } : Jvm.MethodName)) ∈ xTB := xTB_of 667 (by decide +kernel) rfl
theorem hw_668 : (Jvm.Cond.code ({ cls := "java/lang/Integer", name := "bitCount", desc := "(I)I" } : Jvm.MethodName) prog_12_method_49_code (1 : Nat) (Option.some Jvm.ClassFile.FieldType.int)) ∈ xTB := xTB_of 668 (by decide +kernel) rfl
theorem hw_669 : (Jvm.Cond.constant "java/lang/Integer" (265 : Nat) (1431655765 : Int32)) ∈ xTB := xTB_of 669 (by decide +kernel) rfl
theorem hw_670 : (Jvm.Cond.constant "java/lang/Integer" (266 : Nat) (858993459 : Int32)) ∈ xTB := xTB_of 670 (by decide +kernel) rfl
theorem hw_671 : (Jvm.Cond.constant "java/lang/Integer" (267 : Nat) (252645135 : Int32)) ∈ xTB := xTB_of 671 (by decide +kernel) rfl
theorem hw_672 : (Jvm.Cond.methodLink "ShadeNamesLaw" (127 : Nat) ({ cls := "ShadeNames", name := "mix", desc := "(II)I" } : Jvm.MethodName)) ∈ xTB := xTB_of 672 (by decide +kernel) rfl
theorem hw_673 : (Jvm.Cond.instanceMethod ({ cls := "ShadeNames", name := "mix", desc := "(II)I" } : Jvm.MethodName)) ∈ xTB := xTB_of 673 (by decide +kernel) rfl
theorem hw_674 : (Jvm.Cond.selects "ShadeNames" ({ cls := "ShadeNames", name := "mix", desc := "(II)I" } : Jvm.MethodName) ({ cls := "ShadeNames", name := "mix", desc := "(II)I" } : Jvm.MethodName)) ∈ xTB := xTB_of 674 (by decide +kernel) rfl
theorem hw_675 : (Jvm.Cond.code ({ cls := "ShadeNames", name := "mix", desc := "(II)I" } : Jvm.MethodName) prog_1_method_29_code (5 : Nat) (Option.some Jvm.ClassFile.FieldType.int)) ∈ xTB := xTB_of 675 (by decide +kernel) rfl
theorem hw_676 : (Jvm.Cond.methodLink "ShadeNames" (228 : Nat) ({ cls := "ShadeNames$Palette", name := "fewestMixings", desc := "(LShadeNames$Row;[Z)I" } : Jvm.MethodName)) ∈ xTB := xTB_of 676 (by decide +kernel) rfl
theorem hw_677 : (Jvm.Cond.instanceMethod ({ cls := "ShadeNames$Palette", name := "fewestMixings", desc := "(LShadeNames$Row;[Z)I" } : Jvm.MethodName)) ∈ xTB := xTB_of 677 (by decide +kernel) rfl
theorem hw_678 : (Jvm.Cond.selects "ShadeNames$Palette" ({ cls := "ShadeNames$Palette", name := "fewestMixings", desc := "(LShadeNames$Row;[Z)I" } : Jvm.MethodName) ({ cls := "ShadeNames$Palette", name := "fewestMixings", desc := "(LShadeNames$Row;[Z)I" } : Jvm.MethodName)) ∈ xTB := xTB_of 678 (by decide +kernel) rfl
theorem hw_679 : (Jvm.Cond.code ({ cls := "ShadeNames$Palette", name := "fewestMixings", desc := "(LShadeNames$Row;[Z)I" } : Jvm.MethodName) prog_5_method_2_code (4 : Nat) (Option.some Jvm.ClassFile.FieldType.int)) ∈ xTB := xTB_of 679 (by decide +kernel) rfl
theorem hw_680 : (Jvm.Cond.methodLink "ShadeNames$Palette" (24 : Nat) ({ cls := "ShadeNames$Palette", name := "leastBy", desc := "(II[I[Z)I" } : Jvm.MethodName)) ∈ xTB := xTB_of 680 (by decide +kernel) rfl
theorem hw_681 : (Jvm.Cond.static ({ cls := "ShadeNames$Palette", name := "leastBy", desc := "(II[I[Z)I" } : Jvm.MethodName)) ∈ xTB := xTB_of 681 (by decide +kernel) rfl
theorem hw_682 : (Jvm.Cond.code ({ cls := "ShadeNames$Palette", name := "leastBy", desc := "(II[I[Z)I" } : Jvm.MethodName) prog_5_method_3_code (7 : Nat) (Option.some Jvm.ClassFile.FieldType.int)) ∈ xTB := xTB_of 682 (by decide +kernel) rfl
theorem hw_683 : (Jvm.Cond.methodLink "ShadeNames$Palette" (31 : Nat) ({ cls := "ShadeNames$Palette", name := "leastOf", desc := "(I[I[Z)I" } : Jvm.MethodName)) ∈ xTB := xTB_of 683 (by decide +kernel) rfl
theorem hw_684 : (Jvm.Cond.static ({ cls := "ShadeNames$Palette", name := "leastOf", desc := "(I[I[Z)I" } : Jvm.MethodName)) ∈ xTB := xTB_of 684 (by decide +kernel) rfl
theorem hw_685 : (Jvm.Cond.code ({ cls := "ShadeNames$Palette", name := "leastOf", desc := "(I[I[Z)I" } : Jvm.MethodName) prog_5_method_4_code (5 : Nat) (Option.some Jvm.ClassFile.FieldType.int)) ∈ xTB := xTB_of 685 (by decide +kernel) rfl
theorem hw_686 : (Jvm.Cond.methodLink "ShadeNames$Palette" (41 : Nat) ({ cls := "ShadeNames$Palette", name := "lesser", desc := "(II)I" } : Jvm.MethodName)) ∈ xTB := xTB_of 686 (by decide +kernel) rfl
theorem hw_687 : (Jvm.Cond.static ({ cls := "ShadeNames$Palette", name := "lesser", desc := "(II)I" } : Jvm.MethodName)) ∈ xTB := xTB_of 687 (by decide +kernel) rfl
theorem hw_688 : (Jvm.Cond.code ({ cls := "ShadeNames$Palette", name := "lesser", desc := "(II)I" } : Jvm.MethodName) prog_5_method_5_code (2 : Nat) (Option.some Jvm.ClassFile.FieldType.int)) ∈ xTB := xTB_of 688 (by decide +kernel) rfl
theorem hw_689 : (Jvm.Cond.methodLink "ShadeNames$Palette" (44 : Nat) ({ cls := "java/lang/Math", name := "min", desc := "(II)I" } : Jvm.MethodName)) ∈ xTB := xTB_of 689 (by decide +kernel) rfl
theorem hw_690 : (Jvm.Cond.methodLink "ShadeNames$Palette" (35 : Nat) ({ cls := "ShadeNames$Shade", name := "mixed", desc := "(II)I" } : Jvm.MethodName)) ∈ xTB := xTB_of 690 (by decide +kernel) rfl
theorem hw_691 : (Jvm.Cond.static ({ cls := "ShadeNames$Shade", name := "mixed", desc := "(II)I" } : Jvm.MethodName)) ∈ xTB := xTB_of 691 (by decide +kernel) rfl
theorem hw_692 : (Jvm.Cond.code ({ cls := "ShadeNames$Shade", name := "mixed", desc := "(II)I" } : Jvm.MethodName) prog_8_method_6_code (2 : Nat) (Option.some Jvm.ClassFile.FieldType.int)) ∈ xTB := xTB_of 692 (by decide +kernel) rfl
theorem hw_693 : (Jvm.Cond.methodLink "ShadeNamesLaw" (131 : Nat) ({ cls := "ShadeNames", name := "cheap", desc := "(II)I" } : Jvm.MethodName)) ∈ xTB := xTB_of 693 (by decide +kernel) rfl
theorem hw_694 : (Jvm.Cond.instanceMethod ({ cls := "ShadeNames", name := "cheap", desc := "(II)I" } : Jvm.MethodName)) ∈ xTB := xTB_of 694 (by decide +kernel) rfl
theorem hw_695 : (Jvm.Cond.selects "ShadeNames" ({ cls := "ShadeNames", name := "cheap", desc := "(II)I" } : Jvm.MethodName) ({ cls := "ShadeNames", name := "cheap", desc := "(II)I" } : Jvm.MethodName)) ∈ xTB := xTB_of 695 (by decide +kernel) rfl
theorem hw_696 : (Jvm.Cond.code ({ cls := "ShadeNames", name := "cheap", desc := "(II)I" } : Jvm.MethodName) prog_1_method_30_code (5 : Nat) (Option.some Jvm.ClassFile.FieldType.int)) ∈ xTB := xTB_of 696 (by decide +kernel) rfl
theorem hw_697 : (Jvm.Cond.methodLink "ShadeNamesLaw" (135 : Nat) ({ cls := "ShadeNames", name := "eyes", desc := "(I)I" } : Jvm.MethodName)) ∈ xTB := xTB_of 697 (by decide +kernel) rfl
theorem hw_698 : (Jvm.Cond.instanceMethod ({ cls := "ShadeNames", name := "eyes", desc := "(I)I" } : Jvm.MethodName)) ∈ xTB := xTB_of 698 (by decide +kernel) rfl
theorem hw_699 : (Jvm.Cond.selects "ShadeNames" ({ cls := "ShadeNames", name := "eyes", desc := "(I)I" } : Jvm.MethodName) ({ cls := "ShadeNames", name := "eyes", desc := "(I)I" } : Jvm.MethodName)) ∈ xTB := xTB_of 699 (by decide +kernel) rfl
theorem hw_700 : (Jvm.Cond.code ({ cls := "ShadeNames", name := "eyes", desc := "(I)I" } : Jvm.MethodName) prog_1_method_31_code (3 : Nat) (Option.some Jvm.ClassFile.FieldType.int)) ∈ xTB := xTB_of 700 (by decide +kernel) rfl
theorem hw_701 : (Jvm.Cond.methodLink "ShadeNames" (235 : Nat) ({ cls := "ShadeNames", name := "refusalOfSayings", desc := "(I)I" } : Jvm.MethodName)) ∈ xTB := xTB_of 701 (by decide +kernel) rfl
theorem hw_703 : (Jvm.Cond.instanceMethod ({ cls := "ShadeNames", name := "refusalOfSayings", desc := "(I)I" } : Jvm.MethodName)) ∈ xTB := xTB_of 703 (by decide +kernel) rfl
theorem hw_704 : (Jvm.Cond.code ({ cls := "ShadeNames", name := "refusalOfSayings", desc := "(I)I" } : Jvm.MethodName) prog_1_method_54_code (4 : Nat) (Option.some Jvm.ClassFile.FieldType.int)) ∈ xTB := xTB_of 704 (by decide +kernel) rfl
theorem hw_705 : (Jvm.Cond.methodLink "ShadeNames" (238 : Nat) ({ cls := "ShadeNames", name := "eyesLeftBy", desc := "(LShadeNames$Row;)I" } : Jvm.MethodName)) ∈ xTB := xTB_of 705 (by decide +kernel) rfl
theorem hw_706 : (Jvm.Cond.static ({ cls := "ShadeNames", name := "eyesLeftBy", desc := "(LShadeNames$Row;)I" } : Jvm.MethodName)) ∈ xTB := xTB_of 706 (by decide +kernel) rfl
theorem hw_707 : (Jvm.Cond.code ({ cls := "ShadeNames", name := "eyesLeftBy", desc := "(LShadeNames$Row;)I" } : Jvm.MethodName) prog_1_method_62_code (4 : Nat) (Option.some Jvm.ClassFile.FieldType.int)) ∈ xTB := xTB_of 707 (by decide +kernel) rfl
theorem hw_708 : (Jvm.Cond.constant "ShadeNames" (337 : Nat) (65535 : Int32)) ∈ xTB := xTB_of 708 (by decide +kernel) rfl
theorem hw_709 : (Jvm.Cond.methodLink "ShadeNames" (242 : Nat) ({ cls := "ShadeNames", name := "eyesSayingAlike", desc := "(I)I" } : Jvm.MethodName)) ∈ xTB := xTB_of 709 (by decide +kernel) rfl
theorem hw_710 : (Jvm.Cond.static ({ cls := "ShadeNames", name := "eyesSayingAlike", desc := "(I)I" } : Jvm.MethodName)) ∈ xTB := xTB_of 710 (by decide +kernel) rfl
theorem hw_711 : (Jvm.Cond.code ({ cls := "ShadeNames", name := "eyesSayingAlike", desc := "(I)I" } : Jvm.MethodName) prog_1_method_60_code (1 : Nat) (Option.some Jvm.ClassFile.FieldType.int)) ∈ xTB := xTB_of 711 (by decide +kernel) rfl
theorem hw_712 : (Jvm.Cond.methodLink "ShadeNamesLaw" (139 : Nat) ({ cls := "ShadeNames", name := "show", desc := "(I)I" } : Jvm.MethodName)) ∈ xTB := xTB_of 712 (by decide +kernel) rfl
theorem hw_713 : (Jvm.Cond.instanceMethod ({ cls := "ShadeNames", name := "show", desc := "(I)I" } : Jvm.MethodName)) ∈ xTB := xTB_of 713 (by decide +kernel) rfl
theorem hw_714 : (Jvm.Cond.selects "ShadeNames" ({ cls := "ShadeNames", name := "show", desc := "(I)I" } : Jvm.MethodName) ({ cls := "ShadeNames", name := "show", desc := "(I)I" } : Jvm.MethodName)) ∈ xTB := xTB_of 714 (by decide +kernel) rfl
theorem hw_715 : (Jvm.Cond.code ({ cls := "ShadeNames", name := "show", desc := "(I)I" } : Jvm.MethodName) prog_1_method_32_code (10 : Nat) (Option.some Jvm.ClassFile.FieldType.int)) ∈ xTB := xTB_of 715 (by decide +kernel) rfl
theorem hw_716 : (Jvm.Cond.methodLink "ShadeNames" (245 : Nat) ({ cls := "java/lang/Math", name := "max", desc := "(II)I" } : Jvm.MethodName)) ∈ xTB := xTB_of 716 (by decide +kernel) rfl
theorem hw_717 : (Jvm.Cond.methodLink "ShadeNamesLaw" (143 : Nat) ({ cls := "ShadeNames", name := "judged", desc := "(III)I" } : Jvm.MethodName)) ∈ xTB := xTB_of 717 (by decide +kernel) rfl
theorem hw_718 : (Jvm.Cond.instanceMethod ({ cls := "ShadeNames", name := "judged", desc := "(III)I" } : Jvm.MethodName)) ∈ xTB := xTB_of 718 (by decide +kernel) rfl
theorem hw_719 : (Jvm.Cond.selects "ShadeNames" ({ cls := "ShadeNames", name := "judged", desc := "(III)I" } : Jvm.MethodName) ({ cls := "ShadeNames", name := "judged", desc := "(III)I" } : Jvm.MethodName)) ∈ xTB := xTB_of 719 (by decide +kernel) rfl
theorem hw_720 : (Jvm.Cond.code ({ cls := "ShadeNames", name := "judged", desc := "(III)I" } : Jvm.MethodName) prog_1_method_33_code (9 : Nat) (Option.some Jvm.ClassFile.FieldType.int)) ∈ xTB := xTB_of 720 (by decide +kernel) rfl
theorem hw_721 : (Jvm.Cond.methodLink "ShadeNames" (250 : Nat) ({ cls := "ShadeNames", name := "refusalOfJudges", desc := "(I)I" } : Jvm.MethodName)) ∈ xTB := xTB_of 721 (by decide +kernel) rfl
theorem hw_723 : (Jvm.Cond.instanceMethod ({ cls := "ShadeNames", name := "refusalOfJudges", desc := "(I)I" } : Jvm.MethodName)) ∈ xTB := xTB_of 723 (by decide +kernel) rfl
theorem hw_724 : (Jvm.Cond.code ({ cls := "ShadeNames", name := "refusalOfJudges", desc := "(I)I" } : Jvm.MethodName) prog_1_method_55_code (3 : Nat) (Option.some Jvm.ClassFile.FieldType.int)) ∈ xTB := xTB_of 724 (by decide +kernel) rfl
theorem hw_725 : (Jvm.Cond.methodLink "ShadeNames" (253 : Nat) ({ cls := "ShadeNames", name := "saysAlike", desc := "(II)I" } : Jvm.MethodName)) ∈ xTB := xTB_of 725 (by decide +kernel) rfl
theorem hw_726 : (Jvm.Cond.static ({ cls := "ShadeNames", name := "saysAlike", desc := "(II)I" } : Jvm.MethodName)) ∈ xTB := xTB_of 726 (by decide +kernel) rfl
theorem hw_727 : (Jvm.Cond.code ({ cls := "ShadeNames", name := "saysAlike", desc := "(II)I" } : Jvm.MethodName) prog_1_method_61_code (2 : Nat) (Option.some Jvm.ClassFile.FieldType.int)) ∈ xTB := xTB_of 727 (by decide +kernel) rfl
theorem hw_728 : (Jvm.Cond.methodLink "ShadeNamesLaw" (147 : Nat) ({ cls := "ShadeNames", name := "lost", desc := "(I)I" } : Jvm.MethodName)) ∈ xTB := xTB_of 728 (by decide +kernel) rfl
theorem hw_729 : (Jvm.Cond.instanceMethod ({ cls := "ShadeNames", name := "lost", desc := "(I)I" } : Jvm.MethodName)) ∈ xTB := xTB_of 729 (by decide +kernel) rfl
theorem hw_730 : (Jvm.Cond.selects "ShadeNames" ({ cls := "ShadeNames", name := "lost", desc := "(I)I" } : Jvm.MethodName) ({ cls := "ShadeNames", name := "lost", desc := "(I)I" } : Jvm.MethodName)) ∈ xTB := xTB_of 730 (by decide +kernel) rfl
theorem hw_731 : (Jvm.Cond.code ({ cls := "ShadeNames", name := "lost", desc := "(I)I" } : Jvm.MethodName) prog_1_method_34_code (3 : Nat) (Option.some Jvm.ClassFile.FieldType.int)) ∈ xTB := xTB_of 731 (by decide +kernel) rfl
theorem hw_732 : (Jvm.Cond.methodLink "ShadeNames" (259 : Nat) ({ cls := "ShadeNames$Registry", name := "ownerOf", desc := "(II)I" } : Jvm.MethodName)) ∈ xTB := xTB_of 732 (by decide +kernel) rfl
theorem hw_733 : (Jvm.Cond.instanceMethod ({ cls := "ShadeNames$Registry", name := "ownerOf", desc := "(II)I" } : Jvm.MethodName)) ∈ xTB := xTB_of 733 (by decide +kernel) rfl
theorem hw_734 : (Jvm.Cond.selects "ShadeNames$Registry" ({ cls := "ShadeNames$Registry", name := "ownerOf", desc := "(II)I" } : Jvm.MethodName) ({ cls := "ShadeNames$Registry", name := "ownerOf", desc := "(II)I" } : Jvm.MethodName)) ∈ xTB := xTB_of 734 (by decide +kernel) rfl
theorem hw_735 : (Jvm.Cond.code ({ cls := "ShadeNames$Registry", name := "ownerOf", desc := "(II)I" } : Jvm.MethodName) prog_6_method_11_code (4 : Nat) (Option.some Jvm.ClassFile.FieldType.int)) ∈ xTB := xTB_of 735 (by decide +kernel) rfl
theorem hw_736 : (Jvm.Cond.methodLink "ShadeNamesLaw" (151 : Nat) ({ cls := "ShadeNames", name := "moves", desc := "(I)I" } : Jvm.MethodName)) ∈ xTB := xTB_of 736 (by decide +kernel) rfl
theorem hw_737 : (Jvm.Cond.instanceMethod ({ cls := "ShadeNames", name := "moves", desc := "(I)I" } : Jvm.MethodName)) ∈ xTB := xTB_of 737 (by decide +kernel) rfl
theorem hw_738 : (Jvm.Cond.selects "ShadeNames" ({ cls := "ShadeNames", name := "moves", desc := "(I)I" } : Jvm.MethodName) ({ cls := "ShadeNames", name := "moves", desc := "(I)I" } : Jvm.MethodName)) ∈ xTB := xTB_of 738 (by decide +kernel) rfl
theorem hw_739 : (Jvm.Cond.code ({ cls := "ShadeNames", name := "moves", desc := "(I)I" } : Jvm.MethodName) prog_1_method_35_code (4 : Nat) (Option.some Jvm.ClassFile.FieldType.int)) ∈ xTB := xTB_of 739 (by decide +kernel) rfl
theorem hw_740 : (Jvm.Cond.methodLink "ShadeNamesLaw" (155 : Nat) ({ cls := "ShadeNames", name := "was", desc := "(II)I" } : Jvm.MethodName)) ∈ xTB := xTB_of 740 (by decide +kernel) rfl
theorem hw_741 : (Jvm.Cond.instanceMethod ({ cls := "ShadeNames", name := "was", desc := "(II)I" } : Jvm.MethodName)) ∈ xTB := xTB_of 741 (by decide +kernel) rfl
theorem hw_742 : (Jvm.Cond.selects "ShadeNames" ({ cls := "ShadeNames", name := "was", desc := "(II)I" } : Jvm.MethodName) ({ cls := "ShadeNames", name := "was", desc := "(II)I" } : Jvm.MethodName)) ∈ xTB := xTB_of 742 (by decide +kernel) rfl
theorem hw_743 : (Jvm.Cond.code ({ cls := "ShadeNames", name := "was", desc := "(II)I" } : Jvm.MethodName) prog_1_method_36_code (5 : Nat) (Option.some Jvm.ClassFile.FieldType.int)) ∈ xTB := xTB_of 743 (by decide +kernel) rfl
theorem hw_744 : (Jvm.Cond.methodLink "ShadeNames" (265 : Nat) ({ cls := "ShadeNames$Shade", name := "faded", desc := "(II)I" } : Jvm.MethodName)) ∈ xTB := xTB_of 744 (by decide +kernel) rfl
theorem hw_745 : (Jvm.Cond.methodLink "ShadeNamesLaw" (159 : Nat) ({ cls := "ShadeNames", name := "kinds", desc := "(II)I" } : Jvm.MethodName)) ∈ xTB := xTB_of 745 (by decide +kernel) rfl
theorem hw_746 : (Jvm.Cond.instanceMethod ({ cls := "ShadeNames", name := "kinds", desc := "(II)I" } : Jvm.MethodName)) ∈ xTB := xTB_of 746 (by decide +kernel) rfl
theorem hw_747 : (Jvm.Cond.selects "ShadeNames" ({ cls := "ShadeNames", name := "kinds", desc := "(II)I" } : Jvm.MethodName) ({ cls := "ShadeNames", name := "kinds", desc := "(II)I" } : Jvm.MethodName)) ∈ xTB := xTB_of 747 (by decide +kernel) rfl
theorem hw_748 : (Jvm.Cond.code ({ cls := "ShadeNames", name := "kinds", desc := "(II)I" } : Jvm.MethodName) prog_1_method_37_code (7 : Nat) (Option.some Jvm.ClassFile.FieldType.int)) ∈ xTB := xTB_of 748 (by decide +kernel) rfl
theorem hw_749 : (Jvm.Cond.methodLink "ShadeNamesLaw" (163 : Nat) ({ cls := "ShadeNames", name := "odds", desc := "(I)I" } : Jvm.MethodName)) ∈ xTB := xTB_of 749 (by decide +kernel) rfl
theorem hw_750 : (Jvm.Cond.instanceMethod ({ cls := "ShadeNames", name := "odds", desc := "(I)I" } : Jvm.MethodName)) ∈ xTB := xTB_of 750 (by decide +kernel) rfl
theorem hw_751 : (Jvm.Cond.selects "ShadeNames" ({ cls := "ShadeNames", name := "odds", desc := "(I)I" } : Jvm.MethodName) ({ cls := "ShadeNames", name := "odds", desc := "(I)I" } : Jvm.MethodName)) ∈ xTB := xTB_of 751 (by decide +kernel) rfl
theorem hw_752 : (Jvm.Cond.code ({ cls := "ShadeNames", name := "odds", desc := "(I)I" } : Jvm.MethodName) prog_1_method_38_code (4 : Nat) (Option.some Jvm.ClassFile.FieldType.int)) ∈ xTB := xTB_of 752 (by decide +kernel) rfl
theorem hw_753 : (Jvm.Cond.constantLong "ShadeNames" (274 : Nat) (216 : Int64)) ∈ xTB := xTB_of 753 (by decide +kernel) rfl
theorem hw_754 : (Jvm.Cond.methodLink "ShadeNames" (276 : Nat) ({ cls := "ShadeNames", name := "tellChance", desc := "(JJ)V" } : Jvm.MethodName)) ∈ xTB := xTB_of 754 (by decide +kernel) rfl
theorem hw_756 : (Jvm.Cond.instanceMethod ({ cls := "ShadeNames", name := "tellChance", desc := "(JJ)V" } : Jvm.MethodName)) ∈ xTB := xTB_of 756 (by decide +kernel) rfl
theorem hw_757 : (Jvm.Cond.code ({ cls := "ShadeNames", name := "tellChance", desc := "(JJ)V" } : Jvm.MethodName) prog_1_method_63_code (7 : Nat) (Option.none : Option Jvm.ClassFile.FieldType)) ∈ xTB := xTB_of 757 (by decide +kernel) rfl
theorem hw_758 : (Jvm.Cond.methodLink "ShadeNames" (338 : Nat) ({ cls := "ShadeNames", name := "greatestDivisor", desc := "(JJ)J" } : Jvm.MethodName)) ∈ xTB := xTB_of 758 (by decide +kernel) rfl
theorem hw_759 : (Jvm.Cond.static ({ cls := "ShadeNames", name := "greatestDivisor", desc := "(JJ)J" } : Jvm.MethodName)) ∈ xTB := xTB_of 759 (by decide +kernel) rfl
theorem hw_760 : (Jvm.Cond.code ({ cls := "ShadeNames", name := "greatestDivisor", desc := "(JJ)J" } : Jvm.MethodName) prog_1_method_64_code (7 : Nat) (Option.some Jvm.ClassFile.FieldType.long)) ∈ xTB := xTB_of 760 (by decide +kernel) rfl
theorem hw_761 : (Jvm.Cond.methodLink "ShadeNamesLaw" (167 : Nat) ({ cls := "ShadeNames", name := "mid", desc := "(I)I" } : Jvm.MethodName)) ∈ xTB := xTB_of 761 (by decide +kernel) rfl
theorem hw_762 : (Jvm.Cond.instanceMethod ({ cls := "ShadeNames", name := "mid", desc := "(I)I" } : Jvm.MethodName)) ∈ xTB := xTB_of 762 (by decide +kernel) rfl
theorem hw_763 : (Jvm.Cond.selects "ShadeNames" ({ cls := "ShadeNames", name := "mid", desc := "(I)I" } : Jvm.MethodName) ({ cls := "ShadeNames", name := "mid", desc := "(I)I" } : Jvm.MethodName)) ∈ xTB := xTB_of 763 (by decide +kernel) rfl
theorem hw_764 : (Jvm.Cond.code ({ cls := "ShadeNames", name := "mid", desc := "(I)I" } : Jvm.MethodName) prog_1_method_39_code (4 : Nat) (Option.some Jvm.ClassFile.FieldType.int)) ∈ xTB := xTB_of 764 (by decide +kernel) rfl
theorem hw_765 : (Jvm.Cond.methodLink "ShadeNamesLaw" (171 : Nat) ({ cls := "ShadeNames", name := "lots", desc := "(III)I" } : Jvm.MethodName)) ∈ xTB := xTB_of 765 (by decide +kernel) rfl
theorem hw_766 : (Jvm.Cond.instanceMethod ({ cls := "ShadeNames", name := "lots", desc := "(III)I" } : Jvm.MethodName)) ∈ xTB := xTB_of 766 (by decide +kernel) rfl
theorem hw_767 : (Jvm.Cond.selects "ShadeNames" ({ cls := "ShadeNames", name := "lots", desc := "(III)I" } : Jvm.MethodName) ({ cls := "ShadeNames", name := "lots", desc := "(III)I" } : Jvm.MethodName)) ∈ xTB := xTB_of 767 (by decide +kernel) rfl
theorem hw_768 : (Jvm.Cond.code ({ cls := "ShadeNames", name := "lots", desc := "(III)I" } : Jvm.MethodName) prog_1_method_40_code (8 : Nat) (Option.some Jvm.ClassFile.FieldType.int)) ∈ xTB := xTB_of 768 (by decide +kernel) rfl
theorem hw_769 : (Jvm.Cond.constantLong "ShadeNames" (280 : Nat) (2147483647 : Int64)) ∈ xTB := xTB_of 769 (by decide +kernel) rfl
theorem hw_770 : (Jvm.Cond.constantLong "ShadeNames" (282 : Nat) (48271 : Int64)) ∈ xTB := xTB_of 770 (by decide +kernel) rfl
theorem hw_771 : (Jvm.Cond.constantLong "ShadeNames" (284 : Nat) (8 : Int64)) ∈ xTB := xTB_of 771 (by decide +kernel) rfl
theorem hw_772 : (Jvm.Cond.methodLink "ShadeNamesLaw" (175 : Nat) ({ cls := "ShadeNames", name := "asked", desc := "()I" } : Jvm.MethodName)) ∈ xTB := xTB_of 772 (by decide +kernel) rfl
theorem hw_773 : (Jvm.Cond.instanceMethod ({ cls := "ShadeNames", name := "asked", desc := "()I" } : Jvm.MethodName)) ∈ xTB := xTB_of 773 (by decide +kernel) rfl
theorem hw_774 : (Jvm.Cond.selects "ShadeNames" ({ cls := "ShadeNames", name := "asked", desc := "()I" } : Jvm.MethodName) ({ cls := "ShadeNames", name := "asked", desc := "()I" } : Jvm.MethodName)) ∈ xTB := xTB_of 774 (by decide +kernel) rfl
theorem hw_775 : (Jvm.Cond.code ({ cls := "ShadeNames", name := "asked", desc := "()I" } : Jvm.MethodName) prog_1_method_41_code (1 : Nat) (Option.some Jvm.ClassFile.FieldType.int)) ∈ xTB := xTB_of 775 (by decide +kernel) rfl
theorem hw_776 : (Jvm.Cond.methodLink "ShadeNamesLaw" (179 : Nat) ({ cls := "ShadeNames", name := "upper", desc := "()J" } : Jvm.MethodName)) ∈ xTB := xTB_of 776 (by decide +kernel) rfl
theorem hw_777 : (Jvm.Cond.instanceMethod ({ cls := "ShadeNames", name := "upper", desc := "()J" } : Jvm.MethodName)) ∈ xTB := xTB_of 777 (by decide +kernel) rfl
theorem hw_778 : (Jvm.Cond.selects "ShadeNames" ({ cls := "ShadeNames", name := "upper", desc := "()J" } : Jvm.MethodName) ({ cls := "ShadeNames", name := "upper", desc := "()J" } : Jvm.MethodName)) ∈ xTB := xTB_of 778 (by decide +kernel) rfl
theorem hw_779 : (Jvm.Cond.code ({ cls := "ShadeNames", name := "upper", desc := "()J" } : Jvm.MethodName) prog_1_method_42_code (1 : Nat) (Option.some Jvm.ClassFile.FieldType.long)) ∈ xTB := xTB_of 779 (by decide +kernel) rfl
theorem hw_780 : (Jvm.Cond.methodLink "ShadeNamesLaw" (184 : Nat) ({ cls := "ShadeNames", name := "lower", desc := "()J" } : Jvm.MethodName)) ∈ xTB := xTB_of 780 (by decide +kernel) rfl
theorem hw_781 : (Jvm.Cond.instanceMethod ({ cls := "ShadeNames", name := "lower", desc := "()J" } : Jvm.MethodName)) ∈ xTB := xTB_of 781 (by decide +kernel) rfl
theorem hw_782 : (Jvm.Cond.selects "ShadeNames" ({ cls := "ShadeNames", name := "lower", desc := "()J" } : Jvm.MethodName) ({ cls := "ShadeNames", name := "lower", desc := "()J" } : Jvm.MethodName)) ∈ xTB := xTB_of 782 (by decide +kernel) rfl
theorem hw_783 : (Jvm.Cond.code ({ cls := "ShadeNames", name := "lower", desc := "()J" } : Jvm.MethodName) prog_1_method_43_code (1 : Nat) (Option.some Jvm.ClassFile.FieldType.long)) ∈ xTB := xTB_of 783 (by decide +kernel) rfl
theorem hw_784 : (Jvm.Cond.methodLink "ShadeNamesLaw" (188 : Nat) ({ cls := "ShadeNames", name := "count", desc := "(I)I" } : Jvm.MethodName)) ∈ xTB := xTB_of 784 (by decide +kernel) rfl
theorem hw_785 : (Jvm.Cond.instanceMethod ({ cls := "ShadeNames", name := "count", desc := "(I)I" } : Jvm.MethodName)) ∈ xTB := xTB_of 785 (by decide +kernel) rfl
theorem hw_786 : (Jvm.Cond.selects "ShadeNames" ({ cls := "ShadeNames", name := "count", desc := "(I)I" } : Jvm.MethodName) ({ cls := "ShadeNames", name := "count", desc := "(I)I" } : Jvm.MethodName)) ∈ xTB := xTB_of 786 (by decide +kernel) rfl
theorem hw_787 : (Jvm.Cond.code ({ cls := "ShadeNames", name := "count", desc := "(I)I" } : Jvm.MethodName) prog_1_method_44_code (2 : Nat) (Option.some Jvm.ClassFile.FieldType.int)) ∈ xTB := xTB_of 787 (by decide +kernel) rfl
theorem hw_788 : (Jvm.Cond.methodLink "ShadeNames" (289 : Nat) ({ cls := "ShadeNames$Registry", name := "countFading", desc := "()I" } : Jvm.MethodName)) ∈ xTB := xTB_of 788 (by decide +kernel) rfl
theorem hw_789 : (Jvm.Cond.instanceMethod ({ cls := "ShadeNames$Registry", name := "countFading", desc := "()I" } : Jvm.MethodName)) ∈ xTB := xTB_of 789 (by decide +kernel) rfl
theorem hw_790 : (Jvm.Cond.selects "ShadeNames$Registry" ({ cls := "ShadeNames$Registry", name := "countFading", desc := "()I" } : Jvm.MethodName) ({ cls := "ShadeNames$Registry", name := "countFading", desc := "()I" } : Jvm.MethodName)) ∈ xTB := xTB_of 790 (by decide +kernel) rfl
theorem hw_791 : (Jvm.Cond.code ({ cls := "ShadeNames$Registry", name := "countFading", desc := "()I" } : Jvm.MethodName) prog_6_method_21_code (3 : Nat) (Option.some Jvm.ClassFile.FieldType.int)) ∈ xTB := xTB_of 791 (by decide +kernel) rfl
theorem hw_792 : (Jvm.Cond.methodLink "ShadeNames" (292 : Nat) ({ cls := "ShadeNames$Registry", name := "sumOfDues", desc := "()I" } : Jvm.MethodName)) ∈ xTB := xTB_of 792 (by decide +kernel) rfl
theorem hw_793 : (Jvm.Cond.instanceMethod ({ cls := "ShadeNames$Registry", name := "sumOfDues", desc := "()I" } : Jvm.MethodName)) ∈ xTB := xTB_of 793 (by decide +kernel) rfl
theorem hw_794 : (Jvm.Cond.selects "ShadeNames$Registry" ({ cls := "ShadeNames$Registry", name := "sumOfDues", desc := "()I" } : Jvm.MethodName) ({ cls := "ShadeNames$Registry", name := "sumOfDues", desc := "()I" } : Jvm.MethodName)) ∈ xTB := xTB_of 794 (by decide +kernel) rfl
theorem hw_795 : (Jvm.Cond.code ({ cls := "ShadeNames$Registry", name := "sumOfDues", desc := "()I" } : Jvm.MethodName) prog_6_method_22_code (3 : Nat) (Option.some Jvm.ClassFile.FieldType.int)) ∈ xTB := xTB_of 795 (by decide +kernel) rfl
theorem hw_796 : (Jvm.Cond.methodLink "ShadeNames" (295 : Nat) ({ cls := "ShadeNames$Registry", name := "countOfKind", desc := "(I)I" } : Jvm.MethodName)) ∈ xTB := xTB_of 796 (by decide +kernel) rfl
theorem hw_797 : (Jvm.Cond.instanceMethod ({ cls := "ShadeNames$Registry", name := "countOfKind", desc := "(I)I" } : Jvm.MethodName)) ∈ xTB := xTB_of 797 (by decide +kernel) rfl
theorem hw_798 : (Jvm.Cond.selects "ShadeNames$Registry" ({ cls := "ShadeNames$Registry", name := "countOfKind", desc := "(I)I" } : Jvm.MethodName) ({ cls := "ShadeNames$Registry", name := "countOfKind", desc := "(I)I" } : Jvm.MethodName)) ∈ xTB := xTB_of 798 (by decide +kernel) rfl
theorem hw_799 : (Jvm.Cond.code ({ cls := "ShadeNames$Registry", name := "countOfKind", desc := "(I)I" } : Jvm.MethodName) prog_6_method_23_code (4 : Nat) (Option.some Jvm.ClassFile.FieldType.int)) ∈ xTB := xTB_of 799 (by decide +kernel) rfl
theorem hw_800 : (Jvm.Cond.methodLink "ShadeNames$Registry" (93 : Nat) ({ cls := "ShadeNames$Kind", name := "isOf", desc := "(II)Z" } : Jvm.MethodName)) ∈ xTB := xTB_of 800 (by decide +kernel) rfl
theorem hw_801 : (Jvm.Cond.methodLink "ShadeNames" (298 : Nat) ({ cls := "ShadeNames", name := "countRows", desc := "()I" } : Jvm.MethodName)) ∈ xTB := xTB_of 801 (by decide +kernel) rfl
theorem hw_803 : (Jvm.Cond.instanceMethod ({ cls := "ShadeNames", name := "countRows", desc := "()I" } : Jvm.MethodName)) ∈ xTB := xTB_of 803 (by decide +kernel) rfl
theorem hw_804 : (Jvm.Cond.code ({ cls := "ShadeNames", name := "countRows", desc := "()I" } : Jvm.MethodName) prog_1_method_65_code (3 : Nat) (Option.some Jvm.ClassFile.FieldType.int)) ∈ xTB := xTB_of 804 (by decide +kernel) rfl
theorem hw_805 : (Jvm.Cond.methodLink "ShadeNames" (301 : Nat) ({ cls := "ShadeNames", name := "countTexts", desc := "()I" } : Jvm.MethodName)) ∈ xTB := xTB_of 805 (by decide +kernel) rfl
theorem hw_807 : (Jvm.Cond.instanceMethod ({ cls := "ShadeNames", name := "countTexts", desc := "()I" } : Jvm.MethodName)) ∈ xTB := xTB_of 807 (by decide +kernel) rfl
theorem hw_808 : (Jvm.Cond.code ({ cls := "ShadeNames", name := "countTexts", desc := "()I" } : Jvm.MethodName) prog_1_method_66_code (3 : Nat) (Option.some Jvm.ClassFile.FieldType.int)) ∈ xTB := xTB_of 808 (by decide +kernel) rfl
theorem hw_809 : (Jvm.Cond.methodLink "ShadeNames" (304 : Nat) ({ cls := "ShadeNames", name := "countKept", desc := "()I" } : Jvm.MethodName)) ∈ xTB := xTB_of 809 (by decide +kernel) rfl
theorem hw_811 : (Jvm.Cond.instanceMethod ({ cls := "ShadeNames", name := "countKept", desc := "()I" } : Jvm.MethodName)) ∈ xTB := xTB_of 811 (by decide +kernel) rfl
theorem hw_812 : (Jvm.Cond.code ({ cls := "ShadeNames", name := "countKept", desc := "()I" } : Jvm.MethodName) prog_1_method_67_code (3 : Nat) (Option.some Jvm.ClassFile.FieldType.int)) ∈ xTB := xTB_of 812 (by decide +kernel) rfl
theorem hw_813 : (Jvm.Cond.methodLink "ShadeNamesLaw" (192 : Nat) ({ cls := "ShadeNames", name := "finding", desc := "()I" } : Jvm.MethodName)) ∈ xTB := xTB_of 813 (by decide +kernel) rfl
theorem hw_814 : (Jvm.Cond.instanceMethod ({ cls := "ShadeNames", name := "finding", desc := "()I" } : Jvm.MethodName)) ∈ xTB := xTB_of 814 (by decide +kernel) rfl
theorem hw_815 : (Jvm.Cond.selects "ShadeNames" ({ cls := "ShadeNames", name := "finding", desc := "()I" } : Jvm.MethodName) ({ cls := "ShadeNames", name := "finding", desc := "()I" } : Jvm.MethodName)) ∈ xTB := xTB_of 815 (by decide +kernel) rfl
theorem hw_816 : (Jvm.Cond.code ({ cls := "ShadeNames", name := "finding", desc := "()I" } : Jvm.MethodName) prog_1_method_45_code (1 : Nat) (Option.some Jvm.ClassFile.FieldType.int)) ∈ xTB := xTB_of 816 (by decide +kernel) rfl
theorem hw_817 : (Jvm.Cond.methodLink "ShadeNamesLaw" (196 : Nat) ({ cls := "ShadeNames", name := "findings", desc := "(I)I" } : Jvm.MethodName)) ∈ xTB := xTB_of 817 (by decide +kernel) rfl
theorem hw_818 : (Jvm.Cond.instanceMethod ({ cls := "ShadeNames", name := "findings", desc := "(I)I" } : Jvm.MethodName)) ∈ xTB := xTB_of 818 (by decide +kernel) rfl
theorem hw_819 : (Jvm.Cond.selects "ShadeNames" ({ cls := "ShadeNames", name := "findings", desc := "(I)I" } : Jvm.MethodName) ({ cls := "ShadeNames", name := "findings", desc := "(I)I" } : Jvm.MethodName)) ∈ xTB := xTB_of 819 (by decide +kernel) rfl
theorem hw_820 : (Jvm.Cond.code ({ cls := "ShadeNames", name := "findings", desc := "(I)I" } : Jvm.MethodName) prog_1_method_46_code (2 : Nat) (Option.some Jvm.ClassFile.FieldType.int)) ∈ xTB := xTB_of 820 (by decide +kernel) rfl
theorem hw_821 : (Jvm.Cond.methodLink "ShadeNamesLaw" (200 : Nat) ({ cls := "ShadeNames", name := "digest", desc := "()J" } : Jvm.MethodName)) ∈ xTB := xTB_of 821 (by decide +kernel) rfl
theorem hw_822 : (Jvm.Cond.instanceMethod ({ cls := "ShadeNames", name := "digest", desc := "()J" } : Jvm.MethodName)) ∈ xTB := xTB_of 822 (by decide +kernel) rfl
theorem hw_823 : (Jvm.Cond.selects "ShadeNames" ({ cls := "ShadeNames", name := "digest", desc := "()J" } : Jvm.MethodName) ({ cls := "ShadeNames", name := "digest", desc := "()J" } : Jvm.MethodName)) ∈ xTB := xTB_of 823 (by decide +kernel) rfl
theorem hw_824 : (Jvm.Cond.code ({ cls := "ShadeNames", name := "digest", desc := "()J" } : Jvm.MethodName) prog_1_method_47_code (5 : Nat) (Option.some Jvm.ClassFile.FieldType.long)) ∈ xTB := xTB_of 824 (by decide +kernel) rfl
theorem hw_825 : (Jvm.Cond.constantLong "ShadeNames" (310 : Nat) (17 : Int64)) ∈ xTB := xTB_of 825 (by decide +kernel) rfl
theorem hw_826 : (Jvm.Cond.constantLong "ShadeNames" (312 : Nat) (31 : Int64)) ∈ xTB := xTB_of 826 (by decide +kernel) rfl
theorem hw_827 : (Jvm.Cond.methodLink "ShadeNames" (314 : Nat) ({ cls := "ShadeNames", name := "count", desc := "(I)I" } : Jvm.MethodName)) ∈ xTB := xTB_of 827 (by decide +kernel) rfl
theorem hw_828 : (Jvm.Cond.methodLink "ShadeNames" (317 : Nat) ({ cls := "ShadeNames$Row", name := "digestOnto", desc := "(J)J" } : Jvm.MethodName)) ∈ xTB := xTB_of 828 (by decide +kernel) rfl
theorem hw_829 : (Jvm.Cond.instanceMethod ({ cls := "ShadeNames$Row", name := "digestOnto", desc := "(J)J" } : Jvm.MethodName)) ∈ xTB := xTB_of 829 (by decide +kernel) rfl
theorem hw_830 : (Jvm.Cond.selects "ShadeNames$Row" ({ cls := "ShadeNames$Row", name := "digestOnto", desc := "(J)J" } : Jvm.MethodName) ({ cls := "ShadeNames$Row", name := "digestOnto", desc := "(J)J" } : Jvm.MethodName)) ∈ xTB := xTB_of 830 (by decide +kernel) rfl
theorem hw_831 : (Jvm.Cond.code ({ cls := "ShadeNames$Row", name := "digestOnto", desc := "(J)J" } : Jvm.MethodName) prog_7_method_8_code (4 : Nat) (Option.some Jvm.ClassFile.FieldType.long)) ∈ xTB := xTB_of 831 (by decide +kernel) rfl
theorem hw_832 : (Jvm.Cond.constantLong "ShadeNames$Row" (23 : Nat) (31 : Int64)) ∈ xTB := xTB_of 832 (by decide +kernel) rfl
theorem hw_833 : (Jvm.Cond.methodLink "ShadeNames" (321 : Nat) ({ cls := "ShadeNames$Text", name := "digestOnto", desc := "(J)J" } : Jvm.MethodName)) ∈ xTB := xTB_of 833 (by decide +kernel) rfl
theorem hw_834 : (Jvm.Cond.instanceMethod ({ cls := "ShadeNames$Text", name := "digestOnto", desc := "(J)J" } : Jvm.MethodName)) ∈ xTB := xTB_of 834 (by decide +kernel) rfl
theorem hw_835 : (Jvm.Cond.selects "ShadeNames$Text" ({ cls := "ShadeNames$Text", name := "digestOnto", desc := "(J)J" } : Jvm.MethodName) ({ cls := "ShadeNames$Text", name := "digestOnto", desc := "(J)J" } : Jvm.MethodName)) ∈ xTB := xTB_of 835 (by decide +kernel) rfl
theorem hw_836 : (Jvm.Cond.code ({ cls := "ShadeNames$Text", name := "digestOnto", desc := "(J)J" } : Jvm.MethodName) prog_9_method_10_code (4 : Nat) (Option.some Jvm.ClassFile.FieldType.long)) ∈ xTB := xTB_of 836 (by decide +kernel) rfl
theorem hw_837 : (Jvm.Cond.constantLong "ShadeNames$Text" (83 : Nat) (31 : Int64)) ∈ xTB := xTB_of 837 (by decide +kernel) rfl
theorem hw_838 : (Jvm.Cond.classLink "ShadeNamesLaw" (10 : Nat) "ShadeNamesModel") ∈ xTB := xTB_of 838 (by decide +kernel) rfl
theorem hw_839 : (Jvm.Cond.instantiable "ShadeNamesModel" (21 : Nat)) ∈ xTB := xTB_of 839 (by decide +kernel) rfl
theorem hw_840 : (Jvm.Cond.methodLink "ShadeNamesLaw" (12 : Nat) ({ cls := "ShadeNamesModel", name := "<init>", desc := "()V" } : Jvm.MethodName)) ∈ xTB := xTB_of 840 (by decide +kernel) rfl
theorem hw_841 : (Jvm.Cond.instanceMethod ({ cls := "ShadeNamesModel", name := "<init>", desc := "()V" } : Jvm.MethodName)) ∈ xTB := xTB_of 841 (by decide +kernel) rfl
theorem hw_842 : (Jvm.Cond.code ({ cls := "ShadeNamesModel", name := "<init>", desc := "()V" } : Jvm.MethodName) prog_11_method_1_code (2 : Nat) (Option.none : Option Jvm.ClassFile.FieldType)) ∈ xTB := xTB_of 842 (by decide +kernel) rfl
theorem hw_843 : (Jvm.Cond.methodLink "ShadeNamesModel" (1 : Nat) ({ cls := "java/lang/Object", name := "<init>", desc := "()V" } : Jvm.MethodName)) ∈ xTB := xTB_of 843 (by decide +kernel) rfl
theorem hw_844 : (Jvm.Cond.fieldLink "ShadeNamesModel" (7 : Nat) "ShadeNamesModel" "row" "[I") ∈ xTB := xTB_of 844 (by decide +kernel) rfl
theorem hw_845 : (Jvm.Cond.fieldLink "ShadeNamesModel" (13 : Nat) "ShadeNamesModel" "sizes" "[I") ∈ xTB := xTB_of 845 (by decide +kernel) rfl
theorem hw_846 : (Jvm.Cond.fieldLink "ShadeNamesModel" (16 : Nat) "ShadeNamesModel" "items" "[I") ∈ xTB := xTB_of 846 (by decide +kernel) rfl
theorem hw_847 : (Jvm.Cond.fieldLink "ShadeNamesModel" (19 : Nat) "ShadeNamesModel" "lengths" "[I") ∈ xTB := xTB_of 847 (by decide +kernel) rfl
theorem hw_848 : (Jvm.Cond.fieldLink "ShadeNamesModel" (22 : Nat) "ShadeNamesModel" "bytes" "[I") ∈ xTB := xTB_of 848 (by decide +kernel) rfl
theorem hw_849 : (Jvm.Cond.fieldLink "ShadeNamesModel" (55 : Nat) "ShadeNamesModel" "asked" "I") ∈ xTB := xTB_of 849 (by decide +kernel) rfl
theorem hw_850 : (Jvm.Cond.fieldLink "ShadeNamesModel" (262 : Nat) "ShadeNamesModel" "upper" "J") ∈ xTB := xTB_of 850 (by decide +kernel) rfl
theorem hw_851 : (Jvm.Cond.fieldLink "ShadeNamesModel" (25 : Nat) "ShadeNamesModel" "lower" "J") ∈ xTB := xTB_of 851 (by decide +kernel) rfl
theorem hw_852 : (Jvm.Cond.fieldLink "ShadeNamesModel" (51 : Nat) "ShadeNamesModel" "finding" "I") ∈ xTB := xTB_of 852 (by decide +kernel) rfl
theorem hw_853 : (Jvm.Cond.fieldLink "ShadeNamesModel" (29 : Nat) "ShadeNamesModel" "findings" "[I") ∈ xTB := xTB_of 853 (by decide +kernel) rfl
theorem hw_854 : (Jvm.Cond.fieldLink "ShadeNamesModel" (92 : Nat) "ShadeNamesModel" "from" "I") ∈ xTB := xTB_of 854 (by decide +kernel) rfl
theorem hw_855 : (Jvm.Cond.fieldLink "ShadeNamesModel" (95 : Nat) "ShadeNamesModel" "place" "I") ∈ xTB := xTB_of 855 (by decide +kernel) rfl
theorem hw_856 : (Jvm.Cond.fieldLink "ShadeNamesModel" (98 : Nat) "ShadeNamesModel" "end" "I") ∈ xTB := xTB_of 856 (by decide +kernel) rfl
theorem hw_857 : (Jvm.Cond.fieldLink "ShadeNamesModel" (32 : Nat) "ShadeNamesModel" "readNames" "[I") ∈ xTB := xTB_of 857 (by decide +kernel) rfl
theorem hw_858 : (Jvm.Cond.fieldLink "ShadeNamesModel" (110 : Nat) "ShadeNamesModel" "readMany" "I") ∈ xTB := xTB_of 858 (by decide +kernel) rfl
theorem hw_859 : (Jvm.Cond.fieldLink "ShadeNamesModel" (131 : Nat) "ShadeNamesModel" "years" "I") ∈ xTB := xTB_of 859 (by decide +kernel) rfl
theorem hw_860 : (Jvm.Cond.fieldLink "ShadeNamesModel" (35 : Nat) "ShadeNamesModel" "free" "[Z") ∈ xTB := xTB_of 860 (by decide +kernel) rfl
theorem hw_861 : (Jvm.Cond.fieldLink "ShadeNamesModel" (39 : Nat) "ShadeNamesModel" "fewest" "[I") ∈ xTB := xTB_of 861 (by decide +kernel) rfl
theorem hw_862 : (Jvm.Cond.fieldLink "ShadeNamesModel" (42 : Nat) "ShadeNamesModel" "there" "[I") ∈ xTB := xTB_of 862 (by decide +kernel) rfl
theorem hw_863 : (Jvm.Cond.fieldLink "ShadeNamesModel" (45 : Nat) "ShadeNamesModel" "soonest" "[I") ∈ xTB := xTB_of 863 (by decide +kernel) rfl
theorem hw_864 : (Jvm.Cond.fieldLink "ShadeNamesModel" (48 : Nat) "ShadeNamesModel" "owners" "[I") ∈ xTB := xTB_of 864 (by decide +kernel) rfl
theorem hw_908 : (Jvm.Cond.methodLink "ShadeNamesLaw" (17 : Nat) ({ cls := "ShadeNamesModel", name := "row", desc := "(II)I" } : Jvm.MethodName)) ∈ xTB := xTB_of 908 (by decide +kernel) rfl
theorem hw_909 : (Jvm.Cond.instanceMethod ({ cls := "ShadeNamesModel", name := "row", desc := "(II)I" } : Jvm.MethodName)) ∈ xTB := xTB_of 909 (by decide +kernel) rfl
theorem hw_910 : (Jvm.Cond.selects "ShadeNamesModel" ({ cls := "ShadeNamesModel", name := "row", desc := "(II)I" } : Jvm.MethodName) ({ cls := "ShadeNamesModel", name := "row", desc := "(II)I" } : Jvm.MethodName)) ∈ xTB := xTB_of 910 (by decide +kernel) rfl
theorem hw_911 : (Jvm.Cond.code ({ cls := "ShadeNamesModel", name := "row", desc := "(II)I" } : Jvm.MethodName) prog_11_method_9_code (3 : Nat) (Option.some Jvm.ClassFile.FieldType.int)) ∈ xTB := xTB_of 911 (by decide +kernel) rfl
theorem hw_912 : (Jvm.Cond.methodLink "ShadeNamesModel" (66 : Nat) ({ cls := "ShadeNamesModel", name := "isRow", desc := "(I)Z" } : Jvm.MethodName)) ∈ xTB := xTB_of 912 (by decide +kernel) rfl
theorem hw_913 : (Jvm.Cond.static ({ cls := "ShadeNamesModel", name := "isRow", desc := "(I)Z" } : Jvm.MethodName)) ∈ xTB := xTB_of 913 (by decide +kernel) rfl
theorem hw_914 : (Jvm.Cond.code ({ cls := "ShadeNamesModel", name := "isRow", desc := "(I)Z" } : Jvm.MethodName) prog_11_method_7_code (1 : Nat) (Option.some Jvm.ClassFile.FieldType.boolean)) ∈ xTB := xTB_of 914 (by decide +kernel) rfl
theorem hw_915 : (Jvm.Cond.constantLong "ShadeNamesModel" (58 : Nat) (5 : Int64)) ∈ xTB := xTB_of 915 (by decide +kernel) rfl
theorem hw_916 : (Jvm.Cond.methodLink "ShadeNamesModel" (60 : Nat) ({ cls := "ShadeNamesModel", name := "in", desc := "(JJJ)Z" } : Jvm.MethodName)) ∈ xTB := xTB_of 916 (by decide +kernel) rfl
theorem hw_917 : (Jvm.Cond.static ({ cls := "ShadeNamesModel", name := "in", desc := "(JJJ)Z" } : Jvm.MethodName)) ∈ xTB := xTB_of 917 (by decide +kernel) rfl
theorem hw_918 : (Jvm.Cond.code ({ cls := "ShadeNamesModel", name := "in", desc := "(JJJ)Z" } : Jvm.MethodName) prog_11_method_3_code (6 : Nat) (Option.some Jvm.ClassFile.FieldType.boolean)) ∈ xTB := xTB_of 918 (by decide +kernel) rfl
theorem hw_919 : (Jvm.Cond.methodLink "ShadeNamesModel" (70 : Nat) ({ cls := "ShadeNamesModel", name := "find", desc := "(I)I" } : Jvm.MethodName)) ∈ xTB := xTB_of 919 (by decide +kernel) rfl
theorem hw_921 : (Jvm.Cond.instanceMethod ({ cls := "ShadeNamesModel", name := "find", desc := "(I)I" } : Jvm.MethodName)) ∈ xTB := xTB_of 921 (by decide +kernel) rfl
theorem hw_922 : (Jvm.Cond.code ({ cls := "ShadeNamesModel", name := "find", desc := "(I)I" } : Jvm.MethodName) prog_11_method_5_code (2 : Nat) (Option.some Jvm.ClassFile.FieldType.int)) ∈ xTB := xTB_of 922 (by decide +kernel) rfl
theorem hw_923 : (Jvm.Cond.methodLink "ShadeNamesModel" (74 : Nat) ({ cls := "ShadeNamesModel", name := "makeRow", desc := "(II)V" } : Jvm.MethodName)) ∈ xTB := xTB_of 923 (by decide +kernel) rfl
theorem hw_925 : (Jvm.Cond.instanceMethod ({ cls := "ShadeNamesModel", name := "makeRow", desc := "(II)V" } : Jvm.MethodName)) ∈ xTB := xTB_of 925 (by decide +kernel) rfl
theorem hw_926 : (Jvm.Cond.code ({ cls := "ShadeNamesModel", name := "makeRow", desc := "(II)V" } : Jvm.MethodName) prog_11_method_10_code (4 : Nat) (Option.none : Option Jvm.ClassFile.FieldType)) ∈ xTB := xTB_of 926 (by decide +kernel) rfl
theorem hw_927 : (Jvm.Cond.methodLink "ShadeNamesLaw" (22 : Nat) ({ cls := "ShadeNamesModel", name := "lay", desc := "(III)I" } : Jvm.MethodName)) ∈ xTB := xTB_of 927 (by decide +kernel) rfl
theorem hw_928 : (Jvm.Cond.instanceMethod ({ cls := "ShadeNamesModel", name := "lay", desc := "(III)I" } : Jvm.MethodName)) ∈ xTB := xTB_of 928 (by decide +kernel) rfl
theorem hw_929 : (Jvm.Cond.selects "ShadeNamesModel" ({ cls := "ShadeNamesModel", name := "lay", desc := "(III)I" } : Jvm.MethodName) ({ cls := "ShadeNamesModel", name := "lay", desc := "(III)I" } : Jvm.MethodName)) ∈ xTB := xTB_of 929 (by decide +kernel) rfl
theorem hw_930 : (Jvm.Cond.code ({ cls := "ShadeNamesModel", name := "lay", desc := "(III)I" } : Jvm.MethodName) prog_11_method_12_code (6 : Nat) (Option.some Jvm.ClassFile.FieldType.int)) ∈ xTB := xTB_of 930 (by decide +kernel) rfl
theorem hw_931 : (Jvm.Cond.methodLink "ShadeNamesModel" (78 : Nat) ({ cls := "ShadeNamesModel", name := "refused", desc := "(II)I" } : Jvm.MethodName)) ∈ xTB := xTB_of 931 (by decide +kernel) rfl
theorem hw_933 : (Jvm.Cond.instanceMethod ({ cls := "ShadeNamesModel", name := "refused", desc := "(II)I" } : Jvm.MethodName)) ∈ xTB := xTB_of 933 (by decide +kernel) rfl
theorem hw_934 : (Jvm.Cond.code ({ cls := "ShadeNamesModel", name := "refused", desc := "(II)I" } : Jvm.MethodName) prog_11_method_11_code (3 : Nat) (Option.some Jvm.ClassFile.FieldType.int)) ∈ xTB := xTB_of 934 (by decide +kernel) rfl
theorem hw_935 : (Jvm.Cond.methodLink "ShadeNamesModel" (82 : Nat) ({ cls := "ShadeNamesModel", name := "tell", desc := "(I)I" } : Jvm.MethodName)) ∈ xTB := xTB_of 935 (by decide +kernel) rfl
theorem hw_937 : (Jvm.Cond.instanceMethod ({ cls := "ShadeNamesModel", name := "tell", desc := "(I)I" } : Jvm.MethodName)) ∈ xTB := xTB_of 937 (by decide +kernel) rfl
theorem hw_938 : (Jvm.Cond.code ({ cls := "ShadeNamesModel", name := "tell", desc := "(I)I" } : Jvm.MethodName) prog_11_method_6_code (2 : Nat) (Option.some Jvm.ClassFile.FieldType.int)) ∈ xTB := xTB_of 938 (by decide +kernel) rfl
theorem hw_939 : (Jvm.Cond.methodLink "ShadeNamesLaw" (26 : Nat) ({ cls := "ShadeNamesModel", name := "at", desc := "(II)I" } : Jvm.MethodName)) ∈ xTB := xTB_of 939 (by decide +kernel) rfl
theorem hw_940 : (Jvm.Cond.instanceMethod ({ cls := "ShadeNamesModel", name := "at", desc := "(II)I" } : Jvm.MethodName)) ∈ xTB := xTB_of 940 (by decide +kernel) rfl
theorem hw_941 : (Jvm.Cond.selects "ShadeNamesModel" ({ cls := "ShadeNamesModel", name := "at", desc := "(II)I" } : Jvm.MethodName) ({ cls := "ShadeNamesModel", name := "at", desc := "(II)I" } : Jvm.MethodName)) ∈ xTB := xTB_of 941 (by decide +kernel) rfl
theorem hw_942 : (Jvm.Cond.code ({ cls := "ShadeNamesModel", name := "at", desc := "(II)I" } : Jvm.MethodName) prog_11_method_13_code (4 : Nat) (Option.some Jvm.ClassFile.FieldType.int)) ∈ xTB := xTB_of 942 (by decide +kernel) rfl
theorem hw_943 : (Jvm.Cond.methodLink "ShadeNamesLaw" (31 : Nat) ({ cls := "ShadeNamesModel", name := "tear", desc := "(I)I" } : Jvm.MethodName)) ∈ xTB := xTB_of 943 (by decide +kernel) rfl
theorem hw_944 : (Jvm.Cond.instanceMethod ({ cls := "ShadeNamesModel", name := "tear", desc := "(I)I" } : Jvm.MethodName)) ∈ xTB := xTB_of 944 (by decide +kernel) rfl
theorem hw_945 : (Jvm.Cond.selects "ShadeNamesModel" ({ cls := "ShadeNamesModel", name := "tear", desc := "(I)I" } : Jvm.MethodName) ({ cls := "ShadeNamesModel", name := "tear", desc := "(I)I" } : Jvm.MethodName)) ∈ xTB := xTB_of 945 (by decide +kernel) rfl
theorem hw_946 : (Jvm.Cond.code ({ cls := "ShadeNamesModel", name := "tear", desc := "(I)I" } : Jvm.MethodName) prog_11_method_14_code (2 : Nat) (Option.some Jvm.ClassFile.FieldType.int)) ∈ xTB := xTB_of 946 (by decide +kernel) rfl
theorem hw_947 : (Jvm.Cond.methodLink "ShadeNamesLaw" (36 : Nat) ({ cls := "ShadeNamesModel", name := "copy", desc := "(IIIII)I" } : Jvm.MethodName)) ∈ xTB := xTB_of 947 (by decide +kernel) rfl
theorem hw_948 : (Jvm.Cond.instanceMethod ({ cls := "ShadeNamesModel", name := "copy", desc := "(IIIII)I" } : Jvm.MethodName)) ∈ xTB := xTB_of 948 (by decide +kernel) rfl
theorem hw_949 : (Jvm.Cond.selects "ShadeNamesModel" ({ cls := "ShadeNamesModel", name := "copy", desc := "(IIIII)I" } : Jvm.MethodName) ({ cls := "ShadeNamesModel", name := "copy", desc := "(IIIII)I" } : Jvm.MethodName)) ∈ xTB := xTB_of 949 (by decide +kernel) rfl
theorem hw_950 : (Jvm.Cond.code ({ cls := "ShadeNamesModel", name := "copy", desc := "(IIIII)I" } : Jvm.MethodName) prog_11_method_16_code (9 : Nat) (Option.some Jvm.ClassFile.FieldType.int)) ∈ xTB := xTB_of 950 (by decide +kernel) rfl
theorem hw_951 : (Jvm.Cond.methodLink "ShadeNamesModel" (85 : Nat) ({ cls := "ShadeNamesModel", name := "isSpan", desc := "(III)Z" } : Jvm.MethodName)) ∈ xTB := xTB_of 951 (by decide +kernel) rfl
theorem hw_953 : (Jvm.Cond.instanceMethod ({ cls := "ShadeNamesModel", name := "isSpan", desc := "(III)Z" } : Jvm.MethodName)) ∈ xTB := xTB_of 953 (by decide +kernel) rfl
theorem hw_954 : (Jvm.Cond.code ({ cls := "ShadeNamesModel", name := "isSpan", desc := "(III)Z" } : Jvm.MethodName) prog_11_method_15_code (4 : Nat) (Option.some Jvm.ClassFile.FieldType.boolean)) ∈ xTB := xTB_of 954 (by decide +kernel) rfl
theorem hw_955 : (Jvm.Cond.methodLink "ShadeNamesLaw" (40 : Nat) ({ cls := "ShadeNamesModel", name := "mean", desc := "(I)I" } : Jvm.MethodName)) ∈ xTB := xTB_of 955 (by decide +kernel) rfl
theorem hw_956 : (Jvm.Cond.instanceMethod ({ cls := "ShadeNamesModel", name := "mean", desc := "(I)I" } : Jvm.MethodName)) ∈ xTB := xTB_of 956 (by decide +kernel) rfl
theorem hw_957 : (Jvm.Cond.selects "ShadeNamesModel" ({ cls := "ShadeNamesModel", name := "mean", desc := "(I)I" } : Jvm.MethodName) ({ cls := "ShadeNamesModel", name := "mean", desc := "(I)I" } : Jvm.MethodName)) ∈ xTB := xTB_of 957 (by decide +kernel) rfl
theorem hw_958 : (Jvm.Cond.code ({ cls := "ShadeNamesModel", name := "mean", desc := "(I)I" } : Jvm.MethodName) prog_11_method_17_code (5 : Nat) (Option.some Jvm.ClassFile.FieldType.int)) ∈ xTB := xTB_of 958 (by decide +kernel) rfl
theorem hw_959 : (Jvm.Cond.methodLink "ShadeNamesLaw" (44 : Nat) ({ cls := "ShadeNamesModel", name := "text", desc := "(II)I" } : Jvm.MethodName)) ∈ xTB := xTB_of 959 (by decide +kernel) rfl
theorem hw_960 : (Jvm.Cond.instanceMethod ({ cls := "ShadeNamesModel", name := "text", desc := "(II)I" } : Jvm.MethodName)) ∈ xTB := xTB_of 960 (by decide +kernel) rfl
theorem hw_961 : (Jvm.Cond.selects "ShadeNamesModel" ({ cls := "ShadeNamesModel", name := "text", desc := "(II)I" } : Jvm.MethodName) ({ cls := "ShadeNamesModel", name := "text", desc := "(II)I" } : Jvm.MethodName)) ∈ xTB := xTB_of 961 (by decide +kernel) rfl
theorem hw_962 : (Jvm.Cond.code ({ cls := "ShadeNamesModel", name := "text", desc := "(II)I" } : Jvm.MethodName) prog_11_method_18_code (4 : Nat) (Option.some Jvm.ClassFile.FieldType.int)) ∈ xTB := xTB_of 962 (by decide +kernel) rfl
theorem hw_963 : (Jvm.Cond.methodLink "ShadeNamesModel" (89 : Nat) ({ cls := "ShadeNamesModel", name := "isText", desc := "(I)Z" } : Jvm.MethodName)) ∈ xTB := xTB_of 963 (by decide +kernel) rfl
theorem hw_964 : (Jvm.Cond.static ({ cls := "ShadeNamesModel", name := "isText", desc := "(I)Z" } : Jvm.MethodName)) ∈ xTB := xTB_of 964 (by decide +kernel) rfl
theorem hw_965 : (Jvm.Cond.code ({ cls := "ShadeNamesModel", name := "isText", desc := "(I)Z" } : Jvm.MethodName) prog_11_method_8_code (1 : Nat) (Option.some Jvm.ClassFile.FieldType.boolean)) ∈ xTB := xTB_of 965 (by decide +kernel) rfl
theorem hw_966 : (Jvm.Cond.constantLong "ShadeNamesModel" (64 : Nat) (3 : Int64)) ∈ xTB := xTB_of 966 (by decide +kernel) rfl
theorem hw_967 : (Jvm.Cond.methodLink "ShadeNamesLaw" (48 : Nat) ({ cls := "ShadeNamesModel", name := "put", desc := "(III)I" } : Jvm.MethodName)) ∈ xTB := xTB_of 967 (by decide +kernel) rfl
theorem hw_968 : (Jvm.Cond.instanceMethod ({ cls := "ShadeNamesModel", name := "put", desc := "(III)I" } : Jvm.MethodName)) ∈ xTB := xTB_of 968 (by decide +kernel) rfl
theorem hw_969 : (Jvm.Cond.selects "ShadeNamesModel" ({ cls := "ShadeNamesModel", name := "put", desc := "(III)I" } : Jvm.MethodName) ({ cls := "ShadeNamesModel", name := "put", desc := "(III)I" } : Jvm.MethodName)) ∈ xTB := xTB_of 969 (by decide +kernel) rfl
theorem hw_970 : (Jvm.Cond.code ({ cls := "ShadeNamesModel", name := "put", desc := "(III)I" } : Jvm.MethodName) prog_11_method_19_code (5 : Nat) (Option.some Jvm.ClassFile.FieldType.int)) ∈ xTB := xTB_of 970 (by decide +kernel) rfl
theorem hw_971 : (Jvm.Cond.methodLink "ShadeNamesLaw" (52 : Nat) ({ cls := "ShadeNamesModel", name := "fault", desc := "(I)I" } : Jvm.MethodName)) ∈ xTB := xTB_of 971 (by decide +kernel) rfl
theorem hw_972 : (Jvm.Cond.instanceMethod ({ cls := "ShadeNamesModel", name := "fault", desc := "(I)I" } : Jvm.MethodName)) ∈ xTB := xTB_of 972 (by decide +kernel) rfl
theorem hw_973 : (Jvm.Cond.selects "ShadeNamesModel" ({ cls := "ShadeNamesModel", name := "fault", desc := "(I)I" } : Jvm.MethodName) ({ cls := "ShadeNamesModel", name := "fault", desc := "(I)I" } : Jvm.MethodName)) ∈ xTB := xTB_of 973 (by decide +kernel) rfl
theorem hw_974 : (Jvm.Cond.code ({ cls := "ShadeNamesModel", name := "fault", desc := "(I)I" } : Jvm.MethodName) prog_11_method_26_code (2 : Nat) (Option.some Jvm.ClassFile.FieldType.int)) ∈ xTB := xTB_of 974 (by decide +kernel) rfl
theorem hw_975 : (Jvm.Cond.methodLink "ShadeNamesModel" (123 : Nat) ({ cls := "ShadeNamesModel", name := "faultOf", desc := "(I)I" } : Jvm.MethodName)) ∈ xTB := xTB_of 975 (by decide +kernel) rfl
theorem hw_977 : (Jvm.Cond.instanceMethod ({ cls := "ShadeNamesModel", name := "faultOf", desc := "(I)I" } : Jvm.MethodName)) ∈ xTB := xTB_of 977 (by decide +kernel) rfl
theorem hw_978 : (Jvm.Cond.code ({ cls := "ShadeNamesModel", name := "faultOf", desc := "(I)I" } : Jvm.MethodName) prog_11_method_25_code (3 : Nat) (Option.some Jvm.ClassFile.FieldType.int)) ∈ xTB := xTB_of 978 (by decide +kernel) rfl
theorem hw_979 : (Jvm.Cond.methodLink "ShadeNamesModel" (116 : Nat) ({ cls := "ShadeNamesModel", name := "skip", desc := "()V" } : Jvm.MethodName)) ∈ xTB := xTB_of 979 (by decide +kernel) rfl
theorem hw_981 : (Jvm.Cond.instanceMethod ({ cls := "ShadeNamesModel", name := "skip", desc := "()V" } : Jvm.MethodName)) ∈ xTB := xTB_of 981 (by decide +kernel) rfl
theorem hw_982 : (Jvm.Cond.code ({ cls := "ShadeNamesModel", name := "skip", desc := "()V" } : Jvm.MethodName) prog_11_method_21_code (1 : Nat) (Option.none : Option Jvm.ClassFile.FieldType)) ∈ xTB := xTB_of 982 (by decide +kernel) rfl
theorem hw_983 : (Jvm.Cond.methodLink "ShadeNamesModel" (101 : Nat) ({ cls := "ShadeNamesModel", name := "here", desc := "()I" } : Jvm.MethodName)) ∈ xTB := xTB_of 983 (by decide +kernel) rfl
theorem hw_985 : (Jvm.Cond.instanceMethod ({ cls := "ShadeNamesModel", name := "here", desc := "()I" } : Jvm.MethodName)) ∈ xTB := xTB_of 985 (by decide +kernel) rfl
theorem hw_986 : (Jvm.Cond.code ({ cls := "ShadeNamesModel", name := "here", desc := "()I" } : Jvm.MethodName) prog_11_method_20_code (1 : Nat) (Option.some Jvm.ClassFile.FieldType.int)) ∈ xTB := xTB_of 986 (by decide +kernel) rfl
theorem hw_987 : (Jvm.Cond.methodLink "ShadeNamesModel" (119 : Nat) ({ cls := "ShadeNamesModel", name := "readsName", desc := "()Z" } : Jvm.MethodName)) ∈ xTB := xTB_of 987 (by decide +kernel) rfl
theorem hw_989 : (Jvm.Cond.instanceMethod ({ cls := "ShadeNamesModel", name := "readsName", desc := "()Z" } : Jvm.MethodName)) ∈ xTB := xTB_of 989 (by decide +kernel) rfl
theorem hw_990 : (Jvm.Cond.code ({ cls := "ShadeNamesModel", name := "readsName", desc := "()Z" } : Jvm.MethodName) prog_11_method_24_code (4 : Nat) (Option.some Jvm.ClassFile.FieldType.boolean)) ∈ xTB := xTB_of 990 (by decide +kernel) rfl
theorem hw_991 : (Jvm.Cond.methodLink "ShadeNamesModel" (107 : Nat) ({ cls := "ShadeNamesModel", name := "kindOfLetter", desc := "(I)I" } : Jvm.MethodName)) ∈ xTB := xTB_of 991 (by decide +kernel) rfl
theorem hw_992 : (Jvm.Cond.static ({ cls := "ShadeNamesModel", name := "kindOfLetter", desc := "(I)I" } : Jvm.MethodName)) ∈ xTB := xTB_of 992 (by decide +kernel) rfl
theorem hw_993 : (Jvm.Cond.code ({ cls := "ShadeNamesModel", name := "kindOfLetter", desc := "(I)I" } : Jvm.MethodName) prog_11_method_23_code (1 : Nat) (Option.some Jvm.ClassFile.FieldType.int)) ∈ xTB := xTB_of 993 (by decide +kernel) rfl
theorem hw_994 : (Jvm.Cond.methodLink "ShadeNamesModel" (113 : Nat) ({ cls := "ShadeNamesModel", name := "figure", desc := "(I)I" } : Jvm.MethodName)) ∈ xTB := xTB_of 994 (by decide +kernel) rfl
theorem hw_996 : (Jvm.Cond.instanceMethod ({ cls := "ShadeNamesModel", name := "figure", desc := "(I)I" } : Jvm.MethodName)) ∈ xTB := xTB_of 996 (by decide +kernel) rfl
theorem hw_997 : (Jvm.Cond.code ({ cls := "ShadeNamesModel", name := "figure", desc := "(I)I" } : Jvm.MethodName) prog_11_method_22_code (2 : Nat) (Option.some Jvm.ClassFile.FieldType.int)) ∈ xTB := xTB_of 997 (by decide +kernel) rfl
theorem hw_998 : (Jvm.Cond.constantLong "ShadeNamesModel" (105 : Nat) (48 : Int64)) ∈ xTB := xTB_of 998 (by decide +kernel) rfl
theorem hw_999 : (Jvm.Cond.methodLink "ShadeNamesLaw" (56 : Nat) ({ cls := "ShadeNamesModel", name := "registry", desc := "(I)I" } : Jvm.MethodName)) ∈ xTB := xTB_of 999 (by decide +kernel) rfl
theorem hw_1000 : (Jvm.Cond.instanceMethod ({ cls := "ShadeNamesModel", name := "registry", desc := "(I)I" } : Jvm.MethodName)) ∈ xTB := xTB_of 1000 (by decide +kernel) rfl
theorem hw_1001 : (Jvm.Cond.selects "ShadeNamesModel" ({ cls := "ShadeNamesModel", name := "registry", desc := "(I)I" } : Jvm.MethodName) ({ cls := "ShadeNamesModel", name := "registry", desc := "(I)I" } : Jvm.MethodName)) ∈ xTB := xTB_of 1001 (by decide +kernel) rfl
theorem hw_1002 : (Jvm.Cond.code ({ cls := "ShadeNamesModel", name := "registry", desc := "(I)I" } : Jvm.MethodName) prog_11_method_27_code (4 : Nat) (Option.some Jvm.ClassFile.FieldType.int)) ∈ xTB := xTB_of 1002 (by decide +kernel) rfl
theorem hw_1003 : (Jvm.Cond.methodLink "ShadeNamesLaw" (60 : Nat) ({ cls := "ShadeNamesModel", name := "name", desc := "(II)I" } : Jvm.MethodName)) ∈ xTB := xTB_of 1003 (by decide +kernel) rfl
theorem hw_1004 : (Jvm.Cond.instanceMethod ({ cls := "ShadeNamesModel", name := "name", desc := "(II)I" } : Jvm.MethodName)) ∈ xTB := xTB_of 1004 (by decide +kernel) rfl
theorem hw_1005 : (Jvm.Cond.selects "ShadeNamesModel" ({ cls := "ShadeNamesModel", name := "name", desc := "(II)I" } : Jvm.MethodName) ({ cls := "ShadeNamesModel", name := "name", desc := "(II)I" } : Jvm.MethodName)) ∈ xTB := xTB_of 1005 (by decide +kernel) rfl
theorem hw_1006 : (Jvm.Cond.code ({ cls := "ShadeNamesModel", name := "name", desc := "(II)I" } : Jvm.MethodName) prog_11_method_44_code (3 : Nat) (Option.some Jvm.ClassFile.FieldType.int)) ∈ xTB := xTB_of 1006 (by decide +kernel) rfl
theorem hw_1007 : (Jvm.Cond.methodLink "ShadeNamesModel" (170 : Nat) ({ cls := "ShadeNamesModel", name := "isName", desc := "(I)Z" } : Jvm.MethodName)) ∈ xTB := xTB_of 1007 (by decide +kernel) rfl
theorem hw_1009 : (Jvm.Cond.instanceMethod ({ cls := "ShadeNamesModel", name := "isName", desc := "(I)Z" } : Jvm.MethodName)) ∈ xTB := xTB_of 1009 (by decide +kernel) rfl
theorem hw_1010 : (Jvm.Cond.code ({ cls := "ShadeNamesModel", name := "isName", desc := "(I)Z" } : Jvm.MethodName) prog_11_method_28_code (2 : Nat) (Option.some Jvm.ClassFile.FieldType.boolean)) ∈ xTB := xTB_of 1010 (by decide +kernel) rfl
theorem hw_1011 : (Jvm.Cond.constantLong "ShadeNamesModel" (173 : Nat) (6 : Int64)) ∈ xTB := xTB_of 1011 (by decide +kernel) rfl
theorem hw_1012 : (Jvm.Cond.methodLink "ShadeNamesModel" (175 : Nat) ({ cls := "ShadeNamesModel", name := "toldOf", desc := "(II)I" } : Jvm.MethodName)) ∈ xTB := xTB_of 1012 (by decide +kernel) rfl
theorem hw_1014 : (Jvm.Cond.instanceMethod ({ cls := "ShadeNamesModel", name := "toldOf", desc := "(II)I" } : Jvm.MethodName)) ∈ xTB := xTB_of 1014 (by decide +kernel) rfl
theorem hw_1015 : (Jvm.Cond.code ({ cls := "ShadeNamesModel", name := "toldOf", desc := "(II)I" } : Jvm.MethodName) prog_11_method_43_code (3 : Nat) (Option.some Jvm.ClassFile.FieldType.int)) ∈ xTB := xTB_of 1015 (by decide +kernel) rfl
theorem hw_1016 : (Jvm.Cond.methodLink "ShadeNamesModel" (128 : Nat) ({ cls := "ShadeNamesModel", name := "of", desc := "(II)I" } : Jvm.MethodName)) ∈ xTB := xTB_of 1016 (by decide +kernel) rfl
theorem hw_1018 : (Jvm.Cond.instanceMethod ({ cls := "ShadeNamesModel", name := "of", desc := "(II)I" } : Jvm.MethodName)) ∈ xTB := xTB_of 1018 (by decide +kernel) rfl
theorem hw_1019 : (Jvm.Cond.code ({ cls := "ShadeNamesModel", name := "of", desc := "(II)I" } : Jvm.MethodName) prog_11_method_30_code (3 : Nat) (Option.some Jvm.ClassFile.FieldType.int)) ∈ xTB := xTB_of 1019 (by decide +kernel) rfl
theorem hw_1020 : (Jvm.Cond.methodLink "ShadeNamesModel" (144 : Nat) ({ cls := "ShadeNamesModel", name := "shadeOf", desc := "(I)I" } : Jvm.MethodName)) ∈ xTB := xTB_of 1020 (by decide +kernel) rfl
theorem hw_1022 : (Jvm.Cond.instanceMethod ({ cls := "ShadeNamesModel", name := "shadeOf", desc := "(I)I" } : Jvm.MethodName)) ∈ xTB := xTB_of 1022 (by decide +kernel) rfl
theorem hw_1023 : (Jvm.Cond.code ({ cls := "ShadeNamesModel", name := "shadeOf", desc := "(I)I" } : Jvm.MethodName) prog_11_method_31_code (3 : Nat) (Option.some Jvm.ClassFile.FieldType.int)) ∈ xTB := xTB_of 1023 (by decide +kernel) rfl
theorem hw_1024 : (Jvm.Cond.methodLink "ShadeNamesModel" (167 : Nat) ({ cls := "ShadeNamesModel", name := "reachedBy", desc := "(III)I" } : Jvm.MethodName)) ∈ xTB := xTB_of 1024 (by decide +kernel) rfl
theorem hw_1025 : (Jvm.Cond.static ({ cls := "ShadeNamesModel", name := "reachedBy", desc := "(III)I" } : Jvm.MethodName)) ∈ xTB := xTB_of 1025 (by decide +kernel) rfl
theorem hw_1026 : (Jvm.Cond.code ({ cls := "ShadeNamesModel", name := "reachedBy", desc := "(III)I" } : Jvm.MethodName) prog_11_method_37_code (5 : Nat) (Option.some Jvm.ClassFile.FieldType.int)) ∈ xTB := xTB_of 1026 (by decide +kernel) rfl
theorem hw_1027 : (Jvm.Cond.methodLink "ShadeNamesModel" (147 : Nat) ({ cls := "ShadeNamesModel", name := "reachesOf", desc := "(IIII)Z" } : Jvm.MethodName)) ∈ xTB := xTB_of 1027 (by decide +kernel) rfl
theorem hw_1028 : (Jvm.Cond.static ({ cls := "ShadeNamesModel", name := "reachesOf", desc := "(IIII)Z" } : Jvm.MethodName)) ∈ xTB := xTB_of 1028 (by decide +kernel) rfl
theorem hw_1029 : (Jvm.Cond.code ({ cls := "ShadeNamesModel", name := "reachesOf", desc := "(IIII)Z" } : Jvm.MethodName) prog_11_method_35_code (5 : Nat) (Option.some Jvm.ClassFile.FieldType.boolean)) ∈ xTB := xTB_of 1029 (by decide +kernel) rfl
theorem hw_1030 : (Jvm.Cond.methodLink "ShadeNamesModel" (140 : Nat) ({ cls := "ShadeNamesModel", name := "far", desc := "(III)I" } : Jvm.MethodName)) ∈ xTB := xTB_of 1030 (by decide +kernel) rfl
theorem hw_1031 : (Jvm.Cond.static ({ cls := "ShadeNamesModel", name := "far", desc := "(III)I" } : Jvm.MethodName)) ∈ xTB := xTB_of 1031 (by decide +kernel) rfl
theorem hw_1032 : (Jvm.Cond.code ({ cls := "ShadeNamesModel", name := "far", desc := "(III)I" } : Jvm.MethodName) prog_11_method_34_code (6 : Nat) (Option.some Jvm.ClassFile.FieldType.int)) ∈ xTB := xTB_of 1032 (by decide +kernel) rfl
theorem hw_1033 : (Jvm.Cond.methodLink "ShadeNamesModel" (134 : Nat) ({ cls := "ShadeNamesModel", name := "off", desc := "(II)I" } : Jvm.MethodName)) ∈ xTB := xTB_of 1033 (by decide +kernel) rfl
theorem hw_1034 : (Jvm.Cond.static ({ cls := "ShadeNamesModel", name := "off", desc := "(II)I" } : Jvm.MethodName)) ∈ xTB := xTB_of 1034 (by decide +kernel) rfl
theorem hw_1035 : (Jvm.Cond.code ({ cls := "ShadeNamesModel", name := "off", desc := "(II)I" } : Jvm.MethodName) prog_11_method_32_code (2 : Nat) (Option.some Jvm.ClassFile.FieldType.int)) ∈ xTB := xTB_of 1035 (by decide +kernel) rfl
theorem hw_1036 : (Jvm.Cond.methodLink "ShadeNamesModel" (137 : Nat) ({ cls := "ShadeNamesModel", name := "more", desc := "(II)I" } : Jvm.MethodName)) ∈ xTB := xTB_of 1036 (by decide +kernel) rfl
theorem hw_1037 : (Jvm.Cond.static ({ cls := "ShadeNamesModel", name := "more", desc := "(II)I" } : Jvm.MethodName)) ∈ xTB := xTB_of 1037 (by decide +kernel) rfl
theorem hw_1038 : (Jvm.Cond.code ({ cls := "ShadeNamesModel", name := "more", desc := "(II)I" } : Jvm.MethodName) prog_11_method_33_code (2 : Nat) (Option.some Jvm.ClassFile.FieldType.int)) ∈ xTB := xTB_of 1038 (by decide +kernel) rfl
theorem hw_1039 : (Jvm.Cond.methodLink "ShadeNamesLaw" (64 : Nat) ({ cls := "ShadeNamesModel", name := "mark", desc := "(II)I" } : Jvm.MethodName)) ∈ xTB := xTB_of 1039 (by decide +kernel) rfl
theorem hw_1040 : (Jvm.Cond.instanceMethod ({ cls := "ShadeNamesModel", name := "mark", desc := "(II)I" } : Jvm.MethodName)) ∈ xTB := xTB_of 1040 (by decide +kernel) rfl
theorem hw_1041 : (Jvm.Cond.selects "ShadeNamesModel" ({ cls := "ShadeNamesModel", name := "mark", desc := "(II)I" } : Jvm.MethodName) ({ cls := "ShadeNamesModel", name := "mark", desc := "(II)I" } : Jvm.MethodName)) ∈ xTB := xTB_of 1041 (by decide +kernel) rfl
theorem hw_1042 : (Jvm.Cond.code ({ cls := "ShadeNamesModel", name := "mark", desc := "(II)I" } : Jvm.MethodName) prog_11_method_50_code (3 : Nat) (Option.some Jvm.ClassFile.FieldType.int)) ∈ xTB := xTB_of 1042 (by decide +kernel) rfl
theorem hw_1043 : (Jvm.Cond.methodLink "ShadeNamesModel" (178 : Nat) ({ cls := "ShadeNamesModel", name := "isOf", desc := "(II)Z" } : Jvm.MethodName)) ∈ xTB := xTB_of 1043 (by decide +kernel) rfl
theorem hw_1045 : (Jvm.Cond.instanceMethod ({ cls := "ShadeNamesModel", name := "isOf", desc := "(II)Z" } : Jvm.MethodName)) ∈ xTB := xTB_of 1045 (by decide +kernel) rfl
theorem hw_1046 : (Jvm.Cond.code ({ cls := "ShadeNamesModel", name := "isOf", desc := "(II)Z" } : Jvm.MethodName) prog_11_method_45_code (4 : Nat) (Option.some Jvm.ClassFile.FieldType.boolean)) ∈ xTB := xTB_of 1046 (by decide +kernel) rfl
theorem hw_1047 : (Jvm.Cond.methodLink "ShadeNamesModel" (181 : Nat) ({ cls := "ShadeNamesModel", name := "calledBy", desc := "(I)I" } : Jvm.MethodName)) ∈ xTB := xTB_of 1047 (by decide +kernel) rfl
theorem hw_1049 : (Jvm.Cond.instanceMethod ({ cls := "ShadeNamesModel", name := "calledBy", desc := "(I)I" } : Jvm.MethodName)) ∈ xTB := xTB_of 1049 (by decide +kernel) rfl
theorem hw_1050 : (Jvm.Cond.code ({ cls := "ShadeNamesModel", name := "calledBy", desc := "(I)I" } : Jvm.MethodName) prog_11_method_46_code (4 : Nat) (Option.some Jvm.ClassFile.FieldType.int)) ∈ xTB := xTB_of 1050 (by decide +kernel) rfl
theorem hw_1051 : (Jvm.Cond.methodLink "ShadeNamesModel" (164 : Nat) ({ cls := "ShadeNamesModel", name := "caller", desc := "(I)I" } : Jvm.MethodName)) ∈ xTB := xTB_of 1051 (by decide +kernel) rfl
theorem hw_1053 : (Jvm.Cond.instanceMethod ({ cls := "ShadeNamesModel", name := "caller", desc := "(I)I" } : Jvm.MethodName)) ∈ xTB := xTB_of 1053 (by decide +kernel) rfl
theorem hw_1054 : (Jvm.Cond.code ({ cls := "ShadeNamesModel", name := "caller", desc := "(I)I" } : Jvm.MethodName) prog_11_method_40_code (2 : Nat) (Option.some Jvm.ClassFile.FieldType.int)) ∈ xTB := xTB_of 1054 (by decide +kernel) rfl
theorem hw_1055 : (Jvm.Cond.methodLink "ShadeNamesModel" (158 : Nat) ({ cls := "ShadeNamesModel", name := "reaching", desc := "(I)I" } : Jvm.MethodName)) ∈ xTB := xTB_of 1055 (by decide +kernel) rfl
theorem hw_1057 : (Jvm.Cond.instanceMethod ({ cls := "ShadeNamesModel", name := "reaching", desc := "(I)I" } : Jvm.MethodName)) ∈ xTB := xTB_of 1057 (by decide +kernel) rfl
theorem hw_1058 : (Jvm.Cond.code ({ cls := "ShadeNamesModel", name := "reaching", desc := "(I)I" } : Jvm.MethodName) prog_11_method_38_code (4 : Nat) (Option.some Jvm.ClassFile.FieldType.int)) ∈ xTB := xTB_of 1058 (by decide +kernel) rfl
theorem hw_1059 : (Jvm.Cond.methodLink "ShadeNamesModel" (151 : Nat) ({ cls := "ShadeNamesModel", name := "reaches", desc := "(II)Z" } : Jvm.MethodName)) ∈ xTB := xTB_of 1059 (by decide +kernel) rfl
theorem hw_1061 : (Jvm.Cond.instanceMethod ({ cls := "ShadeNamesModel", name := "reaches", desc := "(II)Z" } : Jvm.MethodName)) ∈ xTB := xTB_of 1061 (by decide +kernel) rfl
theorem hw_1062 : (Jvm.Cond.code ({ cls := "ShadeNamesModel", name := "reaches", desc := "(II)Z" } : Jvm.MethodName) prog_11_method_36_code (3 : Nat) (Option.some Jvm.ClassFile.FieldType.boolean)) ∈ xTB := xTB_of 1062 (by decide +kernel) rfl
theorem hw_1063 : (Jvm.Cond.methodLink "ShadeNamesModel" (161 : Nat) ({ cls := "ShadeNamesModel", name := "firstOf", desc := "(I)I" } : Jvm.MethodName)) ∈ xTB := xTB_of 1063 (by decide +kernel) rfl
theorem hw_1064 : (Jvm.Cond.static ({ cls := "ShadeNamesModel", name := "firstOf", desc := "(I)I" } : Jvm.MethodName)) ∈ xTB := xTB_of 1064 (by decide +kernel) rfl
theorem hw_1065 : (Jvm.Cond.code ({ cls := "ShadeNamesModel", name := "firstOf", desc := "(I)I" } : Jvm.MethodName) prog_11_method_39_code (2 : Nat) (Option.some Jvm.ClassFile.FieldType.int)) ∈ xTB := xTB_of 1065 (by decide +kernel) rfl
theorem hw_1066 : (Jvm.Cond.methodLink "ShadeNamesModel" (155 : Nat) ({ cls := "ShadeNamesModel", name := "has", desc := "(II)Z" } : Jvm.MethodName)) ∈ xTB := xTB_of 1066 (by decide +kernel) rfl
theorem hw_1067 : (Jvm.Cond.static ({ cls := "ShadeNamesModel", name := "has", desc := "(II)Z" } : Jvm.MethodName)) ∈ xTB := xTB_of 1067 (by decide +kernel) rfl
theorem hw_1068 : (Jvm.Cond.code ({ cls := "ShadeNamesModel", name := "has", desc := "(II)Z" } : Jvm.MethodName) prog_11_method_4_code (2 : Nat) (Option.some Jvm.ClassFile.FieldType.boolean)) ∈ xTB := xTB_of 1068 (by decide +kernel) rfl
theorem hw_1069 : (Jvm.Cond.methodLink "ShadeNamesModel" (184 : Nat) ({ cls := "ShadeNamesModel", name := "likeFirst", desc := "(I)I" } : Jvm.MethodName)) ∈ xTB := xTB_of 1069 (by decide +kernel) rfl
theorem hw_1071 : (Jvm.Cond.instanceMethod ({ cls := "ShadeNamesModel", name := "likeFirst", desc := "(I)I" } : Jvm.MethodName)) ∈ xTB := xTB_of 1071 (by decide +kernel) rfl
theorem hw_1072 : (Jvm.Cond.code ({ cls := "ShadeNamesModel", name := "likeFirst", desc := "(I)I" } : Jvm.MethodName) prog_11_method_47_code (4 : Nat) (Option.some Jvm.ClassFile.FieldType.int)) ∈ xTB := xTB_of 1072 (by decide +kernel) rfl
theorem hw_1073 : (Jvm.Cond.methodLink "ShadeNamesModel" (187 : Nat) ({ cls := "ShadeNamesModel", name := "othersReached", desc := "(I)I" } : Jvm.MethodName)) ∈ xTB := xTB_of 1073 (by decide +kernel) rfl
theorem hw_1075 : (Jvm.Cond.instanceMethod ({ cls := "ShadeNamesModel", name := "othersReached", desc := "(I)I" } : Jvm.MethodName)) ∈ xTB := xTB_of 1075 (by decide +kernel) rfl
theorem hw_1076 : (Jvm.Cond.code ({ cls := "ShadeNamesModel", name := "othersReached", desc := "(I)I" } : Jvm.MethodName) prog_11_method_48_code (4 : Nat) (Option.some Jvm.ClassFile.FieldType.int)) ∈ xTB := xTB_of 1076 (by decide +kernel) rfl
theorem hw_1077 : (Jvm.Cond.methodLink "ShadeNamesModel" (190 : Nat) ({ cls := "ShadeNamesModel", name := "reachedAhead", desc := "(I)I" } : Jvm.MethodName)) ∈ xTB := xTB_of 1077 (by decide +kernel) rfl
theorem hw_1079 : (Jvm.Cond.instanceMethod ({ cls := "ShadeNamesModel", name := "reachedAhead", desc := "(I)I" } : Jvm.MethodName)) ∈ xTB := xTB_of 1079 (by decide +kernel) rfl
theorem hw_1080 : (Jvm.Cond.code ({ cls := "ShadeNamesModel", name := "reachedAhead", desc := "(I)I" } : Jvm.MethodName) prog_11_method_49_code (4 : Nat) (Option.some Jvm.ClassFile.FieldType.int)) ∈ xTB := xTB_of 1080 (by decide +kernel) rfl
theorem hw_1081 : (Jvm.Cond.methodLink "ShadeNamesLaw" (68 : Nat) ({ cls := "ShadeNamesModel", name := "due", desc := "(II)I" } : Jvm.MethodName)) ∈ xTB := xTB_of 1081 (by decide +kernel) rfl
theorem hw_1082 : (Jvm.Cond.instanceMethod ({ cls := "ShadeNamesModel", name := "due", desc := "(II)I" } : Jvm.MethodName)) ∈ xTB := xTB_of 1082 (by decide +kernel) rfl
theorem hw_1083 : (Jvm.Cond.selects "ShadeNamesModel" ({ cls := "ShadeNamesModel", name := "due", desc := "(II)I" } : Jvm.MethodName) ({ cls := "ShadeNamesModel", name := "due", desc := "(II)I" } : Jvm.MethodName)) ∈ xTB := xTB_of 1083 (by decide +kernel) rfl
theorem hw_1084 : (Jvm.Cond.code ({ cls := "ShadeNamesModel", name := "due", desc := "(II)I" } : Jvm.MethodName) prog_11_method_51_code (4 : Nat) (Option.some Jvm.ClassFile.FieldType.int)) ∈ xTB := xTB_of 1084 (by decide +kernel) rfl
theorem hw_1085 : (Jvm.Cond.constantLong "ShadeNamesModel" (193 : Nat) (9 : Int64)) ∈ xTB := xTB_of 1085 (by decide +kernel) rfl
theorem hw_1086 : (Jvm.Cond.methodLink "ShadeNamesLaw" (73 : Nat) ({ cls := "ShadeNamesModel", name := "say", desc := "(IIII)I" } : Jvm.MethodName)) ∈ xTB := xTB_of 1086 (by decide +kernel) rfl
theorem hw_1087 : (Jvm.Cond.instanceMethod ({ cls := "ShadeNamesModel", name := "say", desc := "(IIII)I" } : Jvm.MethodName)) ∈ xTB := xTB_of 1087 (by decide +kernel) rfl
theorem hw_1088 : (Jvm.Cond.selects "ShadeNamesModel" ({ cls := "ShadeNamesModel", name := "say", desc := "(IIII)I" } : Jvm.MethodName) ({ cls := "ShadeNamesModel", name := "say", desc := "(IIII)I" } : Jvm.MethodName)) ∈ xTB := xTB_of 1088 (by decide +kernel) rfl
theorem hw_1089 : (Jvm.Cond.code ({ cls := "ShadeNamesModel", name := "say", desc := "(IIII)I" } : Jvm.MethodName) prog_11_method_55_code (7 : Nat) (Option.some Jvm.ClassFile.FieldType.int)) ∈ xTB := xTB_of 1089 (by decide +kernel) rfl
theorem hw_1090 : (Jvm.Cond.methodLink "ShadeNamesModel" (195 : Nat) ({ cls := "ShadeNamesModel", name := "isKind", desc := "(I)Z" } : Jvm.MethodName)) ∈ xTB := xTB_of 1090 (by decide +kernel) rfl
theorem hw_1091 : (Jvm.Cond.static ({ cls := "ShadeNamesModel", name := "isKind", desc := "(I)Z" } : Jvm.MethodName)) ∈ xTB := xTB_of 1091 (by decide +kernel) rfl
theorem hw_1092 : (Jvm.Cond.code ({ cls := "ShadeNamesModel", name := "isKind", desc := "(I)Z" } : Jvm.MethodName) prog_11_method_53_code (1 : Nat) (Option.some Jvm.ClassFile.FieldType.boolean)) ∈ xTB := xTB_of 1092 (by decide +kernel) rfl
theorem hw_1093 : (Jvm.Cond.methodLink "ShadeNamesModel" (198 : Nat) ({ cls := "ShadeNamesModel", name := "isShade", desc := "(I)Z" } : Jvm.MethodName)) ∈ xTB := xTB_of 1093 (by decide +kernel) rfl
theorem hw_1094 : (Jvm.Cond.static ({ cls := "ShadeNamesModel", name := "isShade", desc := "(I)Z" } : Jvm.MethodName)) ∈ xTB := xTB_of 1094 (by decide +kernel) rfl
theorem hw_1095 : (Jvm.Cond.code ({ cls := "ShadeNamesModel", name := "isShade", desc := "(I)Z" } : Jvm.MethodName) prog_11_method_29_code (1 : Nat) (Option.some Jvm.ClassFile.FieldType.boolean)) ∈ xTB := xTB_of 1095 (by decide +kernel) rfl
theorem hw_1096 : (Jvm.Cond.constantLong "ShadeNamesModel" (126 : Nat) (215 : Int64)) ∈ xTB := xTB_of 1096 (by decide +kernel) rfl
theorem hw_1097 : (Jvm.Cond.methodLink "ShadeNamesModel" (201 : Nat) ({ cls := "ShadeNamesModel", name := "isPerson", desc := "(I)Z" } : Jvm.MethodName)) ∈ xTB := xTB_of 1097 (by decide +kernel) rfl
theorem hw_1098 : (Jvm.Cond.static ({ cls := "ShadeNamesModel", name := "isPerson", desc := "(I)Z" } : Jvm.MethodName)) ∈ xTB := xTB_of 1098 (by decide +kernel) rfl
theorem hw_1099 : (Jvm.Cond.code ({ cls := "ShadeNamesModel", name := "isPerson", desc := "(I)Z" } : Jvm.MethodName) prog_11_method_54_code (1 : Nat) (Option.some Jvm.ClassFile.FieldType.boolean)) ∈ xTB := xTB_of 1099 (by decide +kernel) rfl
theorem hw_1100 : (Jvm.Cond.methodLink "ShadeNamesModel" (204 : Nat) ({ cls := "ShadeNamesModel", name := "keepPast", desc := "()V" } : Jvm.MethodName)) ∈ xTB := xTB_of 1100 (by decide +kernel) rfl
theorem hw_1102 : (Jvm.Cond.instanceMethod ({ cls := "ShadeNamesModel", name := "keepPast", desc := "()V" } : Jvm.MethodName)) ∈ xTB := xTB_of 1102 (by decide +kernel) rfl
theorem hw_1103 : (Jvm.Cond.code ({ cls := "ShadeNamesModel", name := "keepPast", desc := "()V" } : Jvm.MethodName) prog_11_method_52_code (2 : Nat) (Option.none : Option Jvm.ClassFile.FieldType)) ∈ xTB := xTB_of 1103 (by decide +kernel) rfl
theorem hw_1104 : (Jvm.Cond.methodLink "ShadeNamesLaw" (78 : Nat) ({ cls := "ShadeNamesModel", name := "year", desc := "()I" } : Jvm.MethodName)) ∈ xTB := xTB_of 1104 (by decide +kernel) rfl
theorem hw_1105 : (Jvm.Cond.instanceMethod ({ cls := "ShadeNamesModel", name := "year", desc := "()I" } : Jvm.MethodName)) ∈ xTB := xTB_of 1105 (by decide +kernel) rfl
theorem hw_1106 : (Jvm.Cond.selects "ShadeNamesModel" ({ cls := "ShadeNamesModel", name := "year", desc := "()I" } : Jvm.MethodName) ({ cls := "ShadeNamesModel", name := "year", desc := "()I" } : Jvm.MethodName)) ∈ xTB := xTB_of 1106 (by decide +kernel) rfl
theorem hw_1107 : (Jvm.Cond.code ({ cls := "ShadeNamesModel", name := "year", desc := "()I" } : Jvm.MethodName) prog_11_method_56_code (3 : Nat) (Option.some Jvm.ClassFile.FieldType.int)) ∈ xTB := xTB_of 1107 (by decide +kernel) rfl
theorem hw_1108 : (Jvm.Cond.methodLink "ShadeNamesLaw" (82 : Nat) ({ cls := "ShadeNamesModel", name := "undo", desc := "(I)I" } : Jvm.MethodName)) ∈ xTB := xTB_of 1108 (by decide +kernel) rfl
theorem hw_1109 : (Jvm.Cond.instanceMethod ({ cls := "ShadeNamesModel", name := "undo", desc := "(I)I" } : Jvm.MethodName)) ∈ xTB := xTB_of 1109 (by decide +kernel) rfl
theorem hw_1110 : (Jvm.Cond.selects "ShadeNamesModel" ({ cls := "ShadeNamesModel", name := "undo", desc := "(I)I" } : Jvm.MethodName) ({ cls := "ShadeNamesModel", name := "undo", desc := "(I)I" } : Jvm.MethodName)) ∈ xTB := xTB_of 1110 (by decide +kernel) rfl
theorem hw_1111 : (Jvm.Cond.code ({ cls := "ShadeNamesModel", name := "undo", desc := "(I)I" } : Jvm.MethodName) prog_11_method_57_code (4 : Nat) (Option.some Jvm.ClassFile.FieldType.int)) ∈ xTB := xTB_of 1111 (by decide +kernel) rfl
theorem hw_1112 : (Jvm.Cond.methodLink "ShadeNamesLaw" (86 : Nat) ({ cls := "ShadeNamesModel", name := "keep", desc := "(I)I" } : Jvm.MethodName)) ∈ xTB := xTB_of 1112 (by decide +kernel) rfl
theorem hw_1113 : (Jvm.Cond.instanceMethod ({ cls := "ShadeNamesModel", name := "keep", desc := "(I)I" } : Jvm.MethodName)) ∈ xTB := xTB_of 1113 (by decide +kernel) rfl
theorem hw_1114 : (Jvm.Cond.selects "ShadeNamesModel" ({ cls := "ShadeNamesModel", name := "keep", desc := "(I)I" } : Jvm.MethodName) ({ cls := "ShadeNamesModel", name := "keep", desc := "(I)I" } : Jvm.MethodName)) ∈ xTB := xTB_of 1114 (by decide +kernel) rfl
theorem hw_1115 : (Jvm.Cond.code ({ cls := "ShadeNamesModel", name := "keep", desc := "(I)I" } : Jvm.MethodName) prog_11_method_59_code (2 : Nat) (Option.some Jvm.ClassFile.FieldType.int)) ∈ xTB := xTB_of 1115 (by decide +kernel) rfl
theorem hw_1116 : (Jvm.Cond.constantLong "ShadeNamesModel" (207 : Nat) (2 : Int64)) ∈ xTB := xTB_of 1116 (by decide +kernel) rfl
theorem hw_1117 : (Jvm.Cond.methodLink "ShadeNamesModel" (209 : Nat) ({ cls := "ShadeNamesModel", name := "copyRegistry", desc := "(II)V" } : Jvm.MethodName)) ∈ xTB := xTB_of 1117 (by decide +kernel) rfl
theorem hw_1119 : (Jvm.Cond.instanceMethod ({ cls := "ShadeNamesModel", name := "copyRegistry", desc := "(II)V" } : Jvm.MethodName)) ∈ xTB := xTB_of 1119 (by decide +kernel) rfl
theorem hw_1120 : (Jvm.Cond.code ({ cls := "ShadeNamesModel", name := "copyRegistry", desc := "(II)V" } : Jvm.MethodName) prog_11_method_58_code (4 : Nat) (Option.none : Option Jvm.ClassFile.FieldType)) ∈ xTB := xTB_of 1120 (by decide +kernel) rfl
theorem hw_1121 : (Jvm.Cond.methodLink "ShadeNamesLaw" (90 : Nat) ({ cls := "ShadeNamesModel", name := "on", desc := "(I)I" } : Jvm.MethodName)) ∈ xTB := xTB_of 1121 (by decide +kernel) rfl
theorem hw_1122 : (Jvm.Cond.instanceMethod ({ cls := "ShadeNamesModel", name := "on", desc := "(I)I" } : Jvm.MethodName)) ∈ xTB := xTB_of 1122 (by decide +kernel) rfl
theorem hw_1123 : (Jvm.Cond.selects "ShadeNamesModel" ({ cls := "ShadeNamesModel", name := "on", desc := "(I)I" } : Jvm.MethodName) ({ cls := "ShadeNamesModel", name := "on", desc := "(I)I" } : Jvm.MethodName)) ∈ xTB := xTB_of 1123 (by decide +kernel) rfl
theorem hw_1124 : (Jvm.Cond.code ({ cls := "ShadeNamesModel", name := "on", desc := "(I)I" } : Jvm.MethodName) prog_11_method_60_code (2 : Nat) (Option.some Jvm.ClassFile.FieldType.int)) ∈ xTB := xTB_of 1124 (by decide +kernel) rfl
theorem hw_1125 : (Jvm.Cond.methodLink "ShadeNamesLaw" (94 : Nat) ({ cls := "ShadeNamesModel", name := "apart", desc := "(II)I" } : Jvm.MethodName)) ∈ xTB := xTB_of 1125 (by decide +kernel) rfl
theorem hw_1126 : (Jvm.Cond.instanceMethod ({ cls := "ShadeNamesModel", name := "apart", desc := "(II)I" } : Jvm.MethodName)) ∈ xTB := xTB_of 1126 (by decide +kernel) rfl
theorem hw_1127 : (Jvm.Cond.selects "ShadeNamesModel" ({ cls := "ShadeNamesModel", name := "apart", desc := "(II)I" } : Jvm.MethodName) ({ cls := "ShadeNamesModel", name := "apart", desc := "(II)I" } : Jvm.MethodName)) ∈ xTB := xTB_of 1127 (by decide +kernel) rfl
theorem hw_1128 : (Jvm.Cond.code ({ cls := "ShadeNamesModel", name := "apart", desc := "(II)I" } : Jvm.MethodName) prog_11_method_61_code (3 : Nat) (Option.some Jvm.ClassFile.FieldType.int)) ∈ xTB := xTB_of 1128 (by decide +kernel) rfl
theorem hw_1129 : (Jvm.Cond.methodLink "ShadeNamesLaw" (98 : Nat) ({ cls := "ShadeNamesModel", name := "called", desc := "(I)I" } : Jvm.MethodName)) ∈ xTB := xTB_of 1129 (by decide +kernel) rfl
theorem hw_1130 : (Jvm.Cond.instanceMethod ({ cls := "ShadeNamesModel", name := "called", desc := "(I)I" } : Jvm.MethodName)) ∈ xTB := xTB_of 1130 (by decide +kernel) rfl
theorem hw_1131 : (Jvm.Cond.selects "ShadeNamesModel" ({ cls := "ShadeNamesModel", name := "called", desc := "(I)I" } : Jvm.MethodName) ({ cls := "ShadeNamesModel", name := "called", desc := "(I)I" } : Jvm.MethodName)) ∈ xTB := xTB_of 1131 (by decide +kernel) rfl
theorem hw_1132 : (Jvm.Cond.code ({ cls := "ShadeNamesModel", name := "called", desc := "(I)I" } : Jvm.MethodName) prog_11_method_62_code (2 : Nat) (Option.some Jvm.ClassFile.FieldType.int)) ∈ xTB := xTB_of 1132 (by decide +kernel) rfl
theorem hw_1133 : (Jvm.Cond.methodLink "ShadeNamesLaw" (102 : Nat) ({ cls := "ShadeNamesModel", name := "owes", desc := "(II)I" } : Jvm.MethodName)) ∈ xTB := xTB_of 1133 (by decide +kernel) rfl
theorem hw_1134 : (Jvm.Cond.instanceMethod ({ cls := "ShadeNamesModel", name := "owes", desc := "(II)I" } : Jvm.MethodName)) ∈ xTB := xTB_of 1134 (by decide +kernel) rfl
theorem hw_1135 : (Jvm.Cond.selects "ShadeNamesModel" ({ cls := "ShadeNamesModel", name := "owes", desc := "(II)I" } : Jvm.MethodName) ({ cls := "ShadeNamesModel", name := "owes", desc := "(II)I" } : Jvm.MethodName)) ∈ xTB := xTB_of 1135 (by decide +kernel) rfl
theorem hw_1136 : (Jvm.Cond.code ({ cls := "ShadeNamesModel", name := "owes", desc := "(II)I" } : Jvm.MethodName) prog_11_method_63_code (3 : Nat) (Option.some Jvm.ClassFile.FieldType.int)) ∈ xTB := xTB_of 1136 (by decide +kernel) rfl
theorem hw_1137 : (Jvm.Cond.methodLink "ShadeNamesModel" (212 : Nat) ({ cls := "ShadeNamesModel", name := "dueFor", desc := "(II)I" } : Jvm.MethodName)) ∈ xTB := xTB_of 1137 (by decide +kernel) rfl
theorem hw_1139 : (Jvm.Cond.instanceMethod ({ cls := "ShadeNamesModel", name := "dueFor", desc := "(II)I" } : Jvm.MethodName)) ∈ xTB := xTB_of 1139 (by decide +kernel) rfl
theorem hw_1140 : (Jvm.Cond.code ({ cls := "ShadeNamesModel", name := "dueFor", desc := "(II)I" } : Jvm.MethodName) prog_11_method_42_code (4 : Nat) (Option.some Jvm.ClassFile.FieldType.int)) ∈ xTB := xTB_of 1140 (by decide +kernel) rfl
theorem hw_1141 : (Jvm.Cond.methodLink "ShadeNamesLaw" (106 : Nat) ({ cls := "ShadeNamesModel", name := "disputed", desc := "()I" } : Jvm.MethodName)) ∈ xTB := xTB_of 1141 (by decide +kernel) rfl
theorem hw_1142 : (Jvm.Cond.instanceMethod ({ cls := "ShadeNamesModel", name := "disputed", desc := "()I" } : Jvm.MethodName)) ∈ xTB := xTB_of 1142 (by decide +kernel) rfl
theorem hw_1143 : (Jvm.Cond.selects "ShadeNamesModel" ({ cls := "ShadeNamesModel", name := "disputed", desc := "()I" } : Jvm.MethodName) ({ cls := "ShadeNamesModel", name := "disputed", desc := "()I" } : Jvm.MethodName)) ∈ xTB := xTB_of 1143 (by decide +kernel) rfl
theorem hw_1144 : (Jvm.Cond.code ({ cls := "ShadeNamesModel", name := "disputed", desc := "()I" } : Jvm.MethodName) prog_11_method_65_code (4 : Nat) (Option.some Jvm.ClassFile.FieldType.int)) ∈ xTB := xTB_of 1144 (by decide +kernel) rfl
theorem hw_1145 : (Jvm.Cond.methodLink "ShadeNamesModel" (215 : Nat) ({ cls := "ShadeNamesModel", name := "ownersOf", desc := "(I)I" } : Jvm.MethodName)) ∈ xTB := xTB_of 1145 (by decide +kernel) rfl
theorem hw_1147 : (Jvm.Cond.instanceMethod ({ cls := "ShadeNamesModel", name := "ownersOf", desc := "(I)I" } : Jvm.MethodName)) ∈ xTB := xTB_of 1147 (by decide +kernel) rfl
theorem hw_1148 : (Jvm.Cond.code ({ cls := "ShadeNamesModel", name := "ownersOf", desc := "(I)I" } : Jvm.MethodName) prog_11_method_64_code (5 : Nat) (Option.some Jvm.ClassFile.FieldType.int)) ∈ xTB := xTB_of 1148 (by decide +kernel) rfl
theorem hw_1149 : (Jvm.Cond.methodLink "ShadeNamesModel" (218 : Nat) ({ cls := "ShadeNamesModel", name := "bits", desc := "(I)I" } : Jvm.MethodName)) ∈ xTB := xTB_of 1149 (by decide +kernel) rfl
theorem hw_1150 : (Jvm.Cond.static ({ cls := "ShadeNamesModel", name := "bits", desc := "(I)I" } : Jvm.MethodName)) ∈ xTB := xTB_of 1150 (by decide +kernel) rfl
theorem hw_1151 : (Jvm.Cond.code ({ cls := "ShadeNamesModel", name := "bits", desc := "(I)I" } : Jvm.MethodName) prog_11_method_2_code (3 : Nat) (Option.some Jvm.ClassFile.FieldType.int)) ∈ xTB := xTB_of 1151 (by decide +kernel) rfl
theorem hw_1152 : (Jvm.Cond.methodLink "ShadeNamesLaw" (110 : Nat) ({ cls := "ShadeNamesModel", name := "free", desc := "()I" } : Jvm.MethodName)) ∈ xTB := xTB_of 1152 (by decide +kernel) rfl
theorem hw_1153 : (Jvm.Cond.instanceMethod ({ cls := "ShadeNamesModel", name := "free", desc := "()I" } : Jvm.MethodName)) ∈ xTB := xTB_of 1153 (by decide +kernel) rfl
theorem hw_1154 : (Jvm.Cond.selects "ShadeNamesModel" ({ cls := "ShadeNamesModel", name := "free", desc := "()I" } : Jvm.MethodName) ({ cls := "ShadeNamesModel", name := "free", desc := "()I" } : Jvm.MethodName)) ∈ xTB := xTB_of 1154 (by decide +kernel) rfl
theorem hw_1155 : (Jvm.Cond.code ({ cls := "ShadeNamesModel", name := "free", desc := "()I" } : Jvm.MethodName) prog_11_method_67_code (3 : Nat) (Option.some Jvm.ClassFile.FieldType.int)) ∈ xTB := xTB_of 1155 (by decide +kernel) rfl
theorem hw_1156 : (Jvm.Cond.methodLink "ShadeNamesModel" (221 : Nat) ({ cls := "ShadeNamesModel", name := "layFree", desc := "()V" } : Jvm.MethodName)) ∈ xTB := xTB_of 1156 (by decide +kernel) rfl
theorem hw_1158 : (Jvm.Cond.instanceMethod ({ cls := "ShadeNamesModel", name := "layFree", desc := "()V" } : Jvm.MethodName)) ∈ xTB := xTB_of 1158 (by decide +kernel) rfl
theorem hw_1159 : (Jvm.Cond.code ({ cls := "ShadeNamesModel", name := "layFree", desc := "()V" } : Jvm.MethodName) prog_11_method_66_code (2 : Nat) (Option.none : Option Jvm.ClassFile.FieldType)) ∈ xTB := xTB_of 1159 (by decide +kernel) rfl
theorem hw_1160 : (Jvm.Cond.methodLink "ShadeNamesLaw" (114 : Nat) ({ cls := "ShadeNamesModel", name := "gap", desc := "(II)I" } : Jvm.MethodName)) ∈ xTB := xTB_of 1160 (by decide +kernel) rfl
theorem hw_1161 : (Jvm.Cond.instanceMethod ({ cls := "ShadeNamesModel", name := "gap", desc := "(II)I" } : Jvm.MethodName)) ∈ xTB := xTB_of 1161 (by decide +kernel) rfl
theorem hw_1162 : (Jvm.Cond.selects "ShadeNamesModel" ({ cls := "ShadeNamesModel", name := "gap", desc := "(II)I" } : Jvm.MethodName) ({ cls := "ShadeNamesModel", name := "gap", desc := "(II)I" } : Jvm.MethodName)) ∈ xTB := xTB_of 1162 (by decide +kernel) rfl
theorem hw_1163 : (Jvm.Cond.code ({ cls := "ShadeNamesModel", name := "gap", desc := "(II)I" } : Jvm.MethodName) prog_11_method_69_code (6 : Nat) (Option.some Jvm.ClassFile.FieldType.int)) ∈ xTB := xTB_of 1163 (by decide +kernel) rfl
theorem hw_1164 : (Jvm.Cond.methodLink "ShadeNamesModel" (224 : Nat) ({ cls := "ShadeNamesModel", name := "isGap", desc := "(III)Z" } : Jvm.MethodName)) ∈ xTB := xTB_of 1164 (by decide +kernel) rfl
theorem hw_1166 : (Jvm.Cond.instanceMethod ({ cls := "ShadeNamesModel", name := "isGap", desc := "(III)Z" } : Jvm.MethodName)) ∈ xTB := xTB_of 1166 (by decide +kernel) rfl
theorem hw_1167 : (Jvm.Cond.code ({ cls := "ShadeNamesModel", name := "isGap", desc := "(III)Z" } : Jvm.MethodName) prog_11_method_68_code (5 : Nat) (Option.some Jvm.ClassFile.FieldType.boolean)) ∈ xTB := xTB_of 1167 (by decide +kernel) rfl
theorem hw_1168 : (Jvm.Cond.methodLink "ShadeNamesLaw" (118 : Nat) ({ cls := "ShadeNamesModel", name := "lives", desc := "(II)I" } : Jvm.MethodName)) ∈ xTB := xTB_of 1168 (by decide +kernel) rfl
theorem hw_1169 : (Jvm.Cond.instanceMethod ({ cls := "ShadeNamesModel", name := "lives", desc := "(II)I" } : Jvm.MethodName)) ∈ xTB := xTB_of 1169 (by decide +kernel) rfl
theorem hw_1170 : (Jvm.Cond.selects "ShadeNamesModel" ({ cls := "ShadeNamesModel", name := "lives", desc := "(II)I" } : Jvm.MethodName) ({ cls := "ShadeNamesModel", name := "lives", desc := "(II)I" } : Jvm.MethodName)) ∈ xTB := xTB_of 1170 (by decide +kernel) rfl
theorem hw_1171 : (Jvm.Cond.code ({ cls := "ShadeNamesModel", name := "lives", desc := "(II)I" } : Jvm.MethodName) prog_11_method_71_code (7 : Nat) (Option.some Jvm.ClassFile.FieldType.int)) ∈ xTB := xTB_of 1171 (by decide +kernel) rfl
theorem hw_1172 : (Jvm.Cond.methodLink "ShadeNamesModel" (227 : Nat) ({ cls := "ShadeNamesModel", name := "areShades", desc := "(I)Z" } : Jvm.MethodName)) ∈ xTB := xTB_of 1172 (by decide +kernel) rfl
theorem hw_1174 : (Jvm.Cond.instanceMethod ({ cls := "ShadeNamesModel", name := "areShades", desc := "(I)Z" } : Jvm.MethodName)) ∈ xTB := xTB_of 1174 (by decide +kernel) rfl
theorem hw_1175 : (Jvm.Cond.code ({ cls := "ShadeNamesModel", name := "areShades", desc := "(I)Z" } : Jvm.MethodName) prog_11_method_70_code (4 : Nat) (Option.some Jvm.ClassFile.FieldType.boolean)) ∈ xTB := xTB_of 1175 (by decide +kernel) rfl
theorem hw_1176 : (Jvm.Cond.methodLink "ShadeNamesModel" (230 : Nat) ({ cls := "ShadeNamesModel", name := "ownerOf", desc := "(I)I" } : Jvm.MethodName)) ∈ xTB := xTB_of 1176 (by decide +kernel) rfl
theorem hw_1178 : (Jvm.Cond.instanceMethod ({ cls := "ShadeNamesModel", name := "ownerOf", desc := "(I)I" } : Jvm.MethodName)) ∈ xTB := xTB_of 1178 (by decide +kernel) rfl
theorem hw_1179 : (Jvm.Cond.code ({ cls := "ShadeNamesModel", name := "ownerOf", desc := "(I)I" } : Jvm.MethodName) prog_11_method_41_code (3 : Nat) (Option.some Jvm.ClassFile.FieldType.int)) ∈ xTB := xTB_of 1179 (by decide +kernel) rfl
theorem hw_1180 : (Jvm.Cond.methodLink "ShadeNamesLaw" (122 : Nat) ({ cls := "ShadeNamesModel", name := "cover", desc := "(II)I" } : Jvm.MethodName)) ∈ xTB := xTB_of 1180 (by decide +kernel) rfl
theorem hw_1181 : (Jvm.Cond.instanceMethod ({ cls := "ShadeNamesModel", name := "cover", desc := "(II)I" } : Jvm.MethodName)) ∈ xTB := xTB_of 1181 (by decide +kernel) rfl
theorem hw_1182 : (Jvm.Cond.selects "ShadeNamesModel" ({ cls := "ShadeNamesModel", name := "cover", desc := "(II)I" } : Jvm.MethodName) ({ cls := "ShadeNamesModel", name := "cover", desc := "(II)I" } : Jvm.MethodName)) ∈ xTB := xTB_of 1182 (by decide +kernel) rfl
theorem hw_1183 : (Jvm.Cond.code ({ cls := "ShadeNamesModel", name := "cover", desc := "(II)I" } : Jvm.MethodName) prog_11_method_74_code (9 : Nat) (Option.some Jvm.ClassFile.FieldType.int)) ∈ xTB := xTB_of 1183 (by decide +kernel) rfl
theorem hw_1184 : (Jvm.Cond.methodLink "ShadeNamesModel" (233 : Nat) ({ cls := "ShadeNamesModel", name := "noShades", desc := "(III)I" } : Jvm.MethodName)) ∈ xTB := xTB_of 1184 (by decide +kernel) rfl
theorem hw_1186 : (Jvm.Cond.instanceMethod ({ cls := "ShadeNamesModel", name := "noShades", desc := "(III)I" } : Jvm.MethodName)) ∈ xTB := xTB_of 1186 (by decide +kernel) rfl
theorem hw_1187 : (Jvm.Cond.code ({ cls := "ShadeNamesModel", name := "noShades", desc := "(III)I" } : Jvm.MethodName) prog_11_method_72_code (4 : Nat) (Option.some Jvm.ClassFile.FieldType.int)) ∈ xTB := xTB_of 1187 (by decide +kernel) rfl
theorem hw_1188 : (Jvm.Cond.methodLink "ShadeNamesModel" (236 : Nat) ({ cls := "ShadeNamesModel", name := "placesFrom", desc := "(III)I" } : Jvm.MethodName)) ∈ xTB := xTB_of 1188 (by decide +kernel) rfl
theorem hw_1190 : (Jvm.Cond.instanceMethod ({ cls := "ShadeNamesModel", name := "placesFrom", desc := "(III)I" } : Jvm.MethodName)) ∈ xTB := xTB_of 1190 (by decide +kernel) rfl
theorem hw_1191 : (Jvm.Cond.code ({ cls := "ShadeNamesModel", name := "placesFrom", desc := "(III)I" } : Jvm.MethodName) prog_11_method_73_code (6 : Nat) (Option.some Jvm.ClassFile.FieldType.int)) ∈ xTB := xTB_of 1191 (by decide +kernel) rfl
theorem hw_1192 : (Jvm.Cond.methodLink "ShadeNamesLaw" (126 : Nat) ({ cls := "ShadeNamesModel", name := "best", desc := "(II)I" } : Jvm.MethodName)) ∈ xTB := xTB_of 1192 (by decide +kernel) rfl
theorem hw_1193 : (Jvm.Cond.instanceMethod ({ cls := "ShadeNamesModel", name := "best", desc := "(II)I" } : Jvm.MethodName)) ∈ xTB := xTB_of 1193 (by decide +kernel) rfl
theorem hw_1194 : (Jvm.Cond.selects "ShadeNamesModel" ({ cls := "ShadeNamesModel", name := "best", desc := "(II)I" } : Jvm.MethodName) ({ cls := "ShadeNamesModel", name := "best", desc := "(II)I" } : Jvm.MethodName)) ∈ xTB := xTB_of 1194 (by decide +kernel) rfl
theorem hw_1195 : (Jvm.Cond.code ({ cls := "ShadeNamesModel", name := "best", desc := "(II)I" } : Jvm.MethodName) prog_11_method_75_code (7 : Nat) (Option.some Jvm.ClassFile.FieldType.int)) ∈ xTB := xTB_of 1195 (by decide +kernel) rfl
theorem hw_1196 : (Jvm.Cond.methodLink "ShadeNamesLaw" (130 : Nat) ({ cls := "ShadeNamesModel", name := "mix", desc := "(II)I" } : Jvm.MethodName)) ∈ xTB := xTB_of 1196 (by decide +kernel) rfl
theorem hw_1197 : (Jvm.Cond.instanceMethod ({ cls := "ShadeNamesModel", name := "mix", desc := "(II)I" } : Jvm.MethodName)) ∈ xTB := xTB_of 1197 (by decide +kernel) rfl
theorem hw_1198 : (Jvm.Cond.selects "ShadeNamesModel" ({ cls := "ShadeNamesModel", name := "mix", desc := "(II)I" } : Jvm.MethodName) ({ cls := "ShadeNamesModel", name := "mix", desc := "(II)I" } : Jvm.MethodName)) ∈ xTB := xTB_of 1198 (by decide +kernel) rfl
theorem hw_1199 : (Jvm.Cond.code ({ cls := "ShadeNamesModel", name := "mix", desc := "(II)I" } : Jvm.MethodName) prog_11_method_79_code (4 : Nat) (Option.some Jvm.ClassFile.FieldType.int)) ∈ xTB := xTB_of 1199 (by decide +kernel) rfl
theorem hw_1200 : (Jvm.Cond.methodLink "ShadeNamesModel" (245 : Nat) ({ cls := "ShadeNamesModel", name := "layMixed", desc := "(I)V" } : Jvm.MethodName)) ∈ xTB := xTB_of 1200 (by decide +kernel) rfl
theorem hw_1202 : (Jvm.Cond.instanceMethod ({ cls := "ShadeNamesModel", name := "layMixed", desc := "(I)V" } : Jvm.MethodName)) ∈ xTB := xTB_of 1202 (by decide +kernel) rfl
theorem hw_1203 : (Jvm.Cond.code ({ cls := "ShadeNamesModel", name := "layMixed", desc := "(I)V" } : Jvm.MethodName) prog_11_method_78_code (7 : Nat) (Option.none : Option Jvm.ClassFile.FieldType)) ∈ xTB := xTB_of 1203 (by decide +kernel) rfl
theorem hw_1204 : (Jvm.Cond.methodLink "ShadeNamesModel" (239 : Nat) ({ cls := "ShadeNamesModel", name := "reachedAt", desc := "(II)V" } : Jvm.MethodName)) ∈ xTB := xTB_of 1204 (by decide +kernel) rfl
theorem hw_1206 : (Jvm.Cond.instanceMethod ({ cls := "ShadeNamesModel", name := "reachedAt", desc := "(II)V" } : Jvm.MethodName)) ∈ xTB := xTB_of 1206 (by decide +kernel) rfl
theorem hw_1207 : (Jvm.Cond.code ({ cls := "ShadeNamesModel", name := "reachedAt", desc := "(II)V" } : Jvm.MethodName) prog_11_method_77_code (3 : Nat) (Option.none : Option Jvm.ClassFile.FieldType)) ∈ xTB := xTB_of 1207 (by decide +kernel) rfl
theorem hw_1208 : (Jvm.Cond.methodLink "ShadeNamesModel" (242 : Nat) ({ cls := "ShadeNamesModel", name := "mixed", desc := "(II)I" } : Jvm.MethodName)) ∈ xTB := xTB_of 1208 (by decide +kernel) rfl
theorem hw_1209 : (Jvm.Cond.static ({ cls := "ShadeNamesModel", name := "mixed", desc := "(II)I" } : Jvm.MethodName)) ∈ xTB := xTB_of 1209 (by decide +kernel) rfl
theorem hw_1210 : (Jvm.Cond.code ({ cls := "ShadeNamesModel", name := "mixed", desc := "(II)I" } : Jvm.MethodName) prog_11_method_76_code (4 : Nat) (Option.some Jvm.ClassFile.FieldType.int)) ∈ xTB := xTB_of 1210 (by decide +kernel) rfl
theorem hw_1211 : (Jvm.Cond.methodLink "ShadeNamesLaw" (134 : Nat) ({ cls := "ShadeNamesModel", name := "cheap", desc := "(II)I" } : Jvm.MethodName)) ∈ xTB := xTB_of 1211 (by decide +kernel) rfl
theorem hw_1212 : (Jvm.Cond.instanceMethod ({ cls := "ShadeNamesModel", name := "cheap", desc := "(II)I" } : Jvm.MethodName)) ∈ xTB := xTB_of 1212 (by decide +kernel) rfl
theorem hw_1213 : (Jvm.Cond.selects "ShadeNamesModel" ({ cls := "ShadeNamesModel", name := "cheap", desc := "(II)I" } : Jvm.MethodName) ({ cls := "ShadeNamesModel", name := "cheap", desc := "(II)I" } : Jvm.MethodName)) ∈ xTB := xTB_of 1213 (by decide +kernel) rfl
theorem hw_1214 : (Jvm.Cond.code ({ cls := "ShadeNamesModel", name := "cheap", desc := "(II)I" } : Jvm.MethodName) prog_11_method_80_code (7 : Nat) (Option.some Jvm.ClassFile.FieldType.int)) ∈ xTB := xTB_of 1214 (by decide +kernel) rfl
theorem hw_1215 : (Jvm.Cond.methodLink "ShadeNamesLaw" (138 : Nat) ({ cls := "ShadeNamesModel", name := "eyes", desc := "(I)I" } : Jvm.MethodName)) ∈ xTB := xTB_of 1215 (by decide +kernel) rfl
theorem hw_1216 : (Jvm.Cond.instanceMethod ({ cls := "ShadeNamesModel", name := "eyes", desc := "(I)I" } : Jvm.MethodName)) ∈ xTB := xTB_of 1216 (by decide +kernel) rfl
theorem hw_1217 : (Jvm.Cond.selects "ShadeNamesModel" ({ cls := "ShadeNamesModel", name := "eyes", desc := "(I)I" } : Jvm.MethodName) ({ cls := "ShadeNamesModel", name := "eyes", desc := "(I)I" } : Jvm.MethodName)) ∈ xTB := xTB_of 1217 (by decide +kernel) rfl
theorem hw_1218 : (Jvm.Cond.code ({ cls := "ShadeNamesModel", name := "eyes", desc := "(I)I" } : Jvm.MethodName) prog_11_method_83_code (3 : Nat) (Option.some Jvm.ClassFile.FieldType.int)) ∈ xTB := xTB_of 1218 (by decide +kernel) rfl
theorem hw_1219 : (Jvm.Cond.methodLink "ShadeNamesModel" (249 : Nat) ({ cls := "ShadeNamesModel", name := "noThrees", desc := "(I)I" } : Jvm.MethodName)) ∈ xTB := xTB_of 1219 (by decide +kernel) rfl
theorem hw_1221 : (Jvm.Cond.instanceMethod ({ cls := "ShadeNamesModel", name := "noThrees", desc := "(I)I" } : Jvm.MethodName)) ∈ xTB := xTB_of 1221 (by decide +kernel) rfl
theorem hw_1222 : (Jvm.Cond.code ({ cls := "ShadeNamesModel", name := "noThrees", desc := "(I)I" } : Jvm.MethodName) prog_11_method_81_code (4 : Nat) (Option.some Jvm.ClassFile.FieldType.int)) ∈ xTB := xTB_of 1222 (by decide +kernel) rfl
theorem hw_1223 : (Jvm.Cond.methodLink "ShadeNamesModel" (252 : Nat) ({ cls := "ShadeNamesModel", name := "eyesOf", desc := "(I)I" } : Jvm.MethodName)) ∈ xTB := xTB_of 1223 (by decide +kernel) rfl
theorem hw_1225 : (Jvm.Cond.instanceMethod ({ cls := "ShadeNamesModel", name := "eyesOf", desc := "(I)I" } : Jvm.MethodName)) ∈ xTB := xTB_of 1225 (by decide +kernel) rfl
theorem hw_1226 : (Jvm.Cond.code ({ cls := "ShadeNamesModel", name := "eyesOf", desc := "(I)I" } : Jvm.MethodName) prog_11_method_82_code (6 : Nat) (Option.some Jvm.ClassFile.FieldType.int)) ∈ xTB := xTB_of 1226 (by decide +kernel) rfl
theorem hw_1227 : (Jvm.Cond.methodLink "ShadeNamesLaw" (142 : Nat) ({ cls := "ShadeNamesModel", name := "show", desc := "(I)I" } : Jvm.MethodName)) ∈ xTB := xTB_of 1227 (by decide +kernel) rfl
theorem hw_1228 : (Jvm.Cond.instanceMethod ({ cls := "ShadeNamesModel", name := "show", desc := "(I)I" } : Jvm.MethodName)) ∈ xTB := xTB_of 1228 (by decide +kernel) rfl
theorem hw_1229 : (Jvm.Cond.selects "ShadeNamesModel" ({ cls := "ShadeNamesModel", name := "show", desc := "(I)I" } : Jvm.MethodName) ({ cls := "ShadeNamesModel", name := "show", desc := "(I)I" } : Jvm.MethodName)) ∈ xTB := xTB_of 1229 (by decide +kernel) rfl
theorem hw_1230 : (Jvm.Cond.code ({ cls := "ShadeNamesModel", name := "show", desc := "(I)I" } : Jvm.MethodName) prog_11_method_84_code (9 : Nat) (Option.some Jvm.ClassFile.FieldType.int)) ∈ xTB := xTB_of 1230 (by decide +kernel) rfl
theorem hw_1231 : (Jvm.Cond.methodLink "ShadeNamesLaw" (146 : Nat) ({ cls := "ShadeNamesModel", name := "judged", desc := "(III)I" } : Jvm.MethodName)) ∈ xTB := xTB_of 1231 (by decide +kernel) rfl
theorem hw_1232 : (Jvm.Cond.instanceMethod ({ cls := "ShadeNamesModel", name := "judged", desc := "(III)I" } : Jvm.MethodName)) ∈ xTB := xTB_of 1232 (by decide +kernel) rfl
theorem hw_1233 : (Jvm.Cond.selects "ShadeNamesModel" ({ cls := "ShadeNamesModel", name := "judged", desc := "(III)I" } : Jvm.MethodName) ({ cls := "ShadeNamesModel", name := "judged", desc := "(III)I" } : Jvm.MethodName)) ∈ xTB := xTB_of 1233 (by decide +kernel) rfl
theorem hw_1234 : (Jvm.Cond.code ({ cls := "ShadeNamesModel", name := "judged", desc := "(III)I" } : Jvm.MethodName) prog_11_method_86_code (6 : Nat) (Option.some Jvm.ClassFile.FieldType.int)) ∈ xTB := xTB_of 1234 (by decide +kernel) rfl
theorem hw_1235 : (Jvm.Cond.methodLink "ShadeNamesModel" (257 : Nat) ({ cls := "ShadeNamesModel", name := "areEyes", desc := "(I)Z" } : Jvm.MethodName)) ∈ xTB := xTB_of 1235 (by decide +kernel) rfl
theorem hw_1237 : (Jvm.Cond.instanceMethod ({ cls := "ShadeNamesModel", name := "areEyes", desc := "(I)Z" } : Jvm.MethodName)) ∈ xTB := xTB_of 1237 (by decide +kernel) rfl
theorem hw_1238 : (Jvm.Cond.code ({ cls := "ShadeNamesModel", name := "areEyes", desc := "(I)Z" } : Jvm.MethodName) prog_11_method_85_code (4 : Nat) (Option.some Jvm.ClassFile.FieldType.boolean)) ∈ xTB := xTB_of 1238 (by decide +kernel) rfl
theorem hw_1239 : (Jvm.Cond.constantLong "ShadeNamesModel" (255 : Nat) (15 : Int64)) ∈ xTB := xTB_of 1239 (by decide +kernel) rfl
theorem hw_1240 : (Jvm.Cond.methodLink "ShadeNamesLaw" (150 : Nat) ({ cls := "ShadeNamesModel", name := "lost", desc := "(I)I" } : Jvm.MethodName)) ∈ xTB := xTB_of 1240 (by decide +kernel) rfl
theorem hw_1241 : (Jvm.Cond.instanceMethod ({ cls := "ShadeNamesModel", name := "lost", desc := "(I)I" } : Jvm.MethodName)) ∈ xTB := xTB_of 1241 (by decide +kernel) rfl
theorem hw_1242 : (Jvm.Cond.selects "ShadeNamesModel" ({ cls := "ShadeNamesModel", name := "lost", desc := "(I)I" } : Jvm.MethodName) ({ cls := "ShadeNamesModel", name := "lost", desc := "(I)I" } : Jvm.MethodName)) ∈ xTB := xTB_of 1242 (by decide +kernel) rfl
theorem hw_1243 : (Jvm.Cond.code ({ cls := "ShadeNamesModel", name := "lost", desc := "(I)I" } : Jvm.MethodName) prog_11_method_87_code (3 : Nat) (Option.some Jvm.ClassFile.FieldType.int)) ∈ xTB := xTB_of 1243 (by decide +kernel) rfl
theorem hw_1244 : (Jvm.Cond.methodLink "ShadeNamesLaw" (154 : Nat) ({ cls := "ShadeNamesModel", name := "moves", desc := "(I)I" } : Jvm.MethodName)) ∈ xTB := xTB_of 1244 (by decide +kernel) rfl
theorem hw_1245 : (Jvm.Cond.instanceMethod ({ cls := "ShadeNamesModel", name := "moves", desc := "(I)I" } : Jvm.MethodName)) ∈ xTB := xTB_of 1245 (by decide +kernel) rfl
theorem hw_1246 : (Jvm.Cond.selects "ShadeNamesModel" ({ cls := "ShadeNamesModel", name := "moves", desc := "(I)I" } : Jvm.MethodName) ({ cls := "ShadeNamesModel", name := "moves", desc := "(I)I" } : Jvm.MethodName)) ∈ xTB := xTB_of 1246 (by decide +kernel) rfl
theorem hw_1247 : (Jvm.Cond.code ({ cls := "ShadeNamesModel", name := "moves", desc := "(I)I" } : Jvm.MethodName) prog_11_method_88_code (4 : Nat) (Option.some Jvm.ClassFile.FieldType.int)) ∈ xTB := xTB_of 1247 (by decide +kernel) rfl
theorem hw_1248 : (Jvm.Cond.methodLink "ShadeNamesLaw" (158 : Nat) ({ cls := "ShadeNamesModel", name := "was", desc := "(II)I" } : Jvm.MethodName)) ∈ xTB := xTB_of 1248 (by decide +kernel) rfl
theorem hw_1249 : (Jvm.Cond.instanceMethod ({ cls := "ShadeNamesModel", name := "was", desc := "(II)I" } : Jvm.MethodName)) ∈ xTB := xTB_of 1249 (by decide +kernel) rfl
theorem hw_1250 : (Jvm.Cond.selects "ShadeNamesModel" ({ cls := "ShadeNamesModel", name := "was", desc := "(II)I" } : Jvm.MethodName) ({ cls := "ShadeNamesModel", name := "was", desc := "(II)I" } : Jvm.MethodName)) ∈ xTB := xTB_of 1250 (by decide +kernel) rfl
theorem hw_1251 : (Jvm.Cond.code ({ cls := "ShadeNamesModel", name := "was", desc := "(II)I" } : Jvm.MethodName) prog_11_method_89_code (7 : Nat) (Option.some Jvm.ClassFile.FieldType.int)) ∈ xTB := xTB_of 1251 (by decide +kernel) rfl
theorem hw_1252 : (Jvm.Cond.methodLink "ShadeNamesLaw" (162 : Nat) ({ cls := "ShadeNamesModel", name := "kinds", desc := "(II)I" } : Jvm.MethodName)) ∈ xTB := xTB_of 1252 (by decide +kernel) rfl
theorem hw_1253 : (Jvm.Cond.instanceMethod ({ cls := "ShadeNamesModel", name := "kinds", desc := "(II)I" } : Jvm.MethodName)) ∈ xTB := xTB_of 1253 (by decide +kernel) rfl
theorem hw_1254 : (Jvm.Cond.selects "ShadeNamesModel" ({ cls := "ShadeNamesModel", name := "kinds", desc := "(II)I" } : Jvm.MethodName) ({ cls := "ShadeNamesModel", name := "kinds", desc := "(II)I" } : Jvm.MethodName)) ∈ xTB := xTB_of 1254 (by decide +kernel) rfl
theorem hw_1255 : (Jvm.Cond.code ({ cls := "ShadeNamesModel", name := "kinds", desc := "(II)I" } : Jvm.MethodName) prog_11_method_90_code (5 : Nat) (Option.some Jvm.ClassFile.FieldType.int)) ∈ xTB := xTB_of 1255 (by decide +kernel) rfl
theorem hw_1256 : (Jvm.Cond.constantLong "ShadeNamesModel" (260 : Nat) (216 : Int64)) ∈ xTB := xTB_of 1256 (by decide +kernel) rfl
theorem hw_1257 : (Jvm.Cond.methodLink "ShadeNamesLaw" (166 : Nat) ({ cls := "ShadeNamesModel", name := "odds", desc := "(I)I" } : Jvm.MethodName)) ∈ xTB := xTB_of 1257 (by decide +kernel) rfl
theorem hw_1258 : (Jvm.Cond.instanceMethod ({ cls := "ShadeNamesModel", name := "odds", desc := "(I)I" } : Jvm.MethodName)) ∈ xTB := xTB_of 1258 (by decide +kernel) rfl
theorem hw_1259 : (Jvm.Cond.selects "ShadeNamesModel" ({ cls := "ShadeNamesModel", name := "odds", desc := "(I)I" } : Jvm.MethodName) ({ cls := "ShadeNamesModel", name := "odds", desc := "(I)I" } : Jvm.MethodName)) ∈ xTB := xTB_of 1259 (by decide +kernel) rfl
theorem hw_1260 : (Jvm.Cond.code ({ cls := "ShadeNamesModel", name := "odds", desc := "(I)I" } : Jvm.MethodName) prog_11_method_92_code (4 : Nat) (Option.some Jvm.ClassFile.FieldType.int)) ∈ xTB := xTB_of 1260 (by decide +kernel) rfl
theorem hw_1261 : (Jvm.Cond.methodLink "ShadeNamesModel" (265 : Nat) ({ cls := "ShadeNamesModel", name := "tellParts", desc := "(I)I" } : Jvm.MethodName)) ∈ xTB := xTB_of 1261 (by decide +kernel) rfl
theorem hw_1263 : (Jvm.Cond.instanceMethod ({ cls := "ShadeNamesModel", name := "tellParts", desc := "(I)I" } : Jvm.MethodName)) ∈ xTB := xTB_of 1263 (by decide +kernel) rfl
theorem hw_1264 : (Jvm.Cond.code ({ cls := "ShadeNamesModel", name := "tellParts", desc := "(I)I" } : Jvm.MethodName) prog_11_method_91_code (5 : Nat) (Option.some Jvm.ClassFile.FieldType.int)) ∈ xTB := xTB_of 1264 (by decide +kernel) rfl
theorem hw_1265 : (Jvm.Cond.methodLink "ShadeNamesLaw" (170 : Nat) ({ cls := "ShadeNamesModel", name := "mid", desc := "(I)I" } : Jvm.MethodName)) ∈ xTB := xTB_of 1265 (by decide +kernel) rfl
theorem hw_1266 : (Jvm.Cond.instanceMethod ({ cls := "ShadeNamesModel", name := "mid", desc := "(I)I" } : Jvm.MethodName)) ∈ xTB := xTB_of 1266 (by decide +kernel) rfl
theorem hw_1267 : (Jvm.Cond.selects "ShadeNamesModel" ({ cls := "ShadeNamesModel", name := "mid", desc := "(I)I" } : Jvm.MethodName) ({ cls := "ShadeNamesModel", name := "mid", desc := "(I)I" } : Jvm.MethodName)) ∈ xTB := xTB_of 1267 (by decide +kernel) rfl
theorem hw_1268 : (Jvm.Cond.code ({ cls := "ShadeNamesModel", name := "mid", desc := "(I)I" } : Jvm.MethodName) prog_11_method_93_code (4 : Nat) (Option.some Jvm.ClassFile.FieldType.int)) ∈ xTB := xTB_of 1268 (by decide +kernel) rfl
theorem hw_1269 : (Jvm.Cond.methodLink "ShadeNamesLaw" (174 : Nat) ({ cls := "ShadeNamesModel", name := "lots", desc := "(III)I" } : Jvm.MethodName)) ∈ xTB := xTB_of 1269 (by decide +kernel) rfl
theorem hw_1270 : (Jvm.Cond.instanceMethod ({ cls := "ShadeNamesModel", name := "lots", desc := "(III)I" } : Jvm.MethodName)) ∈ xTB := xTB_of 1270 (by decide +kernel) rfl
theorem hw_1271 : (Jvm.Cond.selects "ShadeNamesModel" ({ cls := "ShadeNamesModel", name := "lots", desc := "(III)I" } : Jvm.MethodName) ({ cls := "ShadeNamesModel", name := "lots", desc := "(III)I" } : Jvm.MethodName)) ∈ xTB := xTB_of 1271 (by decide +kernel) rfl
theorem hw_1272 : (Jvm.Cond.code ({ cls := "ShadeNamesModel", name := "lots", desc := "(III)I" } : Jvm.MethodName) prog_11_method_94_code (8 : Nat) (Option.some Jvm.ClassFile.FieldType.int)) ∈ xTB := xTB_of 1272 (by decide +kernel) rfl
theorem hw_1273 : (Jvm.Cond.constantLong "ShadeNamesModel" (268 : Nat) (40 : Int64)) ∈ xTB := xTB_of 1273 (by decide +kernel) rfl
theorem hw_1274 : (Jvm.Cond.constantLong "ShadeNamesModel" (270 : Nat) (2147483646 : Int64)) ∈ xTB := xTB_of 1274 (by decide +kernel) rfl
theorem hw_1275 : (Jvm.Cond.constantLong "ShadeNamesModel" (272 : Nat) (48271 : Int64)) ∈ xTB := xTB_of 1275 (by decide +kernel) rfl
theorem hw_1276 : (Jvm.Cond.constantLong "ShadeNamesModel" (274 : Nat) (2147483647 : Int64)) ∈ xTB := xTB_of 1276 (by decide +kernel) rfl
theorem hw_1277 : (Jvm.Cond.constantLong "ShadeNamesModel" (276 : Nat) (8 : Int64)) ∈ xTB := xTB_of 1277 (by decide +kernel) rfl
theorem hw_1278 : (Jvm.Cond.methodLink "ShadeNamesLaw" (178 : Nat) ({ cls := "ShadeNamesModel", name := "asked", desc := "()I" } : Jvm.MethodName)) ∈ xTB := xTB_of 1278 (by decide +kernel) rfl
theorem hw_1279 : (Jvm.Cond.instanceMethod ({ cls := "ShadeNamesModel", name := "asked", desc := "()I" } : Jvm.MethodName)) ∈ xTB := xTB_of 1279 (by decide +kernel) rfl
theorem hw_1280 : (Jvm.Cond.selects "ShadeNamesModel" ({ cls := "ShadeNamesModel", name := "asked", desc := "()I" } : Jvm.MethodName) ({ cls := "ShadeNamesModel", name := "asked", desc := "()I" } : Jvm.MethodName)) ∈ xTB := xTB_of 1280 (by decide +kernel) rfl
theorem hw_1281 : (Jvm.Cond.code ({ cls := "ShadeNamesModel", name := "asked", desc := "()I" } : Jvm.MethodName) prog_11_method_95_code (1 : Nat) (Option.some Jvm.ClassFile.FieldType.int)) ∈ xTB := xTB_of 1281 (by decide +kernel) rfl
theorem hw_1282 : (Jvm.Cond.methodLink "ShadeNamesLaw" (183 : Nat) ({ cls := "ShadeNamesModel", name := "upper", desc := "()J" } : Jvm.MethodName)) ∈ xTB := xTB_of 1282 (by decide +kernel) rfl
theorem hw_1283 : (Jvm.Cond.instanceMethod ({ cls := "ShadeNamesModel", name := "upper", desc := "()J" } : Jvm.MethodName)) ∈ xTB := xTB_of 1283 (by decide +kernel) rfl
theorem hw_1284 : (Jvm.Cond.selects "ShadeNamesModel" ({ cls := "ShadeNamesModel", name := "upper", desc := "()J" } : Jvm.MethodName) ({ cls := "ShadeNamesModel", name := "upper", desc := "()J" } : Jvm.MethodName)) ∈ xTB := xTB_of 1284 (by decide +kernel) rfl
theorem hw_1285 : (Jvm.Cond.code ({ cls := "ShadeNamesModel", name := "upper", desc := "()J" } : Jvm.MethodName) prog_11_method_96_code (1 : Nat) (Option.some Jvm.ClassFile.FieldType.long)) ∈ xTB := xTB_of 1285 (by decide +kernel) rfl
theorem hw_1286 : (Jvm.Cond.methodLink "ShadeNamesLaw" (187 : Nat) ({ cls := "ShadeNamesModel", name := "lower", desc := "()J" } : Jvm.MethodName)) ∈ xTB := xTB_of 1286 (by decide +kernel) rfl
theorem hw_1287 : (Jvm.Cond.instanceMethod ({ cls := "ShadeNamesModel", name := "lower", desc := "()J" } : Jvm.MethodName)) ∈ xTB := xTB_of 1287 (by decide +kernel) rfl
theorem hw_1288 : (Jvm.Cond.selects "ShadeNamesModel" ({ cls := "ShadeNamesModel", name := "lower", desc := "()J" } : Jvm.MethodName) ({ cls := "ShadeNamesModel", name := "lower", desc := "()J" } : Jvm.MethodName)) ∈ xTB := xTB_of 1288 (by decide +kernel) rfl
theorem hw_1289 : (Jvm.Cond.code ({ cls := "ShadeNamesModel", name := "lower", desc := "()J" } : Jvm.MethodName) prog_11_method_97_code (1 : Nat) (Option.some Jvm.ClassFile.FieldType.long)) ∈ xTB := xTB_of 1289 (by decide +kernel) rfl
theorem hw_1290 : (Jvm.Cond.methodLink "ShadeNamesLaw" (191 : Nat) ({ cls := "ShadeNamesModel", name := "count", desc := "(I)I" } : Jvm.MethodName)) ∈ xTB := xTB_of 1290 (by decide +kernel) rfl
theorem hw_1291 : (Jvm.Cond.instanceMethod ({ cls := "ShadeNamesModel", name := "count", desc := "(I)I" } : Jvm.MethodName)) ∈ xTB := xTB_of 1291 (by decide +kernel) rfl
theorem hw_1292 : (Jvm.Cond.selects "ShadeNamesModel" ({ cls := "ShadeNamesModel", name := "count", desc := "(I)I" } : Jvm.MethodName) ({ cls := "ShadeNamesModel", name := "count", desc := "(I)I" } : Jvm.MethodName)) ∈ xTB := xTB_of 1292 (by decide +kernel) rfl
theorem hw_1293 : (Jvm.Cond.code ({ cls := "ShadeNamesModel", name := "count", desc := "(I)I" } : Jvm.MethodName) prog_11_method_102_code (2 : Nat) (Option.some Jvm.ClassFile.FieldType.int)) ∈ xTB := xTB_of 1293 (by decide +kernel) rfl
theorem hw_1294 : (Jvm.Cond.methodLink "ShadeNamesModel" (287 : Nat) ({ cls := "ShadeNamesModel", name := "countOf", desc := "(I)I" } : Jvm.MethodName)) ∈ xTB := xTB_of 1294 (by decide +kernel) rfl
theorem hw_1296 : (Jvm.Cond.instanceMethod ({ cls := "ShadeNamesModel", name := "countOf", desc := "(I)I" } : Jvm.MethodName)) ∈ xTB := xTB_of 1296 (by decide +kernel) rfl
theorem hw_1297 : (Jvm.Cond.code ({ cls := "ShadeNamesModel", name := "countOf", desc := "(I)I" } : Jvm.MethodName) prog_11_method_101_code (2 : Nat) (Option.some Jvm.ClassFile.FieldType.int)) ∈ xTB := xTB_of 1297 (by decide +kernel) rfl
theorem hw_1298 : (Jvm.Cond.methodLink "ShadeNamesModel" (278 : Nat) ({ cls := "ShadeNamesModel", name := "sumOf", desc := "(I)I" } : Jvm.MethodName)) ∈ xTB := xTB_of 1298 (by decide +kernel) rfl
theorem hw_1300 : (Jvm.Cond.instanceMethod ({ cls := "ShadeNamesModel", name := "sumOf", desc := "(I)I" } : Jvm.MethodName)) ∈ xTB := xTB_of 1300 (by decide +kernel) rfl
theorem hw_1301 : (Jvm.Cond.code ({ cls := "ShadeNamesModel", name := "sumOf", desc := "(I)I" } : Jvm.MethodName) prog_11_method_98_code (4 : Nat) (Option.some Jvm.ClassFile.FieldType.int)) ∈ xTB := xTB_of 1301 (by decide +kernel) rfl
theorem hw_1302 : (Jvm.Cond.methodLink "ShadeNamesModel" (281 : Nat) ({ cls := "ShadeNamesModel", name := "kindMany", desc := "(I)I" } : Jvm.MethodName)) ∈ xTB := xTB_of 1302 (by decide +kernel) rfl
theorem hw_1304 : (Jvm.Cond.instanceMethod ({ cls := "ShadeNamesModel", name := "kindMany", desc := "(I)I" } : Jvm.MethodName)) ∈ xTB := xTB_of 1304 (by decide +kernel) rfl
theorem hw_1305 : (Jvm.Cond.code ({ cls := "ShadeNamesModel", name := "kindMany", desc := "(I)I" } : Jvm.MethodName) prog_11_method_99_code (4 : Nat) (Option.some Jvm.ClassFile.FieldType.int)) ∈ xTB := xTB_of 1305 (by decide +kernel) rfl
theorem hw_1306 : (Jvm.Cond.methodLink "ShadeNamesModel" (284 : Nat) ({ cls := "ShadeNamesModel", name := "thereOf", desc := "(I)I" } : Jvm.MethodName)) ∈ xTB := xTB_of 1306 (by decide +kernel) rfl
theorem hw_1308 : (Jvm.Cond.instanceMethod ({ cls := "ShadeNamesModel", name := "thereOf", desc := "(I)I" } : Jvm.MethodName)) ∈ xTB := xTB_of 1308 (by decide +kernel) rfl
theorem hw_1309 : (Jvm.Cond.code ({ cls := "ShadeNamesModel", name := "thereOf", desc := "(I)I" } : Jvm.MethodName) prog_11_method_100_code (4 : Nat) (Option.some Jvm.ClassFile.FieldType.int)) ∈ xTB := xTB_of 1309 (by decide +kernel) rfl
theorem hw_1310 : (Jvm.Cond.methodLink "ShadeNamesLaw" (195 : Nat) ({ cls := "ShadeNamesModel", name := "finding", desc := "()I" } : Jvm.MethodName)) ∈ xTB := xTB_of 1310 (by decide +kernel) rfl
theorem hw_1311 : (Jvm.Cond.instanceMethod ({ cls := "ShadeNamesModel", name := "finding", desc := "()I" } : Jvm.MethodName)) ∈ xTB := xTB_of 1311 (by decide +kernel) rfl
theorem hw_1312 : (Jvm.Cond.selects "ShadeNamesModel" ({ cls := "ShadeNamesModel", name := "finding", desc := "()I" } : Jvm.MethodName) ({ cls := "ShadeNamesModel", name := "finding", desc := "()I" } : Jvm.MethodName)) ∈ xTB := xTB_of 1312 (by decide +kernel) rfl
theorem hw_1313 : (Jvm.Cond.code ({ cls := "ShadeNamesModel", name := "finding", desc := "()I" } : Jvm.MethodName) prog_11_method_103_code (1 : Nat) (Option.some Jvm.ClassFile.FieldType.int)) ∈ xTB := xTB_of 1313 (by decide +kernel) rfl
theorem hw_1314 : (Jvm.Cond.methodLink "ShadeNamesLaw" (199 : Nat) ({ cls := "ShadeNamesModel", name := "findings", desc := "(I)I" } : Jvm.MethodName)) ∈ xTB := xTB_of 1314 (by decide +kernel) rfl
theorem hw_1315 : (Jvm.Cond.instanceMethod ({ cls := "ShadeNamesModel", name := "findings", desc := "(I)I" } : Jvm.MethodName)) ∈ xTB := xTB_of 1315 (by decide +kernel) rfl
theorem hw_1316 : (Jvm.Cond.selects "ShadeNamesModel" ({ cls := "ShadeNamesModel", name := "findings", desc := "(I)I" } : Jvm.MethodName) ({ cls := "ShadeNamesModel", name := "findings", desc := "(I)I" } : Jvm.MethodName)) ∈ xTB := xTB_of 1316 (by decide +kernel) rfl
theorem hw_1317 : (Jvm.Cond.code ({ cls := "ShadeNamesModel", name := "findings", desc := "(I)I" } : Jvm.MethodName) prog_11_method_104_code (2 : Nat) (Option.some Jvm.ClassFile.FieldType.int)) ∈ xTB := xTB_of 1317 (by decide +kernel) rfl
theorem hw_1318 : (Jvm.Cond.methodLink "ShadeNamesLaw" (203 : Nat) ({ cls := "ShadeNamesModel", name := "digest", desc := "()J" } : Jvm.MethodName)) ∈ xTB := xTB_of 1318 (by decide +kernel) rfl
theorem hw_1319 : (Jvm.Cond.instanceMethod ({ cls := "ShadeNamesModel", name := "digest", desc := "()J" } : Jvm.MethodName)) ∈ xTB := xTB_of 1319 (by decide +kernel) rfl
theorem hw_1320 : (Jvm.Cond.selects "ShadeNamesModel" ({ cls := "ShadeNamesModel", name := "digest", desc := "()J" } : Jvm.MethodName) ({ cls := "ShadeNamesModel", name := "digest", desc := "()J" } : Jvm.MethodName)) ∈ xTB := xTB_of 1320 (by decide +kernel) rfl
theorem hw_1321 : (Jvm.Cond.code ({ cls := "ShadeNamesModel", name := "digest", desc := "()J" } : Jvm.MethodName) prog_11_method_105_code (5 : Nat) (Option.some Jvm.ClassFile.FieldType.long)) ∈ xTB := xTB_of 1321 (by decide +kernel) rfl
theorem hw_1322 : (Jvm.Cond.constantLong "ShadeNamesModel" (290 : Nat) (17 : Int64)) ∈ xTB := xTB_of 1322 (by decide +kernel) rfl
theorem hw_1323 : (Jvm.Cond.constantLong "ShadeNamesModel" (292 : Nat) (31 : Int64)) ∈ xTB := xTB_of 1323 (by decide +kernel) rfl
theorem hw_1324 : (Jvm.Cond.fieldLink "java/lang/String" (9 : Nat) "java/lang/String" "value" "[B") ∈ xTB := xTB_of 1324 (by decide +kernel) rfl
theorem hw_1325 : (Jvm.Cond.fieldLink "java/lang/String" (15 : Nat) "java/lang/String" "coder" "B") ∈ xTB := xTB_of 1325 (by decide +kernel) rfl
