/-! words that all methods have, by their places -/
theorem jw_953 : (Jvm.Cond.instanceMethod ({ cls := "CoreLeases", name := "waitFor", desc := "(IIII)I" } : Jvm.MethodName)) ∈ jall := jt 953 (by decide +kernel) rfl
theorem jw_954 : (Jvm.Cond.selects "CoreLeases" ({ cls := "CoreLeases", name := "waitFor", desc := "(IIII)I" } : Jvm.MethodName) ({ cls := "CoreLeases", name := "waitFor", desc := "(IIII)I" } : Jvm.MethodName)) ∈ jall := jt 954 (by decide +kernel) rfl
theorem jw_955 : (Jvm.Cond.code ({ cls := "CoreLeases", name := "waitFor", desc := "(IIII)I" } : Jvm.MethodName) prog_1_method_26_code (7 : Nat) (Option.some Jvm.ClassFile.FieldType.int)) ∈ jall := jt 955 (by decide +kernel) rfl
theorem jw_956 : (Jvm.Cond.methodLink "CoreLeasesLaw" (191 : Nat) ({ cls := "CoreLeasesLaw", name := "ifRead", desc := "(LCoreLeases;II[J)I" } : Jvm.MethodName)) ∈ jall := jt 956 (by decide +kernel) rfl
theorem jw_957 : (Jvm.Cond.static ({ cls := "CoreLeasesLaw", name := "ifRead", desc := "(LCoreLeases;II[J)I" } : Jvm.MethodName)) ∈ jall := jt 957 (by decide +kernel) rfl
theorem jw_958 : (Jvm.Cond.codeWith ({ cls := "CoreLeasesLaw", name := "ifRead", desc := "(LCoreLeases;II[J)I" } : Jvm.MethodName) method_26_code (5 : Nat) (Option.some Jvm.ClassFile.FieldType.int) [((0 : Nat), (10 : Nat), (13 : Nat), (25 : Nat)), ((0 : Nat), (10 : Nat), (17 : Nat), (13 : Nat))]) ∈ jall := jt 958 (by decide +kernel) rfl
theorem jw_959 : (Jvm.Cond.methodLink "CoreLeasesLaw" (90 : Nat) ({ cls := "CoreLeases", name := "ifRead", desc := "(II)I" } : Jvm.MethodName)) ∈ jall := jt 959 (by decide +kernel) rfl
theorem jw_960 : (Jvm.Cond.instanceMethod ({ cls := "CoreLeases", name := "ifRead", desc := "(II)I" } : Jvm.MethodName)) ∈ jall := jt 960 (by decide +kernel) rfl
theorem jw_961 : (Jvm.Cond.selects "CoreLeases" ({ cls := "CoreLeases", name := "ifRead", desc := "(II)I" } : Jvm.MethodName) ({ cls := "CoreLeases", name := "ifRead", desc := "(II)I" } : Jvm.MethodName)) ∈ jall := jt 961 (by decide +kernel) rfl
theorem jw_962 : (Jvm.Cond.code ({ cls := "CoreLeases", name := "ifRead", desc := "(II)I" } : Jvm.MethodName) prog_1_method_27_code (3 : Nat) (Option.some Jvm.ClassFile.FieldType.int)) ∈ jall := jt 962 (by decide +kernel) rfl
theorem jw_963 : (Jvm.Cond.methodLink "CoreLeases" (292 : Nat) ({ cls := "CoreLeases$Plane", name := "heatBehind", desc := "(I)I" } : Jvm.MethodName)) ∈ jall := jt 963 (by decide +kernel) rfl
theorem jw_964 : (Jvm.Cond.methodLink "CoreLeases" (295 : Nat) ({ cls := "CoreLeases$Plane", name := "strengthBehindPulse", desc := "(I)I" } : Jvm.MethodName)) ∈ jall := jt 964 (by decide +kernel) rfl
theorem jw_965 : (Jvm.Cond.methodLink "CoreLeases" (298 : Nat) ({ cls := "CoreLeases$Cores", name := "insured", desc := "()J" } : Jvm.MethodName)) ∈ jall := jt 965 (by decide +kernel) rfl
theorem jw_966 : (Jvm.Cond.methodLink "CoreLeasesLaw" (198 : Nat) ({ cls := "CoreLeasesLaw", name := "savable", desc := "(LCoreLeases;I[J)I" } : Jvm.MethodName)) ∈ jall := jt 966 (by decide +kernel) rfl
theorem jw_967 : (Jvm.Cond.static ({ cls := "CoreLeasesLaw", name := "savable", desc := "(LCoreLeases;I[J)I" } : Jvm.MethodName)) ∈ jall := jt 967 (by decide +kernel) rfl
theorem jw_968 : (Jvm.Cond.codeWith ({ cls := "CoreLeasesLaw", name := "savable", desc := "(LCoreLeases;I[J)I" } : Jvm.MethodName) method_27_code (4 : Nat) (Option.some Jvm.ClassFile.FieldType.int) [((0 : Nat), (9 : Nat), (12 : Nat), (13 : Nat))]) ∈ jall := jt 968 (by decide +kernel) rfl
theorem jw_969 : (Jvm.Cond.methodLink "CoreLeasesLaw" (93 : Nat) ({ cls := "CoreLeases", name := "savable", desc := "(I)I" } : Jvm.MethodName)) ∈ jall := jt 969 (by decide +kernel) rfl
theorem jw_970 : (Jvm.Cond.methodLink "CoreLeasesLaw" (201 : Nat) ({ cls := "CoreLeasesLaw", name := "atRisk", desc := "(LCoreLeases;I[J)I" } : Jvm.MethodName)) ∈ jall := jt 970 (by decide +kernel) rfl
theorem jw_971 : (Jvm.Cond.static ({ cls := "CoreLeasesLaw", name := "atRisk", desc := "(LCoreLeases;I[J)I" } : Jvm.MethodName)) ∈ jall := jt 971 (by decide +kernel) rfl
theorem jw_972 : (Jvm.Cond.codeWith ({ cls := "CoreLeasesLaw", name := "atRisk", desc := "(LCoreLeases;I[J)I" } : Jvm.MethodName) method_28_code (4 : Nat) (Option.some Jvm.ClassFile.FieldType.int) [((0 : Nat), (9 : Nat), (12 : Nat), (25 : Nat))]) ∈ jall := jt 972 (by decide +kernel) rfl
theorem jw_973 : (Jvm.Cond.methodLink "CoreLeasesLaw" (96 : Nat) ({ cls := "CoreLeases", name := "atRisk", desc := "(I)I" } : Jvm.MethodName)) ∈ jall := jt 973 (by decide +kernel) rfl
theorem jw_974 : (Jvm.Cond.classLink "CoreLeasesLaw" (100 : Nat) "CoreLeasesModel") ∈ jall := jt 974 (by decide +kernel) rfl
theorem jw_975 : (Jvm.Cond.instantiable "CoreLeasesModel" (14 : Nat)) ∈ jall := jt 975 (by decide +kernel) rfl
theorem jw_976 : (Jvm.Cond.methodLink "CoreLeasesLaw" (102 : Nat) ({ cls := "CoreLeasesModel", name := "<init>", desc := "()V" } : Jvm.MethodName)) ∈ jall := jt 976 (by decide +kernel) rfl
theorem jw_977 : (Jvm.Cond.instanceMethod ({ cls := "CoreLeasesModel", name := "<init>", desc := "()V" } : Jvm.MethodName)) ∈ jall := jt 977 (by decide +kernel) rfl
theorem jw_978 : (Jvm.Cond.code ({ cls := "CoreLeasesModel", name := "<init>", desc := "()V" } : Jvm.MethodName) prog_10_method_1_code (2 : Nat) (Option.none : Option Jvm.ClassFile.FieldType)) ∈ jall := jt 978 (by decide +kernel) rfl
theorem jw_979 : (Jvm.Cond.methodLink "CoreLeasesModel" (1 : Nat) ({ cls := "java/lang/Object", name := "<init>", desc := "()V" } : Jvm.MethodName)) ∈ jall := jt 979 (by decide +kernel) rfl
theorem jw_980 : (Jvm.Cond.methodLink "CoreLeasesModel" (34 : Nat) ({ cls := "CoreLeasesModel", name := "lay", desc := "(III)V" } : Jvm.MethodName)) ∈ jall := jt 980 (by decide +kernel) rfl
theorem jw_982 : (Jvm.Cond.instanceMethod ({ cls := "CoreLeasesModel", name := "lay", desc := "(III)V" } : Jvm.MethodName)) ∈ jall := jt 982 (by decide +kernel) rfl
theorem jw_983 : (Jvm.Cond.code ({ cls := "CoreLeasesModel", name := "lay", desc := "(III)V" } : Jvm.MethodName) prog_10_method_11_code (4 : Nat) (Option.none : Option Jvm.ClassFile.FieldType)) ∈ jall := jt 983 (by decide +kernel) rfl
theorem jw_984 : (Jvm.Cond.fieldLink "CoreLeasesModel" (7 : Nat) "CoreLeasesModel" "z" "[I") ∈ jall := jt 984 (by decide +kernel) rfl
theorem jw_985 : (Jvm.Cond.fieldLink "CoreLeasesModel" (13 : Nat) "CoreLeasesModel" "aside" "[I") ∈ jall := jt 985 (by decide +kernel) rfl
theorem jw_986 : (Jvm.Cond.fieldLink "CoreLeasesModel" (16 : Nat) "CoreLeasesModel" "rows" "[I") ∈ jall := jt 986 (by decide +kernel) rfl
theorem jw_987 : (Jvm.Cond.fieldLink "CoreLeasesModel" (19 : Nat) "CoreLeasesModel" "text" "[I") ∈ jall := jt 987 (by decide +kernel) rfl
theorem jw_988 : (Jvm.Cond.fieldLink "CoreLeasesModel" (22 : Nat) "CoreLeasesModel" "kinds" "[I") ∈ jall := jt 988 (by decide +kernel) rfl
theorem jw_989 : (Jvm.Cond.fieldLink "CoreLeasesModel" (25 : Nat) "CoreLeasesModel" "cores" "[I") ∈ jall := jt 989 (by decide +kernel) rfl
theorem jw_990 : (Jvm.Cond.fieldLink "CoreLeasesModel" (28 : Nat) "CoreLeasesModel" "values" "[I") ∈ jall := jt 990 (by decide +kernel) rfl
theorem jw_991 : (Jvm.Cond.fieldLink "CoreLeasesModel" (31 : Nat) "CoreLeasesModel" "order" "[I") ∈ jall := jt 991 (by decide +kernel) rfl
theorem jw_992 : (Jvm.Cond.fieldLink "CoreLeasesModel" (166 : Nat) "CoreLeasesModel" "entries" "I") ∈ jall := jt 992 (by decide +kernel) rfl
theorem jw_993 : (Jvm.Cond.fieldLink "CoreLeasesModel" (163 : Nat) "CoreLeasesModel" "state" "I") ∈ jall := jt 993 (by decide +kernel) rfl
theorem jw_994 : (Jvm.Cond.fieldLink "CoreLeasesModel" (46 : Nat) "CoreLeasesModel" "saved" "I") ∈ jall := jt 994 (by decide +kernel) rfl
theorem jw_995 : (Jvm.Cond.fieldLink "CoreLeasesModel" (160 : Nat) "CoreLeasesModel" "length" "I") ∈ jall := jt 995 (by decide +kernel) rfl
theorem jw_996 : (Jvm.Cond.fieldLink "CoreLeasesModel" (38 : Nat) "CoreLeasesModel" "thrown" "I") ∈ jall := jt 996 (by decide +kernel) rfl
theorem jw_997 : (Jvm.Cond.fieldLink "CoreLeasesModel" (256 : Nat) "CoreLeasesModel" "h" "J") ∈ jall := jt 997 (by decide +kernel) rfl
theorem jw_998 : (Jvm.Cond.laysFinal "CoreLeasesModel" "CoreLeasesModel" "z" "[I") ∈ jall := jt 998 (by decide +kernel) rfl
theorem jw_1000 : (Jvm.Cond.laysFinal "CoreLeasesModel" "CoreLeasesModel" "aside" "[I") ∈ jall := jt 1000 (by decide +kernel) rfl
theorem jw_1002 : (Jvm.Cond.laysFinal "CoreLeasesModel" "CoreLeasesModel" "rows" "[I") ∈ jall := jt 1002 (by decide +kernel) rfl
theorem jw_1004 : (Jvm.Cond.laysFinal "CoreLeasesModel" "CoreLeasesModel" "text" "[I") ∈ jall := jt 1004 (by decide +kernel) rfl
theorem jw_1006 : (Jvm.Cond.laysFinal "CoreLeasesModel" "CoreLeasesModel" "kinds" "[I") ∈ jall := jt 1006 (by decide +kernel) rfl
theorem jw_1008 : (Jvm.Cond.laysFinal "CoreLeasesModel" "CoreLeasesModel" "cores" "[I") ∈ jall := jt 1008 (by decide +kernel) rfl
theorem jw_1010 : (Jvm.Cond.laysFinal "CoreLeasesModel" "CoreLeasesModel" "values" "[I") ∈ jall := jt 1010 (by decide +kernel) rfl
theorem jw_1012 : (Jvm.Cond.laysFinal "CoreLeasesModel" "CoreLeasesModel" "order" "[I") ∈ jall := jt 1012 (by decide +kernel) rfl
theorem jw_1014 : (Jvm.Cond.lays "CoreLeasesModel" "CoreLeasesModel" "entries" "I") ∈ jall := jt 1014 (by decide +kernel) rfl
theorem jw_1016 : (Jvm.Cond.lays "CoreLeasesModel" "CoreLeasesModel" "state" "I") ∈ jall := jt 1016 (by decide +kernel) rfl
theorem jw_1018 : (Jvm.Cond.lays "CoreLeasesModel" "CoreLeasesModel" "saved" "I") ∈ jall := jt 1018 (by decide +kernel) rfl
theorem jw_1020 : (Jvm.Cond.lays "CoreLeasesModel" "CoreLeasesModel" "length" "I") ∈ jall := jt 1020 (by decide +kernel) rfl
theorem jw_1022 : (Jvm.Cond.lays "CoreLeasesModel" "CoreLeasesModel" "thrown" "I") ∈ jall := jt 1022 (by decide +kernel) rfl
theorem jw_1024 : (Jvm.Cond.lays "CoreLeasesModel" "CoreLeasesModel" "h" "J") ∈ jall := jt 1024 (by decide +kernel) rfl
theorem jw_1027 : (Jvm.Cond.methodLink "CoreLeasesLaw" (109 : Nat) ({ cls := "CoreLeasesModel", name := "thrown", desc := "()I" } : Jvm.MethodName)) ∈ jall := jt 1027 (by decide +kernel) rfl
theorem jw_1028 : (Jvm.Cond.instanceMethod ({ cls := "CoreLeasesModel", name := "thrown", desc := "()I" } : Jvm.MethodName)) ∈ jall := jt 1028 (by decide +kernel) rfl
theorem jw_1029 : (Jvm.Cond.selects "CoreLeasesModel" ({ cls := "CoreLeasesModel", name := "thrown", desc := "()I" } : Jvm.MethodName) ({ cls := "CoreLeasesModel", name := "thrown", desc := "()I" } : Jvm.MethodName)) ∈ jall := jt 1029 (by decide +kernel) rfl
theorem jw_1030 : (Jvm.Cond.code ({ cls := "CoreLeasesModel", name := "thrown", desc := "()I" } : Jvm.MethodName) prog_10_method_2_code (1 : Nat) (Option.some Jvm.ClassFile.FieldType.int)) ∈ jall := jt 1030 (by decide +kernel) rfl
theorem jw_1031 : (Jvm.Cond.methodLink "CoreLeasesLaw" (108 : Nat) ({ cls := "CoreLeasesModel", name := "addTenant", desc := "(I)I" } : Jvm.MethodName)) ∈ jall := jt 1031 (by decide +kernel) rfl
theorem jw_1032 : (Jvm.Cond.instanceMethod ({ cls := "CoreLeasesModel", name := "addTenant", desc := "(I)I" } : Jvm.MethodName)) ∈ jall := jt 1032 (by decide +kernel) rfl
theorem jw_1033 : (Jvm.Cond.selects "CoreLeasesModel" ({ cls := "CoreLeasesModel", name := "addTenant", desc := "(I)I" } : Jvm.MethodName) ({ cls := "CoreLeasesModel", name := "addTenant", desc := "(I)I" } : Jvm.MethodName)) ∈ jall := jt 1033 (by decide +kernel) rfl
theorem jw_1034 : (Jvm.Cond.code ({ cls := "CoreLeasesModel", name := "addTenant", desc := "(I)I" } : Jvm.MethodName) prog_10_method_18_code (2 : Nat) (Option.some Jvm.ClassFile.FieldType.int)) ∈ jall := jt 1034 (by decide +kernel) rfl
theorem jw_1035 : (Jvm.Cond.methodLink "CoreLeasesModel" (42 : Nat) ({ cls := "CoreLeasesModel", name := "within", desc := "(III)Z" } : Jvm.MethodName)) ∈ jall := jt 1035 (by decide +kernel) rfl
theorem jw_1036 : (Jvm.Cond.static ({ cls := "CoreLeasesModel", name := "within", desc := "(III)Z" } : Jvm.MethodName)) ∈ jall := jt 1036 (by decide +kernel) rfl
theorem jw_1037 : (Jvm.Cond.code ({ cls := "CoreLeasesModel", name := "within", desc := "(III)Z" } : Jvm.MethodName) prog_10_method_4_code (3 : Nat) (Option.some Jvm.ClassFile.FieldType.boolean)) ∈ jall := jt 1037 (by decide +kernel) rfl
theorem jw_1038 : (Jvm.Cond.methodLink "CoreLeasesModel" (49 : Nat) ({ cls := "CoreLeasesModel", name := "fails", desc := "(I)I" } : Jvm.MethodName)) ∈ jall := jt 1038 (by decide +kernel) rfl
theorem jw_1040 : (Jvm.Cond.instanceMethod ({ cls := "CoreLeasesModel", name := "fails", desc := "(I)I" } : Jvm.MethodName)) ∈ jall := jt 1040 (by decide +kernel) rfl
theorem jw_1041 : (Jvm.Cond.code ({ cls := "CoreLeasesModel", name := "fails", desc := "(I)I" } : Jvm.MethodName) prog_10_method_3_code (2 : Nat) (Option.some Jvm.ClassFile.FieldType.int)) ∈ jall := jt 1041 (by decide +kernel) rfl
theorem jw_1042 : (Jvm.Cond.methodLink "CoreLeasesModel" (53 : Nat) ({ cls := "CoreLeasesModel", name := "save", desc := "()V" } : Jvm.MethodName)) ∈ jall := jt 1042 (by decide +kernel) rfl
theorem jw_1044 : (Jvm.Cond.instanceMethod ({ cls := "CoreLeasesModel", name := "save", desc := "()V" } : Jvm.MethodName)) ∈ jall := jt 1044 (by decide +kernel) rfl
theorem jw_1045 : (Jvm.Cond.code ({ cls := "CoreLeasesModel", name := "save", desc := "()V" } : Jvm.MethodName) prog_10_method_15_code (2 : Nat) (Option.none : Option Jvm.ClassFile.FieldType)) ∈ jall := jt 1045 (by decide +kernel) rfl
theorem jw_1046 : (Jvm.Cond.methodLink "CoreLeasesLaw" (115 : Nat) ({ cls := "CoreLeasesModel", name := "addInsurer", desc := "(III)I" } : Jvm.MethodName)) ∈ jall := jt 1046 (by decide +kernel) rfl
theorem jw_1047 : (Jvm.Cond.instanceMethod ({ cls := "CoreLeasesModel", name := "addInsurer", desc := "(III)I" } : Jvm.MethodName)) ∈ jall := jt 1047 (by decide +kernel) rfl
theorem jw_1048 : (Jvm.Cond.selects "CoreLeasesModel" ({ cls := "CoreLeasesModel", name := "addInsurer", desc := "(III)I" } : Jvm.MethodName) ({ cls := "CoreLeasesModel", name := "addInsurer", desc := "(III)I" } : Jvm.MethodName)) ∈ jall := jt 1048 (by decide +kernel) rfl
theorem jw_1049 : (Jvm.Cond.code ({ cls := "CoreLeasesModel", name := "addInsurer", desc := "(III)I" } : Jvm.MethodName) prog_10_method_19_code (5 : Nat) (Option.some Jvm.ClassFile.FieldType.int)) ∈ jall := jt 1049 (by decide +kernel) rfl
theorem jw_1050 : (Jvm.Cond.methodLink "CoreLeasesLaw" (119 : Nat) ({ cls := "CoreLeasesModel", name := "set", desc := "(II)I" } : Jvm.MethodName)) ∈ jall := jt 1050 (by decide +kernel) rfl
theorem jw_1051 : (Jvm.Cond.instanceMethod ({ cls := "CoreLeasesModel", name := "set", desc := "(II)I" } : Jvm.MethodName)) ∈ jall := jt 1051 (by decide +kernel) rfl
theorem jw_1052 : (Jvm.Cond.selects "CoreLeasesModel" ({ cls := "CoreLeasesModel", name := "set", desc := "(II)I" } : Jvm.MethodName) ({ cls := "CoreLeasesModel", name := "set", desc := "(II)I" } : Jvm.MethodName)) ∈ jall := jt 1052 (by decide +kernel) rfl
theorem jw_1053 : (Jvm.Cond.code ({ cls := "CoreLeasesModel", name := "set", desc := "(II)I" } : Jvm.MethodName) prog_10_method_21_code (4 : Nat) (Option.some Jvm.ClassFile.FieldType.int)) ∈ jall := jt 1053 (by decide +kernel) rfl
theorem jw_1054 : (Jvm.Cond.methodLink "CoreLeasesModel" (56 : Nat) ({ cls := "CoreLeasesModel", name := "mostOf", desc := "(I)I" } : Jvm.MethodName)) ∈ jall := jt 1054 (by decide +kernel) rfl
theorem jw_1055 : (Jvm.Cond.static ({ cls := "CoreLeasesModel", name := "mostOf", desc := "(I)I" } : Jvm.MethodName)) ∈ jall := jt 1055 (by decide +kernel) rfl
theorem jw_1056 : (Jvm.Cond.code ({ cls := "CoreLeasesModel", name := "mostOf", desc := "(I)I" } : Jvm.MethodName) prog_10_method_20_code (1 : Nat) (Option.some Jvm.ClassFile.FieldType.int)) ∈ jall := jt 1056 (by decide +kernel) rfl
theorem jw_1057 : (Jvm.Cond.methodLink "CoreLeasesModel" (59 : Nat) ({ cls := "CoreLeasesModel", name := "rule", desc := "(I)I" } : Jvm.MethodName)) ∈ jall := jt 1057 (by decide +kernel) rfl
theorem jw_1059 : (Jvm.Cond.instanceMethod ({ cls := "CoreLeasesModel", name := "rule", desc := "(I)I" } : Jvm.MethodName)) ∈ jall := jt 1059 (by decide +kernel) rfl
theorem jw_1060 : (Jvm.Cond.code ({ cls := "CoreLeasesModel", name := "rule", desc := "(I)I" } : Jvm.MethodName) prog_10_method_14_code (2 : Nat) (Option.some Jvm.ClassFile.FieldType.int)) ∈ jall := jt 1060 (by decide +kernel) rfl
theorem jw_1061 : (Jvm.Cond.methodLink "CoreLeasesLaw" (122 : Nat) ({ cls := "CoreLeasesModel", name := "lease", desc := "(III)I" } : Jvm.MethodName)) ∈ jall := jt 1061 (by decide +kernel) rfl
theorem jw_1062 : (Jvm.Cond.instanceMethod ({ cls := "CoreLeasesModel", name := "lease", desc := "(III)I" } : Jvm.MethodName)) ∈ jall := jt 1062 (by decide +kernel) rfl
theorem jw_1063 : (Jvm.Cond.selects "CoreLeasesModel" ({ cls := "CoreLeasesModel", name := "lease", desc := "(III)I" } : Jvm.MethodName) ({ cls := "CoreLeasesModel", name := "lease", desc := "(III)I" } : Jvm.MethodName)) ∈ jall := jt 1063 (by decide +kernel) rfl
theorem jw_1064 : (Jvm.Cond.code ({ cls := "CoreLeasesModel", name := "lease", desc := "(III)I" } : Jvm.MethodName) prog_10_method_25_code (5 : Nat) (Option.some Jvm.ClassFile.FieldType.int)) ∈ jall := jt 1064 (by decide +kernel) rfl
theorem jw_1065 : (Jvm.Cond.methodLink "CoreLeasesModel" (66 : Nat) ({ cls := "CoreLeasesModel", name := "isCore", desc := "(I)Z" } : Jvm.MethodName)) ∈ jall := jt 1065 (by decide +kernel) rfl
theorem jw_1066 : (Jvm.Cond.static ({ cls := "CoreLeasesModel", name := "isCore", desc := "(I)Z" } : Jvm.MethodName)) ∈ jall := jt 1066 (by decide +kernel) rfl
theorem jw_1067 : (Jvm.Cond.code ({ cls := "CoreLeasesModel", name := "isCore", desc := "(I)Z" } : Jvm.MethodName) prog_10_method_7_code (1 : Nat) (Option.some Jvm.ClassFile.FieldType.boolean)) ∈ jall := jt 1067 (by decide +kernel) rfl
theorem jw_1068 : (Jvm.Cond.methodLink "CoreLeasesModel" (70 : Nat) ({ cls := "CoreLeasesModel", name := "isTenant", desc := "(I)Z" } : Jvm.MethodName)) ∈ jall := jt 1068 (by decide +kernel) rfl
theorem jw_1070 : (Jvm.Cond.instanceMethod ({ cls := "CoreLeasesModel", name := "isTenant", desc := "(I)Z" } : Jvm.MethodName)) ∈ jall := jt 1070 (by decide +kernel) rfl
theorem jw_1071 : (Jvm.Cond.code ({ cls := "CoreLeasesModel", name := "isTenant", desc := "(I)Z" } : Jvm.MethodName) prog_10_method_8_code (2 : Nat) (Option.some Jvm.ClassFile.FieldType.boolean)) ∈ jall := jt 1071 (by decide +kernel) rfl
theorem jw_1072 : (Jvm.Cond.methodLink "CoreLeasesModel" (73 : Nat) ({ cls := "CoreLeasesModel", name := "areTicks", desc := "(I)Z" } : Jvm.MethodName)) ∈ jall := jt 1072 (by decide +kernel) rfl
theorem jw_1073 : (Jvm.Cond.static ({ cls := "CoreLeasesModel", name := "areTicks", desc := "(I)Z" } : Jvm.MethodName)) ∈ jall := jt 1073 (by decide +kernel) rfl
theorem jw_1074 : (Jvm.Cond.code ({ cls := "CoreLeasesModel", name := "areTicks", desc := "(I)Z" } : Jvm.MethodName) prog_10_method_22_code (1 : Nat) (Option.some Jvm.ClassFile.FieldType.boolean)) ∈ jall := jt 1074 (by decide +kernel) rfl
theorem jw_1075 : (Jvm.Cond.methodLink "CoreLeasesModel" (76 : Nat) ({ cls := "CoreLeasesModel", name := "isLeased", desc := "(I)Z" } : Jvm.MethodName)) ∈ jall := jt 1075 (by decide +kernel) rfl
theorem jw_1077 : (Jvm.Cond.instanceMethod ({ cls := "CoreLeasesModel", name := "isLeased", desc := "(I)Z" } : Jvm.MethodName)) ∈ jall := jt 1077 (by decide +kernel) rfl
theorem jw_1078 : (Jvm.Cond.code ({ cls := "CoreLeasesModel", name := "isLeased", desc := "(I)Z" } : Jvm.MethodName) prog_10_method_23_code (2 : Nat) (Option.some Jvm.ClassFile.FieldType.boolean)) ∈ jall := jt 1078 (by decide +kernel) rfl
theorem jw_1079 : (Jvm.Cond.methodLink "CoreLeasesModel" (62 : Nat) ({ cls := "CoreLeasesModel", name := "of", desc := "(II)I" } : Jvm.MethodName)) ∈ jall := jt 1079 (by decide +kernel) rfl
theorem jw_1081 : (Jvm.Cond.instanceMethod ({ cls := "CoreLeasesModel", name := "of", desc := "(II)I" } : Jvm.MethodName)) ∈ jall := jt 1081 (by decide +kernel) rfl
theorem jw_1082 : (Jvm.Cond.code ({ cls := "CoreLeasesModel", name := "of", desc := "(II)I" } : Jvm.MethodName) prog_10_method_10_code (3 : Nat) (Option.some Jvm.ClassFile.FieldType.int)) ∈ jall := jt 1082 (by decide +kernel) rfl
theorem jw_1083 : (Jvm.Cond.methodLink "CoreLeasesModel" (79 : Nat) ({ cls := "CoreLeasesModel", name := "ofTenant", desc := "(II)I" } : Jvm.MethodName)) ∈ jall := jt 1083 (by decide +kernel) rfl
theorem jw_1085 : (Jvm.Cond.instanceMethod ({ cls := "CoreLeasesModel", name := "ofTenant", desc := "(II)I" } : Jvm.MethodName)) ∈ jall := jt 1085 (by decide +kernel) rfl
theorem jw_1086 : (Jvm.Cond.code ({ cls := "CoreLeasesModel", name := "ofTenant", desc := "(II)I" } : Jvm.MethodName) prog_10_method_12_code (3 : Nat) (Option.some Jvm.ClassFile.FieldType.int)) ∈ jall := jt 1086 (by decide +kernel) rfl
theorem jw_1087 : (Jvm.Cond.methodLink "CoreLeasesLaw" (125 : Nat) ({ cls := "CoreLeasesModel", name := "insure", desc := "(III)I" } : Jvm.MethodName)) ∈ jall := jt 1087 (by decide +kernel) rfl
theorem jw_1088 : (Jvm.Cond.instanceMethod ({ cls := "CoreLeasesModel", name := "insure", desc := "(III)I" } : Jvm.MethodName)) ∈ jall := jt 1088 (by decide +kernel) rfl
theorem jw_1089 : (Jvm.Cond.selects "CoreLeasesModel" ({ cls := "CoreLeasesModel", name := "insure", desc := "(III)I" } : Jvm.MethodName) ({ cls := "CoreLeasesModel", name := "insure", desc := "(III)I" } : Jvm.MethodName)) ∈ jall := jt 1089 (by decide +kernel) rfl
theorem jw_1090 : (Jvm.Cond.code ({ cls := "CoreLeasesModel", name := "insure", desc := "(III)I" } : Jvm.MethodName) prog_10_method_29_code (6 : Nat) (Option.some Jvm.ClassFile.FieldType.int)) ∈ jall := jt 1090 (by decide +kernel) rfl
theorem jw_1091 : (Jvm.Cond.methodLink "CoreLeasesModel" (89 : Nat) ({ cls := "CoreLeasesModel", name := "isInsurer", desc := "(I)Z" } : Jvm.MethodName)) ∈ jall := jt 1091 (by decide +kernel) rfl
theorem jw_1093 : (Jvm.Cond.instanceMethod ({ cls := "CoreLeasesModel", name := "isInsurer", desc := "(I)Z" } : Jvm.MethodName)) ∈ jall := jt 1093 (by decide +kernel) rfl
theorem jw_1094 : (Jvm.Cond.code ({ cls := "CoreLeasesModel", name := "isInsurer", desc := "(I)Z" } : Jvm.MethodName) prog_10_method_9_code (2 : Nat) (Option.some Jvm.ClassFile.FieldType.boolean)) ∈ jall := jt 1094 (by decide +kernel) rfl
theorem jw_1095 : (Jvm.Cond.methodLink "CoreLeasesModel" (92 : Nat) ({ cls := "CoreLeasesModel", name := "premiumNow", desc := "(III)I" } : Jvm.MethodName)) ∈ jall := jt 1095 (by decide +kernel) rfl
theorem jw_1097 : (Jvm.Cond.instanceMethod ({ cls := "CoreLeasesModel", name := "premiumNow", desc := "(III)I" } : Jvm.MethodName)) ∈ jall := jt 1097 (by decide +kernel) rfl
theorem jw_1098 : (Jvm.Cond.code ({ cls := "CoreLeasesModel", name := "premiumNow", desc := "(III)I" } : Jvm.MethodName) prog_10_method_27_code (4 : Nat) (Option.some Jvm.ClassFile.FieldType.int)) ∈ jall := jt 1098 (by decide +kernel) rfl
theorem jw_1099 : (Jvm.Cond.methodLink "CoreLeasesModel" (85 : Nat) ({ cls := "CoreLeasesModel", name := "premiumBy", desc := "(IIII)I" } : Jvm.MethodName)) ∈ jall := jt 1099 (by decide +kernel) rfl
theorem jw_1101 : (Jvm.Cond.instanceMethod ({ cls := "CoreLeasesModel", name := "premiumBy", desc := "(IIII)I" } : Jvm.MethodName)) ∈ jall := jt 1101 (by decide +kernel) rfl
theorem jw_1102 : (Jvm.Cond.code ({ cls := "CoreLeasesModel", name := "premiumBy", desc := "(IIII)I" } : Jvm.MethodName) prog_10_method_26_code (5 : Nat) (Option.some Jvm.ClassFile.FieldType.int)) ∈ jall := jt 1102 (by decide +kernel) rfl
theorem jw_1103 : (Jvm.Cond.methodLink "CoreLeasesModel" (82 : Nat) ({ cls := "CoreLeasesModel", name := "ofInsurer", desc := "(II)I" } : Jvm.MethodName)) ∈ jall := jt 1103 (by decide +kernel) rfl
theorem jw_1105 : (Jvm.Cond.instanceMethod ({ cls := "CoreLeasesModel", name := "ofInsurer", desc := "(II)I" } : Jvm.MethodName)) ∈ jall := jt 1105 (by decide +kernel) rfl
theorem jw_1106 : (Jvm.Cond.code ({ cls := "CoreLeasesModel", name := "ofInsurer", desc := "(II)I" } : Jvm.MethodName) prog_10_method_13_code (3 : Nat) (Option.some Jvm.ClassFile.FieldType.int)) ∈ jall := jt 1106 (by decide +kernel) rfl
theorem jw_1107 : (Jvm.Cond.methodLink "CoreLeasesModel" (96 : Nat) ({ cls := "CoreLeasesModel", name := "pay", desc := "(I)V" } : Jvm.MethodName)) ∈ jall := jt 1107 (by decide +kernel) rfl
theorem jw_1109 : (Jvm.Cond.instanceMethod ({ cls := "CoreLeasesModel", name := "pay", desc := "(I)V" } : Jvm.MethodName)) ∈ jall := jt 1109 (by decide +kernel) rfl
theorem jw_1110 : (Jvm.Cond.code ({ cls := "CoreLeasesModel", name := "pay", desc := "(I)V" } : Jvm.MethodName) prog_10_method_28_code (6 : Nat) (Option.none : Option Jvm.ClassFile.FieldType)) ∈ jall := jt 1110 (by decide +kernel) rfl
theorem jw_1111 : (Jvm.Cond.methodLink "CoreLeasesLaw" (128 : Nat) ({ cls := "CoreLeasesModel", name := "renew", desc := "(I)I" } : Jvm.MethodName)) ∈ jall := jt 1111 (by decide +kernel) rfl
theorem jw_1112 : (Jvm.Cond.instanceMethod ({ cls := "CoreLeasesModel", name := "renew", desc := "(I)I" } : Jvm.MethodName)) ∈ jall := jt 1112 (by decide +kernel) rfl
theorem jw_1113 : (Jvm.Cond.selects "CoreLeasesModel" ({ cls := "CoreLeasesModel", name := "renew", desc := "(I)I" } : Jvm.MethodName) ({ cls := "CoreLeasesModel", name := "renew", desc := "(I)I" } : Jvm.MethodName)) ∈ jall := jt 1113 (by decide +kernel) rfl
theorem jw_1114 : (Jvm.Cond.code ({ cls := "CoreLeasesModel", name := "renew", desc := "(I)I" } : Jvm.MethodName) prog_10_method_30_code (3 : Nat) (Option.some Jvm.ClassFile.FieldType.int)) ∈ jall := jt 1114 (by decide +kernel) rfl
theorem jw_1115 : (Jvm.Cond.methodLink "CoreLeasesLaw" (132 : Nat) ({ cls := "CoreLeasesModel", name := "write", desc := "(IZ)I" } : Jvm.MethodName)) ∈ jall := jt 1115 (by decide +kernel) rfl
theorem jw_1116 : (Jvm.Cond.instanceMethod ({ cls := "CoreLeasesModel", name := "write", desc := "(IZ)I" } : Jvm.MethodName)) ∈ jall := jt 1116 (by decide +kernel) rfl
theorem jw_1117 : (Jvm.Cond.selects "CoreLeasesModel" ({ cls := "CoreLeasesModel", name := "write", desc := "(IZ)I" } : Jvm.MethodName) ({ cls := "CoreLeasesModel", name := "write", desc := "(IZ)I" } : Jvm.MethodName)) ∈ jall := jt 1117 (by decide +kernel) rfl
theorem jw_1118 : (Jvm.Cond.code ({ cls := "CoreLeasesModel", name := "write", desc := "(IZ)I" } : Jvm.MethodName) prog_10_method_38_code (3 : Nat) (Option.some Jvm.ClassFile.FieldType.int)) ∈ jall := jt 1118 (by decide +kernel) rfl
theorem jw_1119 : (Jvm.Cond.methodLink "CoreLeasesModel" (129 : Nat) ({ cls := "CoreLeasesModel", name := "writes", desc := "(II)I" } : Jvm.MethodName)) ∈ jall := jt 1119 (by decide +kernel) rfl
theorem jw_1121 : (Jvm.Cond.instanceMethod ({ cls := "CoreLeasesModel", name := "writes", desc := "(II)I" } : Jvm.MethodName)) ∈ jall := jt 1121 (by decide +kernel) rfl
theorem jw_1122 : (Jvm.Cond.code ({ cls := "CoreLeasesModel", name := "writes", desc := "(II)I" } : Jvm.MethodName) prog_10_method_37_code (3 : Nat) (Option.some Jvm.ClassFile.FieldType.int)) ∈ jall := jt 1122 (by decide +kernel) rfl
theorem jw_1123 : (Jvm.Cond.methodLink "CoreLeasesModel" (122 : Nat) ({ cls := "CoreLeasesModel", name := "pulse", desc := "(II)V" } : Jvm.MethodName)) ∈ jall := jt 1123 (by decide +kernel) rfl
theorem jw_1125 : (Jvm.Cond.instanceMethod ({ cls := "CoreLeasesModel", name := "pulse", desc := "(II)V" } : Jvm.MethodName)) ∈ jall := jt 1125 (by decide +kernel) rfl
theorem jw_1126 : (Jvm.Cond.code ({ cls := "CoreLeasesModel", name := "pulse", desc := "(II)V" } : Jvm.MethodName) prog_10_method_36_code (4 : Nat) (Option.none : Option Jvm.ClassFile.FieldType)) ∈ jall := jt 1126 (by decide +kernel) rfl
theorem jw_1127 : (Jvm.Cond.methodLink "CoreLeasesModel" (106 : Nat) ({ cls := "CoreLeasesModel", name := "worn", desc := "(I)I" } : Jvm.MethodName)) ∈ jall := jt 1127 (by decide +kernel) rfl
theorem jw_1129 : (Jvm.Cond.instanceMethod ({ cls := "CoreLeasesModel", name := "worn", desc := "(I)I" } : Jvm.MethodName)) ∈ jall := jt 1129 (by decide +kernel) rfl
theorem jw_1130 : (Jvm.Cond.code ({ cls := "CoreLeasesModel", name := "worn", desc := "(I)I" } : Jvm.MethodName) prog_10_method_34_code (2 : Nat) (Option.some Jvm.ClassFile.FieldType.int)) ∈ jall := jt 1130 (by decide +kernel) rfl
theorem jw_1131 : (Jvm.Cond.methodLink "CoreLeasesModel" (100 : Nat) ({ cls := "CoreLeasesModel", name := "notBelow", desc := "(I)I" } : Jvm.MethodName)) ∈ jall := jt 1131 (by decide +kernel) rfl
theorem jw_1132 : (Jvm.Cond.static ({ cls := "CoreLeasesModel", name := "notBelow", desc := "(I)I" } : Jvm.MethodName)) ∈ jall := jt 1132 (by decide +kernel) rfl
theorem jw_1133 : (Jvm.Cond.code ({ cls := "CoreLeasesModel", name := "notBelow", desc := "(I)I" } : Jvm.MethodName) prog_10_method_6_code (1 : Nat) (Option.some Jvm.ClassFile.FieldType.int)) ∈ jall := jt 1133 (by decide +kernel) rfl
theorem jw_1134 : (Jvm.Cond.methodLink "CoreLeasesModel" (109 : Nat) ({ cls := "CoreLeasesModel", name := "areInLine", desc := "(II)Z" } : Jvm.MethodName)) ∈ jall := jt 1134 (by decide +kernel) rfl
theorem jw_1135 : (Jvm.Cond.static ({ cls := "CoreLeasesModel", name := "areInLine", desc := "(II)Z" } : Jvm.MethodName)) ∈ jall := jt 1135 (by decide +kernel) rfl
theorem jw_1136 : (Jvm.Cond.code ({ cls := "CoreLeasesModel", name := "areInLine", desc := "(II)Z" } : Jvm.MethodName) prog_10_method_32_code (2 : Nat) (Option.some Jvm.ClassFile.FieldType.boolean)) ∈ jall := jt 1136 (by decide +kernel) rfl
theorem jw_1137 : (Jvm.Cond.methodLink "CoreLeasesModel" (113 : Nat) ({ cls := "CoreLeasesModel", name := "isWeak", desc := "(I)Z" } : Jvm.MethodName)) ∈ jall := jt 1137 (by decide +kernel) rfl
theorem jw_1139 : (Jvm.Cond.instanceMethod ({ cls := "CoreLeasesModel", name := "isWeak", desc := "(I)Z" } : Jvm.MethodName)) ∈ jall := jt 1139 (by decide +kernel) rfl
theorem jw_1140 : (Jvm.Cond.code ({ cls := "CoreLeasesModel", name := "isWeak", desc := "(I)Z" } : Jvm.MethodName) prog_10_method_33_code (2 : Nat) (Option.some Jvm.ClassFile.FieldType.boolean)) ∈ jall := jt 1140 (by decide +kernel) rfl
theorem jw_1141 : (Jvm.Cond.methodLink "CoreLeasesModel" (116 : Nat) ({ cls := "CoreLeasesModel", name := "loses", desc := "(I)V" } : Jvm.MethodName)) ∈ jall := jt 1141 (by decide +kernel) rfl
theorem jw_1143 : (Jvm.Cond.instanceMethod ({ cls := "CoreLeasesModel", name := "loses", desc := "(I)V" } : Jvm.MethodName)) ∈ jall := jt 1143 (by decide +kernel) rfl
theorem jw_1144 : (Jvm.Cond.code ({ cls := "CoreLeasesModel", name := "loses", desc := "(I)V" } : Jvm.MethodName) prog_10_method_31_code (5 : Nat) (Option.none : Option Jvm.ClassFile.FieldType)) ∈ jall := jt 1144 (by decide +kernel) rfl
theorem jw_1145 : (Jvm.Cond.methodLink "CoreLeasesModel" (119 : Nat) ({ cls := "CoreLeasesModel", name := "heated", desc := "(I)I" } : Jvm.MethodName)) ∈ jall := jt 1145 (by decide +kernel) rfl
theorem jw_1147 : (Jvm.Cond.instanceMethod ({ cls := "CoreLeasesModel", name := "heated", desc := "(I)I" } : Jvm.MethodName)) ∈ jall := jt 1147 (by decide +kernel) rfl
theorem jw_1148 : (Jvm.Cond.code ({ cls := "CoreLeasesModel", name := "heated", desc := "(I)I" } : Jvm.MethodName) prog_10_method_35_code (2 : Nat) (Option.some Jvm.ClassFile.FieldType.int)) ∈ jall := jt 1148 (by decide +kernel) rfl
theorem jw_1149 : (Jvm.Cond.methodLink "CoreLeasesModel" (103 : Nat) ({ cls := "CoreLeasesModel", name := "less", desc := "(II)I" } : Jvm.MethodName)) ∈ jall := jt 1149 (by decide +kernel) rfl
theorem jw_1150 : (Jvm.Cond.static ({ cls := "CoreLeasesModel", name := "less", desc := "(II)I" } : Jvm.MethodName)) ∈ jall := jt 1150 (by decide +kernel) rfl
theorem jw_1151 : (Jvm.Cond.code ({ cls := "CoreLeasesModel", name := "less", desc := "(II)I" } : Jvm.MethodName) prog_10_method_5_code (2 : Nat) (Option.some Jvm.ClassFile.FieldType.int)) ∈ jall := jt 1151 (by decide +kernel) rfl
theorem jw_1152 : (Jvm.Cond.methodLink "CoreLeasesModel" (126 : Nat) ({ cls := "CoreLeasesModel", name := "isOwed", desc := "(I)Z" } : Jvm.MethodName)) ∈ jall := jt 1152 (by decide +kernel) rfl
theorem jw_1154 : (Jvm.Cond.instanceMethod ({ cls := "CoreLeasesModel", name := "isOwed", desc := "(I)Z" } : Jvm.MethodName)) ∈ jall := jt 1154 (by decide +kernel) rfl
theorem jw_1155 : (Jvm.Cond.code ({ cls := "CoreLeasesModel", name := "isOwed", desc := "(I)Z" } : Jvm.MethodName) prog_10_method_24_code (2 : Nat) (Option.some Jvm.ClassFile.FieldType.boolean)) ∈ jall := jt 1155 (by decide +kernel) rfl
theorem jw_1156 : (Jvm.Cond.methodLink "CoreLeasesLaw" (135 : Nat) ({ cls := "CoreLeasesModel", name := "read", desc := "(I)I" } : Jvm.MethodName)) ∈ jall := jt 1156 (by decide +kernel) rfl
theorem jw_1157 : (Jvm.Cond.instanceMethod ({ cls := "CoreLeasesModel", name := "read", desc := "(I)I" } : Jvm.MethodName)) ∈ jall := jt 1157 (by decide +kernel) rfl
theorem jw_1158 : (Jvm.Cond.selects "CoreLeasesModel" ({ cls := "CoreLeasesModel", name := "read", desc := "(I)I" } : Jvm.MethodName) ({ cls := "CoreLeasesModel", name := "read", desc := "(I)I" } : Jvm.MethodName)) ∈ jall := jt 1158 (by decide +kernel) rfl
theorem jw_1159 : (Jvm.Cond.code ({ cls := "CoreLeasesModel", name := "read", desc := "(I)I" } : Jvm.MethodName) prog_10_method_41_code (2 : Nat) (Option.some Jvm.ClassFile.FieldType.int)) ∈ jall := jt 1159 (by decide +kernel) rfl
theorem jw_1160 : (Jvm.Cond.methodLink "CoreLeasesModel" (132 : Nat) ({ cls := "CoreLeasesModel", name := "canRead", desc := "(I)Z" } : Jvm.MethodName)) ∈ jall := jt 1160 (by decide +kernel) rfl
theorem jw_1162 : (Jvm.Cond.instanceMethod ({ cls := "CoreLeasesModel", name := "canRead", desc := "(I)Z" } : Jvm.MethodName)) ∈ jall := jt 1162 (by decide +kernel) rfl
theorem jw_1163 : (Jvm.Cond.code ({ cls := "CoreLeasesModel", name := "canRead", desc := "(I)Z" } : Jvm.MethodName) prog_10_method_39_code (2 : Nat) (Option.some Jvm.ClassFile.FieldType.boolean)) ∈ jall := jt 1163 (by decide +kernel) rfl
theorem jw_1164 : (Jvm.Cond.methodLink "CoreLeasesModel" (135 : Nat) ({ cls := "CoreLeasesModel", name := "reads", desc := "(I)I" } : Jvm.MethodName)) ∈ jall := jt 1164 (by decide +kernel) rfl
theorem jw_1166 : (Jvm.Cond.instanceMethod ({ cls := "CoreLeasesModel", name := "reads", desc := "(I)I" } : Jvm.MethodName)) ∈ jall := jt 1166 (by decide +kernel) rfl
theorem jw_1167 : (Jvm.Cond.code ({ cls := "CoreLeasesModel", name := "reads", desc := "(I)I" } : Jvm.MethodName) prog_10_method_40_code (3 : Nat) (Option.some Jvm.ClassFile.FieldType.int)) ∈ jall := jt 1167 (by decide +kernel) rfl
theorem jw_1168 : (Jvm.Cond.methodLink "CoreLeasesLaw" (139 : Nat) ({ cls := "CoreLeasesModel", name := "writeBack", desc := "()I" } : Jvm.MethodName)) ∈ jall := jt 1168 (by decide +kernel) rfl
theorem jw_1169 : (Jvm.Cond.instanceMethod ({ cls := "CoreLeasesModel", name := "writeBack", desc := "()I" } : Jvm.MethodName)) ∈ jall := jt 1169 (by decide +kernel) rfl
theorem jw_1170 : (Jvm.Cond.selects "CoreLeasesModel" ({ cls := "CoreLeasesModel", name := "writeBack", desc := "()I" } : Jvm.MethodName) ({ cls := "CoreLeasesModel", name := "writeBack", desc := "()I" } : Jvm.MethodName)) ∈ jall := jt 1170 (by decide +kernel) rfl
theorem jw_1171 : (Jvm.Cond.code ({ cls := "CoreLeasesModel", name := "writeBack", desc := "()I" } : Jvm.MethodName) prog_10_method_46_code (1 : Nat) (Option.some Jvm.ClassFile.FieldType.int)) ∈ jall := jt 1171 (by decide +kernel) rfl
theorem jw_1172 : (Jvm.Cond.methodLink "CoreLeasesModel" (145 : Nat) ({ cls := "CoreLeasesModel", name := "owedMany", desc := "()I" } : Jvm.MethodName)) ∈ jall := jt 1172 (by decide +kernel) rfl
theorem jw_1174 : (Jvm.Cond.instanceMethod ({ cls := "CoreLeasesModel", name := "owedMany", desc := "()I" } : Jvm.MethodName)) ∈ jall := jt 1174 (by decide +kernel) rfl
theorem jw_1175 : (Jvm.Cond.code ({ cls := "CoreLeasesModel", name := "owedMany", desc := "()I" } : Jvm.MethodName) prog_10_method_44_code (3 : Nat) (Option.some Jvm.ClassFile.FieldType.int)) ∈ jall := jt 1175 (by decide +kernel) rfl
theorem jw_1176 : (Jvm.Cond.methodLink "CoreLeasesModel" (148 : Nat) ({ cls := "CoreLeasesModel", name := "writesBack", desc := "()I" } : Jvm.MethodName)) ∈ jall := jt 1176 (by decide +kernel) rfl
theorem jw_1178 : (Jvm.Cond.instanceMethod ({ cls := "CoreLeasesModel", name := "writesBack", desc := "()I" } : Jvm.MethodName)) ∈ jall := jt 1178 (by decide +kernel) rfl
theorem jw_1179 : (Jvm.Cond.code ({ cls := "CoreLeasesModel", name := "writesBack", desc := "()I" } : Jvm.MethodName) prog_10_method_45_code (2 : Nat) (Option.some Jvm.ClassFile.FieldType.int)) ∈ jall := jt 1179 (by decide +kernel) rfl
theorem jw_1180 : (Jvm.Cond.methodLink "CoreLeasesModel" (141 : Nat) ({ cls := "CoreLeasesModel", name := "layOwed", desc := "()I" } : Jvm.MethodName)) ∈ jall := jt 1180 (by decide +kernel) rfl
theorem jw_1182 : (Jvm.Cond.instanceMethod ({ cls := "CoreLeasesModel", name := "layOwed", desc := "()I" } : Jvm.MethodName)) ∈ jall := jt 1182 (by decide +kernel) rfl
theorem jw_1183 : (Jvm.Cond.code ({ cls := "CoreLeasesModel", name := "layOwed", desc := "()I" } : Jvm.MethodName) prog_10_method_43_code (4 : Nat) (Option.some Jvm.ClassFile.FieldType.int)) ∈ jall := jt 1183 (by decide +kernel) rfl
theorem jw_1184 : (Jvm.Cond.methodLink "CoreLeasesModel" (138 : Nat) ({ cls := "CoreLeasesModel", name := "comesAhead", desc := "(II)Z" } : Jvm.MethodName)) ∈ jall := jt 1184 (by decide +kernel) rfl
theorem jw_1186 : (Jvm.Cond.instanceMethod ({ cls := "CoreLeasesModel", name := "comesAhead", desc := "(II)Z" } : Jvm.MethodName)) ∈ jall := jt 1186 (by decide +kernel) rfl
theorem jw_1187 : (Jvm.Cond.code ({ cls := "CoreLeasesModel", name := "comesAhead", desc := "(II)Z" } : Jvm.MethodName) prog_10_method_42_code (3 : Nat) (Option.some Jvm.ClassFile.FieldType.boolean)) ∈ jall := jt 1187 (by decide +kernel) rfl
theorem jw_1188 : (Jvm.Cond.methodLink "CoreLeasesLaw" (142 : Nat) ({ cls := "CoreLeasesModel", name := "pass", desc := "(I)I" } : Jvm.MethodName)) ∈ jall := jt 1188 (by decide +kernel) rfl
theorem jw_1189 : (Jvm.Cond.instanceMethod ({ cls := "CoreLeasesModel", name := "pass", desc := "(I)I" } : Jvm.MethodName)) ∈ jall := jt 1189 (by decide +kernel) rfl
theorem jw_1190 : (Jvm.Cond.selects "CoreLeasesModel" ({ cls := "CoreLeasesModel", name := "pass", desc := "(I)I" } : Jvm.MethodName) ({ cls := "CoreLeasesModel", name := "pass", desc := "(I)I" } : Jvm.MethodName)) ∈ jall := jt 1190 (by decide +kernel) rfl
theorem jw_1191 : (Jvm.Cond.code ({ cls := "CoreLeasesModel", name := "pass", desc := "(I)I" } : Jvm.MethodName) prog_10_method_50_code (3 : Nat) (Option.some Jvm.ClassFile.FieldType.int)) ∈ jall := jt 1191 (by decide +kernel) rfl
theorem jw_1192 : (Jvm.Cond.methodLink "CoreLeasesModel" (157 : Nat) ({ cls := "CoreLeasesModel", name := "tick", desc := "()V" } : Jvm.MethodName)) ∈ jall := jt 1192 (by decide +kernel) rfl
theorem jw_1194 : (Jvm.Cond.instanceMethod ({ cls := "CoreLeasesModel", name := "tick", desc := "()V" } : Jvm.MethodName)) ∈ jall := jt 1194 (by decide +kernel) rfl
theorem jw_1195 : (Jvm.Cond.code ({ cls := "CoreLeasesModel", name := "tick", desc := "()V" } : Jvm.MethodName) prog_10_method_49_code (4 : Nat) (Option.none : Option Jvm.ClassFile.FieldType)) ∈ jall := jt 1195 (by decide +kernel) rfl
theorem jw_1196 : (Jvm.Cond.methodLink "CoreLeasesModel" (151 : Nat) ({ cls := "CoreLeasesModel", name := "endPolicies", desc := "()V" } : Jvm.MethodName)) ∈ jall := jt 1196 (by decide +kernel) rfl
theorem jw_1198 : (Jvm.Cond.instanceMethod ({ cls := "CoreLeasesModel", name := "endPolicies", desc := "()V" } : Jvm.MethodName)) ∈ jall := jt 1198 (by decide +kernel) rfl
theorem jw_1199 : (Jvm.Cond.code ({ cls := "CoreLeasesModel", name := "endPolicies", desc := "()V" } : Jvm.MethodName) prog_10_method_47_code (2 : Nat) (Option.none : Option Jvm.ClassFile.FieldType)) ∈ jall := jt 1199 (by decide +kernel) rfl
theorem jw_1200 : (Jvm.Cond.methodLink "CoreLeasesModel" (154 : Nat) ({ cls := "CoreLeasesModel", name := "endLeases", desc := "()V" } : Jvm.MethodName)) ∈ jall := jt 1200 (by decide +kernel) rfl
theorem jw_1202 : (Jvm.Cond.instanceMethod ({ cls := "CoreLeasesModel", name := "endLeases", desc := "()V" } : Jvm.MethodName)) ∈ jall := jt 1202 (by decide +kernel) rfl
theorem jw_1203 : (Jvm.Cond.code ({ cls := "CoreLeasesModel", name := "endLeases", desc := "()V" } : Jvm.MethodName) prog_10_method_48_code (2 : Nat) (Option.none : Option Jvm.ClassFile.FieldType)) ∈ jall := jt 1203 (by decide +kernel) rfl
theorem jw_1204 : (Jvm.Cond.methodLink "CoreLeasesLaw" (145 : Nat) ({ cls := "CoreLeasesModel", name := "append", desc := "(I)I" } : Jvm.MethodName)) ∈ jall := jt 1204 (by decide +kernel) rfl
theorem jw_1205 : (Jvm.Cond.instanceMethod ({ cls := "CoreLeasesModel", name := "append", desc := "(I)I" } : Jvm.MethodName)) ∈ jall := jt 1205 (by decide +kernel) rfl
theorem jw_1206 : (Jvm.Cond.selects "CoreLeasesModel" ({ cls := "CoreLeasesModel", name := "append", desc := "(I)I" } : Jvm.MethodName) ({ cls := "CoreLeasesModel", name := "append", desc := "(I)I" } : Jvm.MethodName)) ∈ jall := jt 1206 (by decide +kernel) rfl
theorem jw_1207 : (Jvm.Cond.code ({ cls := "CoreLeasesModel", name := "append", desc := "(I)I" } : Jvm.MethodName) prog_10_method_51_code (2 : Nat) (Option.some Jvm.ClassFile.FieldType.int)) ∈ jall := jt 1207 (by decide +kernel) rfl
theorem jw_1208 : (Jvm.Cond.methodLink "CoreLeasesLaw" (149 : Nat) ({ cls := "CoreLeasesModel", name := "clearBuffer", desc := "()I" } : Jvm.MethodName)) ∈ jall := jt 1208 (by decide +kernel) rfl
theorem jw_1209 : (Jvm.Cond.instanceMethod ({ cls := "CoreLeasesModel", name := "clearBuffer", desc := "()I" } : Jvm.MethodName)) ∈ jall := jt 1209 (by decide +kernel) rfl
theorem jw_1210 : (Jvm.Cond.selects "CoreLeasesModel" ({ cls := "CoreLeasesModel", name := "clearBuffer", desc := "()I" } : Jvm.MethodName) ({ cls := "CoreLeasesModel", name := "clearBuffer", desc := "()I" } : Jvm.MethodName)) ∈ jall := jt 1210 (by decide +kernel) rfl
theorem jw_1211 : (Jvm.Cond.code ({ cls := "CoreLeasesModel", name := "clearBuffer", desc := "()I" } : Jvm.MethodName) prog_10_method_52_code (2 : Nat) (Option.some Jvm.ClassFile.FieldType.int)) ∈ jall := jt 1211 (by decide +kernel) rfl
theorem jw_1212 : (Jvm.Cond.methodLink "CoreLeasesLaw" (153 : Nat) ({ cls := "CoreLeasesModel", name := "firstError", desc := "()I" } : Jvm.MethodName)) ∈ jall := jt 1212 (by decide +kernel) rfl
theorem jw_1213 : (Jvm.Cond.instanceMethod ({ cls := "CoreLeasesModel", name := "firstError", desc := "()I" } : Jvm.MethodName)) ∈ jall := jt 1213 (by decide +kernel) rfl
theorem jw_1214 : (Jvm.Cond.selects "CoreLeasesModel" ({ cls := "CoreLeasesModel", name := "firstError", desc := "()I" } : Jvm.MethodName) ({ cls := "CoreLeasesModel", name := "firstError", desc := "()I" } : Jvm.MethodName)) ∈ jall := jt 1214 (by decide +kernel) rfl
theorem jw_1215 : (Jvm.Cond.code ({ cls := "CoreLeasesModel", name := "firstError", desc := "()I" } : Jvm.MethodName) prog_10_method_58_code (1 : Nat) (Option.some Jvm.ClassFile.FieldType.int)) ∈ jall := jt 1215 (by decide +kernel) rfl
theorem jw_1216 : (Jvm.Cond.methodLink "CoreLeasesModel" (183 : Nat) ({ cls := "CoreLeasesModel", name := "scan", desc := "()I" } : Jvm.MethodName)) ∈ jall := jt 1216 (by decide +kernel) rfl
theorem jw_1218 : (Jvm.Cond.instanceMethod ({ cls := "CoreLeasesModel", name := "scan", desc := "()I" } : Jvm.MethodName)) ∈ jall := jt 1218 (by decide +kernel) rfl
theorem jw_1219 : (Jvm.Cond.code ({ cls := "CoreLeasesModel", name := "scan", desc := "()I" } : Jvm.MethodName) prog_10_method_57_code (2 : Nat) (Option.some Jvm.ClassFile.FieldType.int)) ∈ jall := jt 1219 (by decide +kernel) rfl
theorem jw_1220 : (Jvm.Cond.methodLink "CoreLeasesModel" (180 : Nat) ({ cls := "CoreLeasesModel", name := "takes", desc := "(I)Z" } : Jvm.MethodName)) ∈ jall := jt 1220 (by decide +kernel) rfl
theorem jw_1222 : (Jvm.Cond.instanceMethod ({ cls := "CoreLeasesModel", name := "takes", desc := "(I)Z" } : Jvm.MethodName)) ∈ jall := jt 1222 (by decide +kernel) rfl
theorem jw_1223 : (Jvm.Cond.code ({ cls := "CoreLeasesModel", name := "takes", desc := "(I)Z" } : Jvm.MethodName) prog_10_method_56_code (3 : Nat) (Option.some Jvm.ClassFile.FieldType.boolean)) ∈ jall := jt 1223 (by decide +kernel) rfl
theorem jw_1224 : (Jvm.Cond.methodLink "CoreLeasesModel" (177 : Nat) ({ cls := "CoreLeasesModel", name := "begins", desc := "(I)Z" } : Jvm.MethodName)) ∈ jall := jt 1224 (by decide +kernel) rfl
theorem jw_1226 : (Jvm.Cond.instanceMethod ({ cls := "CoreLeasesModel", name := "begins", desc := "(I)Z" } : Jvm.MethodName)) ∈ jall := jt 1226 (by decide +kernel) rfl
theorem jw_1227 : (Jvm.Cond.code ({ cls := "CoreLeasesModel", name := "begins", desc := "(I)Z" } : Jvm.MethodName) prog_10_method_55_code (2 : Nat) (Option.some Jvm.ClassFile.FieldType.boolean)) ∈ jall := jt 1227 (by decide +kernel) rfl
theorem jw_1228 : (Jvm.Cond.methodLink "CoreLeasesModel" (169 : Nat) ({ cls := "CoreLeasesModel", name := "goes", desc := "(ZI)Z" } : Jvm.MethodName)) ∈ jall := jt 1228 (by decide +kernel) rfl
theorem jw_1230 : (Jvm.Cond.instanceMethod ({ cls := "CoreLeasesModel", name := "goes", desc := "(ZI)Z" } : Jvm.MethodName)) ∈ jall := jt 1230 (by decide +kernel) rfl
theorem jw_1231 : (Jvm.Cond.code ({ cls := "CoreLeasesModel", name := "goes", desc := "(ZI)Z" } : Jvm.MethodName) prog_10_method_53_code (3 : Nat) (Option.some Jvm.ClassFile.FieldType.boolean)) ∈ jall := jt 1231 (by decide +kernel) rfl
theorem jw_1232 : (Jvm.Cond.methodLink "CoreLeasesModel" (173 : Nat) ({ cls := "CoreLeasesModel", name := "ends", desc := "(Z)Z" } : Jvm.MethodName)) ∈ jall := jt 1232 (by decide +kernel) rfl
theorem jw_1234 : (Jvm.Cond.instanceMethod ({ cls := "CoreLeasesModel", name := "ends", desc := "(Z)Z" } : Jvm.MethodName)) ∈ jall := jt 1234 (by decide +kernel) rfl
theorem jw_1235 : (Jvm.Cond.code ({ cls := "CoreLeasesModel", name := "ends", desc := "(Z)Z" } : Jvm.MethodName) prog_10_method_54_code (2 : Nat) (Option.some Jvm.ClassFile.FieldType.boolean)) ∈ jall := jt 1235 (by decide +kernel) rfl
theorem jw_1236 : (Jvm.Cond.methodLink "CoreLeasesLaw" (156 : Nat) ({ cls := "CoreLeasesModel", name := "run", desc := "(I)I" } : Jvm.MethodName)) ∈ jall := jt 1236 (by decide +kernel) rfl
theorem jw_1237 : (Jvm.Cond.instanceMethod ({ cls := "CoreLeasesModel", name := "run", desc := "(I)I" } : Jvm.MethodName)) ∈ jall := jt 1237 (by decide +kernel) rfl
theorem jw_1238 : (Jvm.Cond.selects "CoreLeasesModel" ({ cls := "CoreLeasesModel", name := "run", desc := "(I)I" } : Jvm.MethodName) ({ cls := "CoreLeasesModel", name := "run", desc := "(I)I" } : Jvm.MethodName)) ∈ jall := jt 1238 (by decide +kernel) rfl
theorem jw_1239 : (Jvm.Cond.code ({ cls := "CoreLeasesModel", name := "run", desc := "(I)I" } : Jvm.MethodName) prog_10_method_61_code (3 : Nat) (Option.some Jvm.ClassFile.FieldType.int)) ∈ jall := jt 1239 (by decide +kernel) rfl
theorem jw_1240 : (Jvm.Cond.methodLink "CoreLeasesModel" (186 : Nat) ({ cls := "CoreLeasesModel", name := "mayDo", desc := "(II)Z" } : Jvm.MethodName)) ∈ jall := jt 1240 (by decide +kernel) rfl
theorem jw_1242 : (Jvm.Cond.instanceMethod ({ cls := "CoreLeasesModel", name := "mayDo", desc := "(II)Z" } : Jvm.MethodName)) ∈ jall := jt 1242 (by decide +kernel) rfl
theorem jw_1243 : (Jvm.Cond.code ({ cls := "CoreLeasesModel", name := "mayDo", desc := "(II)Z" } : Jvm.MethodName) prog_10_method_59_code (4 : Nat) (Option.some Jvm.ClassFile.FieldType.boolean)) ∈ jall := jt 1243 (by decide +kernel) rfl
theorem jw_1244 : (Jvm.Cond.methodLink "CoreLeasesModel" (189 : Nat) ({ cls := "CoreLeasesModel", name := "does", desc := "(I)V" } : Jvm.MethodName)) ∈ jall := jt 1244 (by decide +kernel) rfl
theorem jw_1246 : (Jvm.Cond.instanceMethod ({ cls := "CoreLeasesModel", name := "does", desc := "(I)V" } : Jvm.MethodName)) ∈ jall := jt 1246 (by decide +kernel) rfl
theorem jw_1247 : (Jvm.Cond.code ({ cls := "CoreLeasesModel", name := "does", desc := "(I)V" } : Jvm.MethodName) prog_10_method_60_code (3 : Nat) (Option.none : Option Jvm.ClassFile.FieldType)) ∈ jall := jt 1247 (by decide +kernel) rfl
theorem jw_1248 : (Jvm.Cond.methodLink "CoreLeasesLaw" (159 : Nat) ({ cls := "CoreLeasesModel", name := "undo", desc := "()I" } : Jvm.MethodName)) ∈ jall := jt 1248 (by decide +kernel) rfl
theorem jw_1249 : (Jvm.Cond.instanceMethod ({ cls := "CoreLeasesModel", name := "undo", desc := "()I" } : Jvm.MethodName)) ∈ jall := jt 1249 (by decide +kernel) rfl
theorem jw_1250 : (Jvm.Cond.selects "CoreLeasesModel" ({ cls := "CoreLeasesModel", name := "undo", desc := "()I" } : Jvm.MethodName) ({ cls := "CoreLeasesModel", name := "undo", desc := "()I" } : Jvm.MethodName)) ∈ jall := jt 1250 (by decide +kernel) rfl
theorem jw_1251 : (Jvm.Cond.code ({ cls := "CoreLeasesModel", name := "undo", desc := "()I" } : Jvm.MethodName) prog_10_method_62_code (2 : Nat) (Option.some Jvm.ClassFile.FieldType.int)) ∈ jall := jt 1251 (by decide +kernel) rfl
theorem jw_1252 : (Jvm.Cond.methodLink "CoreLeasesLaw" (162 : Nat) ({ cls := "CoreLeasesModel", name := "core", desc := "(II)I" } : Jvm.MethodName)) ∈ jall := jt 1252 (by decide +kernel) rfl
theorem jw_1253 : (Jvm.Cond.instanceMethod ({ cls := "CoreLeasesModel", name := "core", desc := "(II)I" } : Jvm.MethodName)) ∈ jall := jt 1253 (by decide +kernel) rfl
theorem jw_1254 : (Jvm.Cond.selects "CoreLeasesModel" ({ cls := "CoreLeasesModel", name := "core", desc := "(II)I" } : Jvm.MethodName) ({ cls := "CoreLeasesModel", name := "core", desc := "(II)I" } : Jvm.MethodName)) ∈ jall := jt 1254 (by decide +kernel) rfl
theorem jw_1255 : (Jvm.Cond.code ({ cls := "CoreLeasesModel", name := "core", desc := "(II)I" } : Jvm.MethodName) prog_10_method_64_code (3 : Nat) (Option.some Jvm.ClassFile.FieldType.int)) ∈ jall := jt 1255 (by decide +kernel) rfl
theorem jw_1256 : (Jvm.Cond.methodLink "CoreLeasesModel" (192 : Nat) ({ cls := "CoreLeasesModel", name := "coreNow", desc := "(II)I" } : Jvm.MethodName)) ∈ jall := jt 1256 (by decide +kernel) rfl
theorem jw_1258 : (Jvm.Cond.instanceMethod ({ cls := "CoreLeasesModel", name := "coreNow", desc := "(II)I" } : Jvm.MethodName)) ∈ jall := jt 1258 (by decide +kernel) rfl
theorem jw_1259 : (Jvm.Cond.code ({ cls := "CoreLeasesModel", name := "coreNow", desc := "(II)I" } : Jvm.MethodName) prog_10_method_63_code (3 : Nat) (Option.some Jvm.ClassFile.FieldType.int)) ∈ jall := jt 1259 (by decide +kernel) rfl
theorem jw_1260 : (Jvm.Cond.methodLink "CoreLeasesLaw" (165 : Nat) ({ cls := "CoreLeasesModel", name := "tenant", desc := "(II)I" } : Jvm.MethodName)) ∈ jall := jt 1260 (by decide +kernel) rfl
theorem jw_1261 : (Jvm.Cond.instanceMethod ({ cls := "CoreLeasesModel", name := "tenant", desc := "(II)I" } : Jvm.MethodName)) ∈ jall := jt 1261 (by decide +kernel) rfl
theorem jw_1262 : (Jvm.Cond.selects "CoreLeasesModel" ({ cls := "CoreLeasesModel", name := "tenant", desc := "(II)I" } : Jvm.MethodName) ({ cls := "CoreLeasesModel", name := "tenant", desc := "(II)I" } : Jvm.MethodName)) ∈ jall := jt 1262 (by decide +kernel) rfl
theorem jw_1263 : (Jvm.Cond.code ({ cls := "CoreLeasesModel", name := "tenant", desc := "(II)I" } : Jvm.MethodName) prog_10_method_68_code (3 : Nat) (Option.some Jvm.ClassFile.FieldType.int)) ∈ jall := jt 1263 (by decide +kernel) rfl
theorem jw_1264 : (Jvm.Cond.methodLink "CoreLeasesModel" (202 : Nat) ({ cls := "CoreLeasesModel", name := "tenantNow", desc := "(II)I" } : Jvm.MethodName)) ∈ jall := jt 1264 (by decide +kernel) rfl
theorem jw_1266 : (Jvm.Cond.instanceMethod ({ cls := "CoreLeasesModel", name := "tenantNow", desc := "(II)I" } : Jvm.MethodName)) ∈ jall := jt 1266 (by decide +kernel) rfl
theorem jw_1267 : (Jvm.Cond.code ({ cls := "CoreLeasesModel", name := "tenantNow", desc := "(II)I" } : Jvm.MethodName) prog_10_method_67_code (3 : Nat) (Option.some Jvm.ClassFile.FieldType.int)) ∈ jall := jt 1267 (by decide +kernel) rfl
theorem jw_1268 : (Jvm.Cond.methodLink "CoreLeasesModel" (195 : Nat) ({ cls := "CoreLeasesModel", name := "coresOf", desc := "(IZ)I" } : Jvm.MethodName)) ∈ jall := jt 1268 (by decide +kernel) rfl
theorem jw_1270 : (Jvm.Cond.instanceMethod ({ cls := "CoreLeasesModel", name := "coresOf", desc := "(IZ)I" } : Jvm.MethodName)) ∈ jall := jt 1270 (by decide +kernel) rfl
theorem jw_1271 : (Jvm.Cond.code ({ cls := "CoreLeasesModel", name := "coresOf", desc := "(IZ)I" } : Jvm.MethodName) prog_10_method_65_code (5 : Nat) (Option.some Jvm.ClassFile.FieldType.int)) ∈ jall := jt 1271 (by decide +kernel) rfl
theorem jw_1272 : (Jvm.Cond.methodLink "CoreLeasesModel" (199 : Nat) ({ cls := "CoreLeasesModel", name := "waitsOf", desc := "(I)I" } : Jvm.MethodName)) ∈ jall := jt 1272 (by decide +kernel) rfl
theorem jw_1274 : (Jvm.Cond.instanceMethod ({ cls := "CoreLeasesModel", name := "waitsOf", desc := "(I)I" } : Jvm.MethodName)) ∈ jall := jt 1274 (by decide +kernel) rfl
theorem jw_1275 : (Jvm.Cond.code ({ cls := "CoreLeasesModel", name := "waitsOf", desc := "(I)I" } : Jvm.MethodName) prog_10_method_66_code (5 : Nat) (Option.some Jvm.ClassFile.FieldType.int)) ∈ jall := jt 1275 (by decide +kernel) rfl
theorem jw_1276 : (Jvm.Cond.methodLink "CoreLeasesLaw" (168 : Nat) ({ cls := "CoreLeasesModel", name := "insurer", desc := "(II)I" } : Jvm.MethodName)) ∈ jall := jt 1276 (by decide +kernel) rfl
theorem jw_1277 : (Jvm.Cond.instanceMethod ({ cls := "CoreLeasesModel", name := "insurer", desc := "(II)I" } : Jvm.MethodName)) ∈ jall := jt 1277 (by decide +kernel) rfl
theorem jw_1278 : (Jvm.Cond.selects "CoreLeasesModel" ({ cls := "CoreLeasesModel", name := "insurer", desc := "(II)I" } : Jvm.MethodName) ({ cls := "CoreLeasesModel", name := "insurer", desc := "(II)I" } : Jvm.MethodName)) ∈ jall := jt 1278 (by decide +kernel) rfl
theorem jw_1279 : (Jvm.Cond.code ({ cls := "CoreLeasesModel", name := "insurer", desc := "(II)I" } : Jvm.MethodName) prog_10_method_71_code (3 : Nat) (Option.some Jvm.ClassFile.FieldType.int)) ∈ jall := jt 1279 (by decide +kernel) rfl
theorem jw_1280 : (Jvm.Cond.methodLink "CoreLeasesModel" (208 : Nat) ({ cls := "CoreLeasesModel", name := "insurerNow", desc := "(II)I" } : Jvm.MethodName)) ∈ jall := jt 1280 (by decide +kernel) rfl
theorem jw_1282 : (Jvm.Cond.instanceMethod ({ cls := "CoreLeasesModel", name := "insurerNow", desc := "(II)I" } : Jvm.MethodName)) ∈ jall := jt 1282 (by decide +kernel) rfl
theorem jw_1283 : (Jvm.Cond.code ({ cls := "CoreLeasesModel", name := "insurerNow", desc := "(II)I" } : Jvm.MethodName) prog_10_method_70_code (3 : Nat) (Option.some Jvm.ClassFile.FieldType.int)) ∈ jall := jt 1283 (by decide +kernel) rfl
theorem jw_1284 : (Jvm.Cond.methodLink "CoreLeasesModel" (205 : Nat) ({ cls := "CoreLeasesModel", name := "policiesOf", desc := "(I)I" } : Jvm.MethodName)) ∈ jall := jt 1284 (by decide +kernel) rfl
theorem jw_1286 : (Jvm.Cond.instanceMethod ({ cls := "CoreLeasesModel", name := "policiesOf", desc := "(I)I" } : Jvm.MethodName)) ∈ jall := jt 1286 (by decide +kernel) rfl
theorem jw_1287 : (Jvm.Cond.code ({ cls := "CoreLeasesModel", name := "policiesOf", desc := "(I)I" } : Jvm.MethodName) prog_10_method_69_code (4 : Nat) (Option.some Jvm.ClassFile.FieldType.int)) ∈ jall := jt 1287 (by decide +kernel) rfl
theorem jw_1288 : (Jvm.Cond.methodLink "CoreLeasesLaw" (171 : Nat) ({ cls := "CoreLeasesModel", name := "owed", desc := "(II)I" } : Jvm.MethodName)) ∈ jall := jt 1288 (by decide +kernel) rfl
theorem jw_1289 : (Jvm.Cond.instanceMethod ({ cls := "CoreLeasesModel", name := "owed", desc := "(II)I" } : Jvm.MethodName)) ∈ jall := jt 1289 (by decide +kernel) rfl
theorem jw_1290 : (Jvm.Cond.selects "CoreLeasesModel" ({ cls := "CoreLeasesModel", name := "owed", desc := "(II)I" } : Jvm.MethodName) ({ cls := "CoreLeasesModel", name := "owed", desc := "(II)I" } : Jvm.MethodName)) ∈ jall := jt 1290 (by decide +kernel) rfl
theorem jw_1291 : (Jvm.Cond.code ({ cls := "CoreLeasesModel", name := "owed", desc := "(II)I" } : Jvm.MethodName) prog_10_method_72_code (3 : Nat) (Option.some Jvm.ClassFile.FieldType.int)) ∈ jall := jt 1291 (by decide +kernel) rfl
theorem jw_1292 : (Jvm.Cond.methodLink "CoreLeasesLaw" (174 : Nat) ({ cls := "CoreLeasesModel", name := "weakest", desc := "(I)I" } : Jvm.MethodName)) ∈ jall := jt 1292 (by decide +kernel) rfl
theorem jw_1293 : (Jvm.Cond.instanceMethod ({ cls := "CoreLeasesModel", name := "weakest", desc := "(I)I" } : Jvm.MethodName)) ∈ jall := jt 1293 (by decide +kernel) rfl
theorem jw_1294 : (Jvm.Cond.selects "CoreLeasesModel" ({ cls := "CoreLeasesModel", name := "weakest", desc := "(I)I" } : Jvm.MethodName) ({ cls := "CoreLeasesModel", name := "weakest", desc := "(I)I" } : Jvm.MethodName)) ∈ jall := jt 1294 (by decide +kernel) rfl
theorem jw_1295 : (Jvm.Cond.code ({ cls := "CoreLeasesModel", name := "weakest", desc := "(I)I" } : Jvm.MethodName) prog_10_method_74_code (2 : Nat) (Option.some Jvm.ClassFile.FieldType.int)) ∈ jall := jt 1295 (by decide +kernel) rfl
theorem jw_1296 : (Jvm.Cond.methodLink "CoreLeasesModel" (211 : Nat) ({ cls := "CoreLeasesModel", name := "weakestAt", desc := "(I)I" } : Jvm.MethodName)) ∈ jall := jt 1296 (by decide +kernel) rfl
theorem jw_1298 : (Jvm.Cond.instanceMethod ({ cls := "CoreLeasesModel", name := "weakestAt", desc := "(I)I" } : Jvm.MethodName)) ∈ jall := jt 1298 (by decide +kernel) rfl
theorem jw_1299 : (Jvm.Cond.code ({ cls := "CoreLeasesModel", name := "weakestAt", desc := "(I)I" } : Jvm.MethodName) prog_10_method_73_code (6 : Nat) (Option.some Jvm.ClassFile.FieldType.int)) ∈ jall := jt 1299 (by decide +kernel) rfl
theorem jw_1300 : (Jvm.Cond.methodLink "CoreLeasesLaw" (177 : Nat) ({ cls := "CoreLeasesModel", name := "count", desc := "(I)I" } : Jvm.MethodName)) ∈ jall := jt 1300 (by decide +kernel) rfl
theorem jw_1301 : (Jvm.Cond.instanceMethod ({ cls := "CoreLeasesModel", name := "count", desc := "(I)I" } : Jvm.MethodName)) ∈ jall := jt 1301 (by decide +kernel) rfl
theorem jw_1302 : (Jvm.Cond.selects "CoreLeasesModel" ({ cls := "CoreLeasesModel", name := "count", desc := "(I)I" } : Jvm.MethodName) ({ cls := "CoreLeasesModel", name := "count", desc := "(I)I" } : Jvm.MethodName)) ∈ jall := jt 1302 (by decide +kernel) rfl
theorem jw_1303 : (Jvm.Cond.code ({ cls := "CoreLeasesModel", name := "count", desc := "(I)I" } : Jvm.MethodName) prog_10_method_77_code (2 : Nat) (Option.some Jvm.ClassFile.FieldType.int)) ∈ jall := jt 1303 (by decide +kernel) rfl
theorem jw_1304 : (Jvm.Cond.methodLink "CoreLeasesModel" (217 : Nat) ({ cls := "CoreLeasesModel", name := "counted", desc := "(I)I" } : Jvm.MethodName)) ∈ jall := jt 1304 (by decide +kernel) rfl
theorem jw_1306 : (Jvm.Cond.instanceMethod ({ cls := "CoreLeasesModel", name := "counted", desc := "(I)I" } : Jvm.MethodName)) ∈ jall := jt 1306 (by decide +kernel) rfl
theorem jw_1307 : (Jvm.Cond.code ({ cls := "CoreLeasesModel", name := "counted", desc := "(I)I" } : Jvm.MethodName) prog_10_method_76_code (2 : Nat) (Option.some Jvm.ClassFile.FieldType.int)) ∈ jall := jt 1307 (by decide +kernel) rfl
theorem jw_1308 : (Jvm.Cond.methodLink "CoreLeasesModel" (214 : Nat) ({ cls := "CoreLeasesModel", name := "coresWith", desc := "(I)I" } : Jvm.MethodName)) ∈ jall := jt 1308 (by decide +kernel) rfl
theorem jw_1310 : (Jvm.Cond.instanceMethod ({ cls := "CoreLeasesModel", name := "coresWith", desc := "(I)I" } : Jvm.MethodName)) ∈ jall := jt 1310 (by decide +kernel) rfl
theorem jw_1311 : (Jvm.Cond.code ({ cls := "CoreLeasesModel", name := "coresWith", desc := "(I)I" } : Jvm.MethodName) prog_10_method_75_code (4 : Nat) (Option.some Jvm.ClassFile.FieldType.int)) ∈ jall := jt 1311 (by decide +kernel) rfl
theorem jw_1312 : (Jvm.Cond.methodLink "CoreLeasesLaw" (180 : Nat) ({ cls := "CoreLeasesModel", name := "setting", desc := "(I)I" } : Jvm.MethodName)) ∈ jall := jt 1312 (by decide +kernel) rfl
theorem jw_1313 : (Jvm.Cond.instanceMethod ({ cls := "CoreLeasesModel", name := "setting", desc := "(I)I" } : Jvm.MethodName)) ∈ jall := jt 1313 (by decide +kernel) rfl
theorem jw_1314 : (Jvm.Cond.selects "CoreLeasesModel" ({ cls := "CoreLeasesModel", name := "setting", desc := "(I)I" } : Jvm.MethodName) ({ cls := "CoreLeasesModel", name := "setting", desc := "(I)I" } : Jvm.MethodName)) ∈ jall := jt 1314 (by decide +kernel) rfl
theorem jw_1315 : (Jvm.Cond.code ({ cls := "CoreLeasesModel", name := "setting", desc := "(I)I" } : Jvm.MethodName) prog_10_method_78_code (2 : Nat) (Option.some Jvm.ClassFile.FieldType.int)) ∈ jall := jt 1315 (by decide +kernel) rfl
theorem jw_1316 : (Jvm.Cond.methodLink "CoreLeasesLaw" (183 : Nat) ({ cls := "CoreLeasesModel", name := "premium", desc := "(III)I" } : Jvm.MethodName)) ∈ jall := jt 1316 (by decide +kernel) rfl
theorem jw_1317 : (Jvm.Cond.instanceMethod ({ cls := "CoreLeasesModel", name := "premium", desc := "(III)I" } : Jvm.MethodName)) ∈ jall := jt 1317 (by decide +kernel) rfl
theorem jw_1318 : (Jvm.Cond.selects "CoreLeasesModel" ({ cls := "CoreLeasesModel", name := "premium", desc := "(III)I" } : Jvm.MethodName) ({ cls := "CoreLeasesModel", name := "premium", desc := "(III)I" } : Jvm.MethodName)) ∈ jall := jt 1318 (by decide +kernel) rfl
theorem jw_1319 : (Jvm.Cond.code ({ cls := "CoreLeasesModel", name := "premium", desc := "(III)I" } : Jvm.MethodName) prog_10_method_79_code (4 : Nat) (Option.some Jvm.ClassFile.FieldType.int)) ∈ jall := jt 1319 (by decide +kernel) rfl
theorem jw_1320 : (Jvm.Cond.methodLink "CoreLeasesLaw" (186 : Nat) ({ cls := "CoreLeasesModel", name := "cheapest", desc := "(III)I" } : Jvm.MethodName)) ∈ jall := jt 1320 (by decide +kernel) rfl
theorem jw_1321 : (Jvm.Cond.instanceMethod ({ cls := "CoreLeasesModel", name := "cheapest", desc := "(III)I" } : Jvm.MethodName)) ∈ jall := jt 1321 (by decide +kernel) rfl
theorem jw_1322 : (Jvm.Cond.selects "CoreLeasesModel" ({ cls := "CoreLeasesModel", name := "cheapest", desc := "(III)I" } : Jvm.MethodName) ({ cls := "CoreLeasesModel", name := "cheapest", desc := "(III)I" } : Jvm.MethodName)) ∈ jall := jt 1322 (by decide +kernel) rfl
theorem jw_1323 : (Jvm.Cond.code ({ cls := "CoreLeasesModel", name := "cheapest", desc := "(III)I" } : Jvm.MethodName) prog_10_method_81_code (4 : Nat) (Option.some Jvm.ClassFile.FieldType.int)) ∈ jall := jt 1323 (by decide +kernel) rfl
theorem jw_1324 : (Jvm.Cond.methodLink "CoreLeasesModel" (220 : Nat) ({ cls := "CoreLeasesModel", name := "cheapestNow", desc := "(III)I" } : Jvm.MethodName)) ∈ jall := jt 1324 (by decide +kernel) rfl
theorem jw_1326 : (Jvm.Cond.instanceMethod ({ cls := "CoreLeasesModel", name := "cheapestNow", desc := "(III)I" } : Jvm.MethodName)) ∈ jall := jt 1326 (by decide +kernel) rfl
theorem jw_1327 : (Jvm.Cond.code ({ cls := "CoreLeasesModel", name := "cheapestNow", desc := "(III)I" } : Jvm.MethodName) prog_10_method_80_code (7 : Nat) (Option.some Jvm.ClassFile.FieldType.int)) ∈ jall := jt 1327 (by decide +kernel) rfl
theorem jw_1328 : (Jvm.Cond.methodLink "CoreLeasesLaw" (190 : Nat) ({ cls := "CoreLeasesModel", name := "waitFor", desc := "(IIII)I" } : Jvm.MethodName)) ∈ jall := jt 1328 (by decide +kernel) rfl
theorem jw_1329 : (Jvm.Cond.instanceMethod ({ cls := "CoreLeasesModel", name := "waitFor", desc := "(IIII)I" } : Jvm.MethodName)) ∈ jall := jt 1329 (by decide +kernel) rfl
theorem jw_1330 : (Jvm.Cond.selects "CoreLeasesModel" ({ cls := "CoreLeasesModel", name := "waitFor", desc := "(IIII)I" } : Jvm.MethodName) ({ cls := "CoreLeasesModel", name := "waitFor", desc := "(IIII)I" } : Jvm.MethodName)) ∈ jall := jt 1330 (by decide +kernel) rfl
theorem jw_1331 : (Jvm.Cond.code ({ cls := "CoreLeasesModel", name := "waitFor", desc := "(IIII)I" } : Jvm.MethodName) prog_10_method_83_code (5 : Nat) (Option.some Jvm.ClassFile.FieldType.int)) ∈ jall := jt 1331 (by decide +kernel) rfl
theorem jw_1332 : (Jvm.Cond.methodLink "CoreLeasesModel" (223 : Nat) ({ cls := "CoreLeasesModel", name := "waitNow", desc := "(IIII)I" } : Jvm.MethodName)) ∈ jall := jt 1332 (by decide +kernel) rfl
theorem jw_1334 : (Jvm.Cond.instanceMethod ({ cls := "CoreLeasesModel", name := "waitNow", desc := "(IIII)I" } : Jvm.MethodName)) ∈ jall := jt 1334 (by decide +kernel) rfl
theorem jw_1335 : (Jvm.Cond.code ({ cls := "CoreLeasesModel", name := "waitNow", desc := "(IIII)I" } : Jvm.MethodName) prog_10_method_82_code (6 : Nat) (Option.some Jvm.ClassFile.FieldType.int)) ∈ jall := jt 1335 (by decide +kernel) rfl
theorem jw_1336 : (Jvm.Cond.methodLink "CoreLeasesLaw" (193 : Nat) ({ cls := "CoreLeasesModel", name := "ifRead", desc := "(II)I" } : Jvm.MethodName)) ∈ jall := jt 1336 (by decide +kernel) rfl
theorem jw_1337 : (Jvm.Cond.instanceMethod ({ cls := "CoreLeasesModel", name := "ifRead", desc := "(II)I" } : Jvm.MethodName)) ∈ jall := jt 1337 (by decide +kernel) rfl
theorem jw_1338 : (Jvm.Cond.selects "CoreLeasesModel" ({ cls := "CoreLeasesModel", name := "ifRead", desc := "(II)I" } : Jvm.MethodName) ({ cls := "CoreLeasesModel", name := "ifRead", desc := "(II)I" } : Jvm.MethodName)) ∈ jall := jt 1338 (by decide +kernel) rfl
theorem jw_1339 : (Jvm.Cond.code ({ cls := "CoreLeasesModel", name := "ifRead", desc := "(II)I" } : Jvm.MethodName) prog_10_method_86_code (3 : Nat) (Option.some Jvm.ClassFile.FieldType.int)) ∈ jall := jt 1339 (by decide +kernel) rfl
theorem jw_1340 : (Jvm.Cond.methodLink "CoreLeasesModel" (229 : Nat) ({ cls := "CoreLeasesModel", name := "readNow", desc := "(II)I" } : Jvm.MethodName)) ∈ jall := jt 1340 (by decide +kernel) rfl
theorem jw_1342 : (Jvm.Cond.instanceMethod ({ cls := "CoreLeasesModel", name := "readNow", desc := "(II)I" } : Jvm.MethodName)) ∈ jall := jt 1342 (by decide +kernel) rfl
theorem jw_1343 : (Jvm.Cond.code ({ cls := "CoreLeasesModel", name := "readNow", desc := "(II)I" } : Jvm.MethodName) prog_10_method_85_code (3 : Nat) (Option.some Jvm.ClassFile.FieldType.int)) ∈ jall := jt 1343 (by decide +kernel) rfl
theorem jw_1344 : (Jvm.Cond.methodLink "CoreLeasesModel" (226 : Nat) ({ cls := "CoreLeasesModel", name := "disturbs", desc := "(II)I" } : Jvm.MethodName)) ∈ jall := jt 1344 (by decide +kernel) rfl
theorem jw_1346 : (Jvm.Cond.instanceMethod ({ cls := "CoreLeasesModel", name := "disturbs", desc := "(II)I" } : Jvm.MethodName)) ∈ jall := jt 1346 (by decide +kernel) rfl
theorem jw_1347 : (Jvm.Cond.code ({ cls := "CoreLeasesModel", name := "disturbs", desc := "(II)I" } : Jvm.MethodName) prog_10_method_84_code (6 : Nat) (Option.some Jvm.ClassFile.FieldType.int)) ∈ jall := jt 1347 (by decide +kernel) rfl
theorem jw_1348 : (Jvm.Cond.methodLink "CoreLeasesLaw" (197 : Nat) ({ cls := "CoreLeasesModel", name := "gentlest", desc := "()I" } : Jvm.MethodName)) ∈ jall := jt 1348 (by decide +kernel) rfl
theorem jw_1349 : (Jvm.Cond.instanceMethod ({ cls := "CoreLeasesModel", name := "gentlest", desc := "()I" } : Jvm.MethodName)) ∈ jall := jt 1349 (by decide +kernel) rfl
theorem jw_1350 : (Jvm.Cond.selects "CoreLeasesModel" ({ cls := "CoreLeasesModel", name := "gentlest", desc := "()I" } : Jvm.MethodName) ({ cls := "CoreLeasesModel", name := "gentlest", desc := "()I" } : Jvm.MethodName)) ∈ jall := jt 1350 (by decide +kernel) rfl
theorem jw_1351 : (Jvm.Cond.code ({ cls := "CoreLeasesModel", name := "gentlest", desc := "()I" } : Jvm.MethodName) prog_10_method_89_code (1 : Nat) (Option.some Jvm.ClassFile.FieldType.int)) ∈ jall := jt 1351 (by decide +kernel) rfl
theorem jw_1352 : (Jvm.Cond.methodLink "CoreLeasesModel" (235 : Nat) ({ cls := "CoreLeasesModel", name := "gentlestNow", desc := "()I" } : Jvm.MethodName)) ∈ jall := jt 1352 (by decide +kernel) rfl
theorem jw_1354 : (Jvm.Cond.instanceMethod ({ cls := "CoreLeasesModel", name := "gentlestNow", desc := "()I" } : Jvm.MethodName)) ∈ jall := jt 1354 (by decide +kernel) rfl
theorem jw_1355 : (Jvm.Cond.code ({ cls := "CoreLeasesModel", name := "gentlestNow", desc := "()I" } : Jvm.MethodName) prog_10_method_88_code (4 : Nat) (Option.some Jvm.ClassFile.FieldType.int)) ∈ jall := jt 1355 (by decide +kernel) rfl
theorem jw_1356 : (Jvm.Cond.methodLink "CoreLeasesModel" (232 : Nat) ({ cls := "CoreLeasesModel", name := "isGentler", desc := "(II)Z" } : Jvm.MethodName)) ∈ jall := jt 1356 (by decide +kernel) rfl
theorem jw_1358 : (Jvm.Cond.instanceMethod ({ cls := "CoreLeasesModel", name := "isGentler", desc := "(II)Z" } : Jvm.MethodName)) ∈ jall := jt 1358 (by decide +kernel) rfl
theorem jw_1359 : (Jvm.Cond.code ({ cls := "CoreLeasesModel", name := "isGentler", desc := "(II)Z" } : Jvm.MethodName) prog_10_method_87_code (5 : Nat) (Option.some Jvm.ClassFile.FieldType.boolean)) ∈ jall := jt 1359 (by decide +kernel) rfl
theorem jw_1360 : (Jvm.Cond.methodLink "CoreLeasesLaw" (200 : Nat) ({ cls := "CoreLeasesModel", name := "savable", desc := "(I)I" } : Jvm.MethodName)) ∈ jall := jt 1360 (by decide +kernel) rfl
theorem jw_1361 : (Jvm.Cond.instanceMethod ({ cls := "CoreLeasesModel", name := "savable", desc := "(I)I" } : Jvm.MethodName)) ∈ jall := jt 1361 (by decide +kernel) rfl
theorem jw_1362 : (Jvm.Cond.selects "CoreLeasesModel" ({ cls := "CoreLeasesModel", name := "savable", desc := "(I)I" } : Jvm.MethodName) ({ cls := "CoreLeasesModel", name := "savable", desc := "(I)I" } : Jvm.MethodName)) ∈ jall := jt 1362 (by decide +kernel) rfl
theorem jw_1363 : (Jvm.Cond.code ({ cls := "CoreLeasesModel", name := "savable", desc := "(I)I" } : Jvm.MethodName) prog_10_method_91_code (2 : Nat) (Option.some Jvm.ClassFile.FieldType.int)) ∈ jall := jt 1363 (by decide +kernel) rfl
theorem jw_1364 : (Jvm.Cond.methodLink "CoreLeasesModel" (244 : Nat) ({ cls := "CoreLeasesModel", name := "savableNow", desc := "(I)I" } : Jvm.MethodName)) ∈ jall := jt 1364 (by decide +kernel) rfl
theorem jw_1366 : (Jvm.Cond.instanceMethod ({ cls := "CoreLeasesModel", name := "savableNow", desc := "(I)I" } : Jvm.MethodName)) ∈ jall := jt 1366 (by decide +kernel) rfl
theorem jw_1367 : (Jvm.Cond.code ({ cls := "CoreLeasesModel", name := "savableNow", desc := "(I)I" } : Jvm.MethodName) prog_10_method_90_code (4 : Nat) (Option.some Jvm.ClassFile.FieldType.int)) ∈ jall := jt 1367 (by decide +kernel) rfl
theorem jw_1368 : (Jvm.Cond.methodLink "CoreLeasesModel" (238 : Nat) ({ cls := "CoreLeasesModel", name := "keep", desc := "()V" } : Jvm.MethodName)) ∈ jall := jt 1368 (by decide +kernel) rfl
theorem jw_1370 : (Jvm.Cond.instanceMethod ({ cls := "CoreLeasesModel", name := "keep", desc := "()V" } : Jvm.MethodName)) ∈ jall := jt 1370 (by decide +kernel) rfl
theorem jw_1371 : (Jvm.Cond.code ({ cls := "CoreLeasesModel", name := "keep", desc := "()V" } : Jvm.MethodName) prog_10_method_16_code (2 : Nat) (Option.none : Option Jvm.ClassFile.FieldType)) ∈ jall := jt 1371 (by decide +kernel) rfl
theorem jw_1372 : (Jvm.Cond.methodLink "CoreLeasesModel" (241 : Nat) ({ cls := "CoreLeasesModel", name := "bring", desc := "()V" } : Jvm.MethodName)) ∈ jall := jt 1372 (by decide +kernel) rfl
theorem jw_1374 : (Jvm.Cond.instanceMethod ({ cls := "CoreLeasesModel", name := "bring", desc := "()V" } : Jvm.MethodName)) ∈ jall := jt 1374 (by decide +kernel) rfl
theorem jw_1375 : (Jvm.Cond.code ({ cls := "CoreLeasesModel", name := "bring", desc := "()V" } : Jvm.MethodName) prog_10_method_17_code (2 : Nat) (Option.none : Option Jvm.ClassFile.FieldType)) ∈ jall := jt 1375 (by decide +kernel) rfl
theorem jw_1376 : (Jvm.Cond.methodLink "CoreLeasesLaw" (203 : Nat) ({ cls := "CoreLeasesModel", name := "atRisk", desc := "(I)I" } : Jvm.MethodName)) ∈ jall := jt 1376 (by decide +kernel) rfl
theorem jw_1377 : (Jvm.Cond.instanceMethod ({ cls := "CoreLeasesModel", name := "atRisk", desc := "(I)I" } : Jvm.MethodName)) ∈ jall := jt 1377 (by decide +kernel) rfl
theorem jw_1378 : (Jvm.Cond.selects "CoreLeasesModel" ({ cls := "CoreLeasesModel", name := "atRisk", desc := "(I)I" } : Jvm.MethodName) ({ cls := "CoreLeasesModel", name := "atRisk", desc := "(I)I" } : Jvm.MethodName)) ∈ jall := jt 1378 (by decide +kernel) rfl
theorem jw_1379 : (Jvm.Cond.code ({ cls := "CoreLeasesModel", name := "atRisk", desc := "(I)I" } : Jvm.MethodName) prog_10_method_93_code (2 : Nat) (Option.some Jvm.ClassFile.FieldType.int)) ∈ jall := jt 1379 (by decide +kernel) rfl
theorem jw_1380 : (Jvm.Cond.methodLink "CoreLeasesModel" (247 : Nat) ({ cls := "CoreLeasesModel", name := "riskNow", desc := "(I)I" } : Jvm.MethodName)) ∈ jall := jt 1380 (by decide +kernel) rfl
theorem jw_1382 : (Jvm.Cond.instanceMethod ({ cls := "CoreLeasesModel", name := "riskNow", desc := "(I)I" } : Jvm.MethodName)) ∈ jall := jt 1382 (by decide +kernel) rfl
theorem jw_1383 : (Jvm.Cond.code ({ cls := "CoreLeasesModel", name := "riskNow", desc := "(I)I" } : Jvm.MethodName) prog_10_method_92_code (5 : Nat) (Option.some Jvm.ClassFile.FieldType.int)) ∈ jall := jt 1383 (by decide +kernel) rfl
theorem jw_1384 : (Jvm.Cond.methodLink "CoreLeasesLaw" (208 : Nat) ({ cls := "CoreLeasesModel", name := "backShare", desc := "()D" } : Jvm.MethodName)) ∈ jall := jt 1384 (by decide +kernel) rfl
theorem jw_1385 : (Jvm.Cond.instanceMethod ({ cls := "CoreLeasesModel", name := "backShare", desc := "()D" } : Jvm.MethodName)) ∈ jall := jt 1385 (by decide +kernel) rfl
theorem jw_1386 : (Jvm.Cond.selects "CoreLeasesModel" ({ cls := "CoreLeasesModel", name := "backShare", desc := "()D" } : Jvm.MethodName) ({ cls := "CoreLeasesModel", name := "backShare", desc := "()D" } : Jvm.MethodName)) ∈ jall := jt 1386 (by decide +kernel) rfl
theorem jw_1387 : (Jvm.Cond.code ({ cls := "CoreLeasesModel", name := "backShare", desc := "()D" } : Jvm.MethodName) prog_10_method_95_code (1 : Nat) (Option.some Jvm.ClassFile.FieldType.double)) ∈ jall := jt 1387 (by decide +kernel) rfl
theorem jw_1388 : (Jvm.Cond.methodLink "CoreLeasesModel" (250 : Nat) ({ cls := "CoreLeasesModel", name := "backNow", desc := "()D" } : Jvm.MethodName)) ∈ jall := jt 1388 (by decide +kernel) rfl
theorem jw_1390 : (Jvm.Cond.instanceMethod ({ cls := "CoreLeasesModel", name := "backNow", desc := "()D" } : Jvm.MethodName)) ∈ jall := jt 1390 (by decide +kernel) rfl
theorem jw_1391 : (Jvm.Cond.code ({ cls := "CoreLeasesModel", name := "backNow", desc := "()D" } : Jvm.MethodName) prog_10_method_94_code (1 : Nat) (Option.some Jvm.ClassFile.FieldType.double)) ∈ jall := jt 1391 (by decide +kernel) rfl
theorem jw_1392 : (Jvm.Cond.methodLink "CoreLeasesLaw" (213 : Nat) ({ cls := "CoreLeasesModel", name := "digest", desc := "()J" } : Jvm.MethodName)) ∈ jall := jt 1392 (by decide +kernel) rfl
theorem jw_1393 : (Jvm.Cond.instanceMethod ({ cls := "CoreLeasesModel", name := "digest", desc := "()J" } : Jvm.MethodName)) ∈ jall := jt 1393 (by decide +kernel) rfl
theorem jw_1394 : (Jvm.Cond.selects "CoreLeasesModel" ({ cls := "CoreLeasesModel", name := "digest", desc := "()J" } : Jvm.MethodName) ({ cls := "CoreLeasesModel", name := "digest", desc := "()J" } : Jvm.MethodName)) ∈ jall := jt 1394 (by decide +kernel) rfl
theorem jw_1395 : (Jvm.Cond.code ({ cls := "CoreLeasesModel", name := "digest", desc := "()J" } : Jvm.MethodName) prog_10_method_99_code (3 : Nat) (Option.some Jvm.ClassFile.FieldType.long)) ∈ jall := jt 1395 (by decide +kernel) rfl
theorem jw_1396 : (Jvm.Cond.constantLong "CoreLeasesModel" (270 : Nat) (2351 : Int64)) ∈ jall := jt 1396 (by decide +kernel) rfl
theorem jw_1397 : (Jvm.Cond.methodLink "CoreLeasesModel" (260 : Nat) ({ cls := "CoreLeasesModel", name := "mix", desc := "(J)V" } : Jvm.MethodName)) ∈ jall := jt 1397 (by decide +kernel) rfl
theorem jw_1399 : (Jvm.Cond.instanceMethod ({ cls := "CoreLeasesModel", name := "mix", desc := "(J)V" } : Jvm.MethodName)) ∈ jall := jt 1399 (by decide +kernel) rfl
theorem jw_1400 : (Jvm.Cond.code ({ cls := "CoreLeasesModel", name := "mix", desc := "(J)V" } : Jvm.MethodName) prog_10_method_96_code (3 : Nat) (Option.none : Option Jvm.ClassFile.FieldType)) ∈ jall := jt 1400 (by decide +kernel) rfl
theorem jw_1401 : (Jvm.Cond.constantLong "CoreLeasesModel" (254 : Nat) (31 : Int64)) ∈ jall := jt 1401 (by decide +kernel) rfl
theorem jw_1402 : (Jvm.Cond.methodLink "CoreLeasesModel" (272 : Nat) ({ cls := "CoreLeasesModel", name := "mixPeople", desc := "()V" } : Jvm.MethodName)) ∈ jall := jt 1402 (by decide +kernel) rfl
theorem jw_1404 : (Jvm.Cond.instanceMethod ({ cls := "CoreLeasesModel", name := "mixPeople", desc := "()V" } : Jvm.MethodName)) ∈ jall := jt 1404 (by decide +kernel) rfl
theorem jw_1405 : (Jvm.Cond.code ({ cls := "CoreLeasesModel", name := "mixPeople", desc := "()V" } : Jvm.MethodName) prog_10_method_97_code (3 : Nat) (Option.none : Option Jvm.ClassFile.FieldType)) ∈ jall := jt 1405 (by decide +kernel) rfl
theorem jw_1406 : (Jvm.Cond.methodLink "CoreLeasesModel" (275 : Nat) ({ cls := "CoreLeasesModel", name := "mixAhead", desc := "()V" } : Jvm.MethodName)) ∈ jall := jt 1406 (by decide +kernel) rfl
theorem jw_1408 : (Jvm.Cond.instanceMethod ({ cls := "CoreLeasesModel", name := "mixAhead", desc := "()V" } : Jvm.MethodName)) ∈ jall := jt 1408 (by decide +kernel) rfl
theorem jw_1409 : (Jvm.Cond.code ({ cls := "CoreLeasesModel", name := "mixAhead", desc := "()V" } : Jvm.MethodName) prog_10_method_98_code (3 : Nat) (Option.none : Option Jvm.ClassFile.FieldType)) ∈ jall := jt 1409 (by decide +kernel) rfl
theorem jw_1410 : (Jvm.Cond.methodLink "CoreLeasesModel" (264 : Nat) ({ cls := "java/lang/Double", name := "doubleToLongBits", desc := "(D)J" } : Jvm.MethodName)) ∈ jall := jt 1410 (by decide +kernel) rfl
theorem jw_1411 : (Jvm.Cond.static ({ cls := "java/lang/Double", name := "doubleToLongBits", desc := "(D)J" } : Jvm.MethodName)) ∈ jall := jt 1411 (by decide +kernel) rfl
theorem jw_1412 : (Jvm.Cond.code ({ cls := "java/lang/Double", name := "doubleToLongBits", desc := "(D)J" } : Jvm.MethodName) prog_11_method_23_code (2 : Nat) (Option.some Jvm.ClassFile.FieldType.long)) ∈ jall := jt 1412 (by decide +kernel) rfl
theorem jw_1413 : (Jvm.Cond.methodLink "java/lang/Double" (122 : Nat) ({ cls := "java/lang/Double", name := "isNaN", desc := "(D)Z" } : Jvm.MethodName)) ∈ jall := jt 1413 (by decide +kernel) rfl
theorem jw_1414 : (Jvm.Cond.static ({ cls := "java/lang/Double", name := "isNaN", desc := "(D)Z" } : Jvm.MethodName)) ∈ jall := jt 1414 (by decide +kernel) rfl
theorem jw_1415 : (Jvm.Cond.code ({ cls := "java/lang/Double", name := "isNaN", desc := "(D)Z" } : Jvm.MethodName) prog_11_method_6_code (2 : Nat) (Option.some Jvm.ClassFile.FieldType.boolean)) ∈ jall := jt 1415 (by decide +kernel) rfl
theorem jw_1416 : (Jvm.Cond.methodLink "java/lang/Double" (134 : Nat) ({ cls := "java/lang/Double", name := "doubleToRawLongBits", desc := "(D)J" } : Jvm.MethodName)) ∈ jall := jt 1416 (by decide +kernel) rfl
theorem jw_1417 : (Jvm.Cond.static ({ cls := "java/lang/Double", name := "doubleToRawLongBits", desc := "(D)J" } : Jvm.MethodName)) ∈ jall := jt 1417 (by decide +kernel) rfl
theorem jw_1418 : (Jvm.Cond.native ({ cls := "java/lang/Double", name := "doubleToRawLongBits", desc := "(D)J" } : Jvm.MethodName)) ∈ jall := jt 1418 (by decide +kernel) rfl
theorem jw_1419 : (Jvm.Cond.constantLong "java/lang/Double" (137 : Nat) (9221120237041090560 : Int64)) ∈ jall := jt 1419 (by decide +kernel) rfl
theorem jw_1420 : (Jvm.Cond.arrayClass Jvm.ClassFile.FieldType.long) ∈ jall := jt 1420 (by decide +kernel) rfl
theorem jp_7 : Cond.selects yX0_isWeaker.cls yX0_isWeaker yX0_isWeaker ∈ jall := jtp 7 (by decide +kernel) rfl
theorem jp_9 : Cond.selects yX3_enterClaim.cls yX3_enterClaim yX3_enterClaim ∈ jall := jtp 9 (by decide +kernel) rfl
theorem jp_10 : Cond.selects yX3_payClaims.cls yX3_payClaims yX3_payClaims ∈ jall := jtp 10 (by decide +kernel) rfl
theorem jp_8 : Cond.selects yX3_pulse.cls yX3_pulse yX3_pulse ∈ jall := jtp 8 (by decide +kernel) rfl
theorem jp_11 : Cond.selects yX3_holdsOne.cls yX3_holdsOne yX3_holdsOne ∈ jall := jtp 11 (by decide +kernel) rfl
theorem jp_12 : Cond.selects yX3_loseLateBits.cls yX3_loseLateBits yX3_loseLateBits ∈ jall := jtp 12 (by decide +kernel) rfl
theorem jp_13 : Cond.selects yX3_endLeaseOf.cls yX3_endLeaseOf yX3_endLeaseOf ∈ jall := jtp 13 (by decide +kernel) rfl
theorem jp_15 : Cond.selects yX4_dropOldest.cls yX4_dropOldest yX4_dropOldest ∈ jall := jtp 15 (by decide +kernel) rfl
theorem jp_1 : Cond.selects yX7_withCores.cls yX7_withCores yX7_withCores ∈ jall := jtp 1 (by decide +kernel) rfl
theorem jp_2 : Cond.selects yX7_withTenants.cls yX7_withTenants yX7_withTenants ∈ jall := jtp 2 (by decide +kernel) rfl
theorem jp_4 : Cond.selects yX7_withInsurers.cls yX7_withInsurers yX7_withInsurers ∈ jall := jtp 4 (by decide +kernel) rfl
theorem jp_6 : Cond.selects yX7_withDebts.cls yX7_withDebts yX7_withDebts ∈ jall := jtp 6 (by decide +kernel) rfl
theorem jp_14 : Cond.selects yX7_withText.cls yX7_withText yX7_withText ∈ jall := jtp 14 (by decide +kernel) rfl
theorem jp_16 : Cond.selects yX7_canDoStep.cls yX7_canDoStep yX7_canDoStep ∈ jall := jtp 16 (by decide +kernel) rfl
theorem jp_17 : Cond.selects yX7_doStep.cls yX7_doStep yX7_doStep ∈ jall := jtp 17 (by decide +kernel) rfl
theorem jp_3 : Cond.selects yX7_requireTenant.cls yX7_requireTenant yX7_requireTenant ∈ jall := jtp 3 (by decide +kernel) rfl
theorem jp_5 : Cond.selects yX7_requireInsurer.cls yX7_requireInsurer yX7_requireInsurer ∈ jall := jtp 5 (by decide +kernel) rfl
theorem jp_19 : Cond.selects yX8_fails.cls yX8_fails yX8_fails ∈ jall := jtp 19 (by decide +kernel) rfl
theorem jp_22 : Cond.selects yX8_isTenant.cls yX8_isTenant yX8_isTenant ∈ jall := jtp 22 (by decide +kernel) rfl
theorem jp_26 : Cond.selects yX8_isInsurer.cls yX8_isInsurer yX8_isInsurer ∈ jall := jtp 26 (by decide +kernel) rfl
theorem jp_24 : Cond.selects yX8_of.cls yX8_of yX8_of ∈ jall := jtp 24 (by decide +kernel) rfl
theorem jp_18 : Cond.selects yX8_lay.cls yX8_lay yX8_lay ∈ jall := jtp 18 (by decide +kernel) rfl
theorem jp_25 : Cond.selects yX8_ofTenant.cls yX8_ofTenant yX8_ofTenant ∈ jall := jtp 25 (by decide +kernel) rfl
theorem jp_29 : Cond.selects yX8_ofInsurer.cls yX8_ofInsurer yX8_ofInsurer ∈ jall := jtp 29 (by decide +kernel) rfl
theorem jp_21 : Cond.selects yX8_rule.cls yX8_rule yX8_rule ∈ jall := jtp 21 (by decide +kernel) rfl
theorem jp_20 : Cond.selects yX8_save.cls yX8_save yX8_save ∈ jall := jtp 20 (by decide +kernel) rfl
theorem jp_70 : Cond.selects yX8_keep.cls yX8_keep yX8_keep ∈ jall := jtp 70 (by decide +kernel) rfl
theorem jp_71 : Cond.selects yX8_bring.cls yX8_bring yX8_bring ∈ jall := jtp 71 (by decide +kernel) rfl
theorem jp_23 : Cond.selects yX8_isLeased.cls yX8_isLeased yX8_isLeased ∈ jall := jtp 23 (by decide +kernel) rfl
theorem jp_37 : Cond.selects yX8_isOwed.cls yX8_isOwed yX8_isOwed ∈ jall := jtp 37 (by decide +kernel) rfl
theorem jp_28 : Cond.selects yX8_premiumBy.cls yX8_premiumBy yX8_premiumBy ∈ jall := jtp 28 (by decide +kernel) rfl
theorem jp_27 : Cond.selects yX8_premiumNow.cls yX8_premiumNow yX8_premiumNow ∈ jall := jtp 27 (by decide +kernel) rfl
theorem jp_30 : Cond.selects yX8_pay.cls yX8_pay yX8_pay ∈ jall := jtp 30 (by decide +kernel) rfl
theorem jp_35 : Cond.selects yX8_loses.cls yX8_loses yX8_loses ∈ jall := jtp 35 (by decide +kernel) rfl
theorem jp_34 : Cond.selects yX8_isWeak.cls yX8_isWeak yX8_isWeak ∈ jall := jtp 34 (by decide +kernel) rfl
theorem jp_33 : Cond.selects yX8_worn.cls yX8_worn yX8_worn ∈ jall := jtp 33 (by decide +kernel) rfl
theorem jp_36 : Cond.selects yX8_heated.cls yX8_heated yX8_heated ∈ jall := jtp 36 (by decide +kernel) rfl
theorem jp_32 : Cond.selects yX8_pulse.cls yX8_pulse yX8_pulse ∈ jall := jtp 32 (by decide +kernel) rfl
theorem jp_31 : Cond.selects yX8_writes.cls yX8_writes yX8_writes ∈ jall := jtp 31 (by decide +kernel) rfl
theorem jp_38 : Cond.selects yX8_canRead.cls yX8_canRead yX8_canRead ∈ jall := jtp 38 (by decide +kernel) rfl
theorem jp_39 : Cond.selects yX8_reads.cls yX8_reads yX8_reads ∈ jall := jtp 39 (by decide +kernel) rfl
theorem jp_43 : Cond.selects yX8_comesAhead.cls yX8_comesAhead yX8_comesAhead ∈ jall := jtp 43 (by decide +kernel) rfl
theorem jp_42 : Cond.selects yX8_layOwed.cls yX8_layOwed yX8_layOwed ∈ jall := jtp 42 (by decide +kernel) rfl
theorem jp_40 : Cond.selects yX8_owedMany.cls yX8_owedMany yX8_owedMany ∈ jall := jtp 40 (by decide +kernel) rfl
theorem jp_41 : Cond.selects yX8_writesBack.cls yX8_writesBack yX8_writesBack ∈ jall := jtp 41 (by decide +kernel) rfl
theorem jp_45 : Cond.selects yX8_endPolicies.cls yX8_endPolicies yX8_endPolicies ∈ jall := jtp 45 (by decide +kernel) rfl
theorem jp_46 : Cond.selects yX8_endLeases.cls yX8_endLeases yX8_endLeases ∈ jall := jtp 46 (by decide +kernel) rfl
theorem jp_44 : Cond.selects yX8_tick.cls yX8_tick yX8_tick ∈ jall := jtp 44 (by decide +kernel) rfl
theorem jp_50 : Cond.selects yX8_goes.cls yX8_goes yX8_goes ∈ jall := jtp 50 (by decide +kernel) rfl
theorem jp_51 : Cond.selects yX8_ends.cls yX8_ends yX8_ends ∈ jall := jtp 51 (by decide +kernel) rfl
theorem jp_49 : Cond.selects yX8_begins.cls yX8_begins yX8_begins ∈ jall := jtp 49 (by decide +kernel) rfl
theorem jp_48 : Cond.selects yX8_takes.cls yX8_takes yX8_takes ∈ jall := jtp 48 (by decide +kernel) rfl
theorem jp_47 : Cond.selects yX8_scan.cls yX8_scan yX8_scan ∈ jall := jtp 47 (by decide +kernel) rfl
theorem jp_52 : Cond.selects yX8_mayDo.cls yX8_mayDo yX8_mayDo ∈ jall := jtp 52 (by decide +kernel) rfl
theorem jp_53 : Cond.selects yX8_does.cls yX8_does yX8_does ∈ jall := jtp 53 (by decide +kernel) rfl
theorem jp_54 : Cond.selects yX8_coreNow.cls yX8_coreNow yX8_coreNow ∈ jall := jtp 54 (by decide +kernel) rfl
theorem jp_56 : Cond.selects yX8_coresOf.cls yX8_coresOf yX8_coresOf ∈ jall := jtp 56 (by decide +kernel) rfl
theorem jp_57 : Cond.selects yX8_waitsOf.cls yX8_waitsOf yX8_waitsOf ∈ jall := jtp 57 (by decide +kernel) rfl
theorem jp_55 : Cond.selects yX8_tenantNow.cls yX8_tenantNow yX8_tenantNow ∈ jall := jtp 55 (by decide +kernel) rfl
theorem jp_59 : Cond.selects yX8_policiesOf.cls yX8_policiesOf yX8_policiesOf ∈ jall := jtp 59 (by decide +kernel) rfl
theorem jp_58 : Cond.selects yX8_insurerNow.cls yX8_insurerNow yX8_insurerNow ∈ jall := jtp 58 (by decide +kernel) rfl
theorem jp_60 : Cond.selects yX8_weakestAt.cls yX8_weakestAt yX8_weakestAt ∈ jall := jtp 60 (by decide +kernel) rfl
theorem jp_62 : Cond.selects yX8_coresWith.cls yX8_coresWith yX8_coresWith ∈ jall := jtp 62 (by decide +kernel) rfl
theorem jp_61 : Cond.selects yX8_counted.cls yX8_counted yX8_counted ∈ jall := jtp 61 (by decide +kernel) rfl
theorem jp_63 : Cond.selects yX8_cheapestNow.cls yX8_cheapestNow yX8_cheapestNow ∈ jall := jtp 63 (by decide +kernel) rfl
theorem jp_64 : Cond.selects yX8_waitNow.cls yX8_waitNow yX8_waitNow ∈ jall := jtp 64 (by decide +kernel) rfl
theorem jp_66 : Cond.selects yX8_disturbs.cls yX8_disturbs yX8_disturbs ∈ jall := jtp 66 (by decide +kernel) rfl
theorem jp_65 : Cond.selects yX8_readNow.cls yX8_readNow yX8_readNow ∈ jall := jtp 65 (by decide +kernel) rfl
theorem jp_68 : Cond.selects yX8_isGentler.cls yX8_isGentler yX8_isGentler ∈ jall := jtp 68 (by decide +kernel) rfl
theorem jp_67 : Cond.selects yX8_gentlestNow.cls yX8_gentlestNow yX8_gentlestNow ∈ jall := jtp 67 (by decide +kernel) rfl
theorem jp_69 : Cond.selects yX8_savableNow.cls yX8_savableNow yX8_savableNow ∈ jall := jtp 69 (by decide +kernel) rfl
theorem jp_72 : Cond.selects yX8_riskNow.cls yX8_riskNow yX8_riskNow ∈ jall := jtp 72 (by decide +kernel) rfl
theorem jp_73 : Cond.selects yX8_backNow.cls yX8_backNow yX8_backNow ∈ jall := jtp 73 (by decide +kernel) rfl
theorem jp_74 : Cond.selects yX8_mix.cls yX8_mix yX8_mix ∈ jall := jtp 74 (by decide +kernel) rfl
theorem jp_75 : Cond.selects yX8_mixPeople.cls yX8_mixPeople yX8_mixPeople ∈ jall := jtp 75 (by decide +kernel) rfl
theorem jp_76 : Cond.selects yX8_mixAhead.cls yX8_mixAhead yX8_mixAhead ∈ jall := jtp 76 (by decide +kernel) rfl
