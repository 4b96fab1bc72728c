/-! words that all methods have, by their places -/
theorem jt (i : Nat) {w : Cond} (h : tables_1[i]? = some w) (hg : goodWord w = true) : w ∈ jall := List.mem_filter.mpr ⟨List.mem_append_right _ (List.mem_of_getElem? h), hg⟩
theorem jtp (i : Nat) {w : Cond} (h : (k2_sels lw_privs)[i]? = some w) (hg : goodWord w = true) : w ∈ jall := List.mem_filter.mpr ⟨List.mem_append_left _ (List.mem_of_getElem? h), hg⟩
theorem jw_0 : (Jvm.Cond.initialized "CoreLeasesLaw") ∈ jall := jt 0 (by decide +kernel) rfl
theorem jw_1 : (Jvm.Cond.initialized "CoreLeases") ∈ jall := jt 1 (by decide +kernel) rfl
theorem jw_2 : (Jvm.Cond.initialized "CoreLeases$Plane") ∈ jall := jt 2 (by decide +kernel) rfl
theorem jw_3 : (Jvm.Cond.initialized "CoreLeases$Cores") ∈ jall := jt 3 (by decide +kernel) rfl
theorem jw_4 : (Jvm.Cond.initialized "java/util/Arrays") ∈ jall := jt 4 (by decide +kernel) rfl
theorem jw_5 : (Jvm.Cond.initialized "CoreLeases$Debts") ∈ jall := jt 5 (by decide +kernel) rfl
theorem jw_6 : (Jvm.Cond.initialized "CoreLeases$Tenants") ∈ jall := jt 6 (by decide +kernel) rfl
theorem jw_7 : (Jvm.Cond.initialized "CoreLeases$Insurers") ∈ jall := jt 7 (by decide +kernel) rfl
theorem jw_8 : (Jvm.Cond.initialized "java/lang/Math") ∈ jall := jt 8 (by decide +kernel) rfl
theorem jw_9 : (Jvm.Cond.initialized "java/lang/System") ∈ jall := jt 9 (by decide +kernel) rfl
theorem jw_10 : (Jvm.Cond.initialized "CoreLeases$Saves") ∈ jall := jt 10 (by decide +kernel) rfl
theorem jw_11 : (Jvm.Cond.initialized "CoreLeases$Text") ∈ jall := jt 11 (by decide +kernel) rfl
theorem jw_12 : (Jvm.Cond.initialized "CoreLeasesModel") ∈ jall := jt 12 (by decide +kernel) rfl
theorem jw_20 : (Jvm.Cond.initialized "java/lang/Long") ∈ jall := jt 20 (by decide +kernel) rfl
theorem jw_21 : (Jvm.Cond.initialized "java/lang/Double") ∈ jall := jt 21 (by decide +kernel) rfl
theorem jw_22 : (Jvm.Cond.classLink "CoreLeasesLaw" (8 : Nat) "CoreLeases") ∈ jall := jt 22 (by decide +kernel) rfl
theorem jw_23 : (Jvm.Cond.instantiable "CoreLeases" (4 : Nat)) ∈ jall := jt 23 (by decide +kernel) rfl
theorem jw_24 : (Jvm.Cond.methodLink "CoreLeasesLaw" (99 : Nat) ({ cls := "CoreLeases", name := "<init>", desc := "()V" } : Jvm.MethodName)) ∈ jall := jt 24 (by decide +kernel) rfl
theorem jw_25 : (Jvm.Cond.instanceMethod ({ cls := "CoreLeases", name := "<init>", desc := "()V" } : Jvm.MethodName)) ∈ jall := jt 25 (by decide +kernel) rfl
theorem jw_26 : (Jvm.Cond.code ({ cls := "CoreLeases", name := "<init>", desc := "()V" } : Jvm.MethodName) prog_1_method_1_code (1 : Nat) (Option.none : Option Jvm.ClassFile.FieldType)) ∈ jall := jt 26 (by decide +kernel) rfl
theorem jw_27 : (Jvm.Cond.methodLink "CoreLeases" (1 : Nat) ({ cls := "java/lang/Object", name := "<init>", desc := "()V" } : Jvm.MethodName)) ∈ jall := jt 27 (by decide +kernel) rfl
theorem jw_28 : (Jvm.Cond.instanceMethod ({ cls := "java/lang/Object", name := "<init>", desc := "()V" } : Jvm.MethodName)) ∈ jall := jt 28 (by decide +kernel) rfl
theorem jw_29 : (Jvm.Cond.code ({ cls := "java/lang/Object", name := "<init>", desc := "()V" } : Jvm.MethodName) object_method_1_code (1 : Nat) (Option.none : Option Jvm.ClassFile.FieldType)) ∈ jall := jt 29 (by decide +kernel) rfl
theorem jw_30 : (Jvm.Cond.classLink "CoreLeases" (7 : Nat) "CoreLeases$Plane") ∈ jall := jt 30 (by decide +kernel) rfl
theorem jw_31 : (Jvm.Cond.instantiable "CoreLeases$Plane" (11 : Nat)) ∈ jall := jt 31 (by decide +kernel) rfl
theorem jw_32 : (Jvm.Cond.methodLink "CoreLeases" (9 : Nat) ({ cls := "CoreLeases$Plane", name := "<init>", desc := "()V" } : Jvm.MethodName)) ∈ jall := jt 32 (by decide +kernel) rfl
theorem jw_33 : (Jvm.Cond.instanceMethod ({ cls := "CoreLeases$Plane", name := "<init>", desc := "()V" } : Jvm.MethodName)) ∈ jall := jt 33 (by decide +kernel) rfl
theorem jw_34 : (Jvm.Cond.code ({ cls := "CoreLeases$Plane", name := "<init>", desc := "()V" } : Jvm.MethodName) prog_5_method_1_code (1 : Nat) (Option.none : Option Jvm.ClassFile.FieldType)) ∈ jall := jt 34 (by decide +kernel) rfl
theorem jw_35 : (Jvm.Cond.methodLink "CoreLeases$Plane" (3 : Nat) ({ cls := "java/lang/Object", name := "<init>", desc := "()V" } : Jvm.MethodName)) ∈ jall := jt 35 (by decide +kernel) rfl
theorem jw_36 : (Jvm.Cond.classLink "CoreLeases$Plane" (28 : Nat) "CoreLeases$Cores") ∈ jall := jt 36 (by decide +kernel) rfl
theorem jw_37 : (Jvm.Cond.instantiable "CoreLeases$Cores" (7 : Nat)) ∈ jall := jt 37 (by decide +kernel) rfl
theorem jw_38 : (Jvm.Cond.methodLink "CoreLeases$Plane" (30 : Nat) ({ cls := "CoreLeases$Cores", name := "<init>", desc := "()V" } : Jvm.MethodName)) ∈ jall := jt 38 (by decide +kernel) rfl
theorem jw_39 : (Jvm.Cond.instanceMethod ({ cls := "CoreLeases$Cores", name := "<init>", desc := "()V" } : Jvm.MethodName)) ∈ jall := jt 39 (by decide +kernel) rfl
theorem jw_40 : (Jvm.Cond.code ({ cls := "CoreLeases$Cores", name := "<init>", desc := "()V" } : Jvm.MethodName) prog_2_method_1_code (1 : Nat) (Option.none : Option Jvm.ClassFile.FieldType)) ∈ jall := jt 40 (by decide +kernel) rfl
theorem jw_41 : (Jvm.Cond.methodLink "CoreLeases$Cores" (3 : Nat) ({ cls := "java/lang/Object", name := "<init>", desc := "()V" } : Jvm.MethodName)) ∈ jall := jt 41 (by decide +kernel) rfl
theorem jw_42 : (Jvm.Cond.methodLink "CoreLeases$Cores" (34 : Nat) ({ cls := "java/util/Arrays", name := "fill", desc := "([II)V" } : Jvm.MethodName)) ∈ jall := jt 42 (by decide +kernel) rfl
theorem jw_43 : (Jvm.Cond.static ({ cls := "java/util/Arrays", name := "fill", desc := "([II)V" } : Jvm.MethodName)) ∈ jall := jt 43 (by decide +kernel) rfl
theorem jw_44 : (Jvm.Cond.code ({ cls := "java/util/Arrays", name := "fill", desc := "([II)V" } : Jvm.MethodName) prog_23_method_103_code (4 : Nat) (Option.none : Option Jvm.ClassFile.FieldType)) ∈ jall := jt 44 (by decide +kernel) rfl
theorem jw_45 : (Jvm.Cond.fieldLink "CoreLeases$Cores" (9 : Nat) "CoreLeases$Cores" "ones" "J") ∈ jall := jt 45 (by decide +kernel) rfl
theorem jw_46 : (Jvm.Cond.fieldLink "CoreLeases" (265 : Nat) "CoreLeases$Cores" "ones" "J") ∈ jall := jt 46 (by decide +kernel) rfl
theorem jw_47 : (Jvm.Cond.fieldLink "CoreLeases$Cores" (15 : Nat) "CoreLeases$Cores" "strength" "[I") ∈ jall := jt 47 (by decide +kernel) rfl
theorem jw_48 : (Jvm.Cond.fieldLink "CoreLeases$Plane" (105 : Nat) "CoreLeases$Cores" "strength" "[I") ∈ jall := jt 48 (by decide +kernel) rfl
theorem jw_49 : (Jvm.Cond.fieldLink "CoreLeases" (138 : Nat) "CoreLeases$Cores" "strength" "[I") ∈ jall := jt 49 (by decide +kernel) rfl
theorem jw_50 : (Jvm.Cond.fieldLink "CoreLeases$Cores" (19 : Nat) "CoreLeases$Cores" "tenantOf" "[I") ∈ jall := jt 50 (by decide +kernel) rfl
theorem jw_51 : (Jvm.Cond.fieldLink "CoreLeases" (112 : Nat) "CoreLeases$Cores" "tenantOf" "[I") ∈ jall := jt 51 (by decide +kernel) rfl
theorem jw_52 : (Jvm.Cond.fieldLink "CoreLeases$Plane" (102 : Nat) "CoreLeases$Cores" "tenantOf" "[I") ∈ jall := jt 52 (by decide +kernel) rfl
theorem jw_53 : (Jvm.Cond.fieldLink "CoreLeases$Cores" (22 : Nat) "CoreLeases$Cores" "leaseEnd" "[I") ∈ jall := jt 53 (by decide +kernel) rfl
theorem jw_54 : (Jvm.Cond.fieldLink "CoreLeases$Plane" (86 : Nat) "CoreLeases$Cores" "leaseEnd" "[I") ∈ jall := jt 54 (by decide +kernel) rfl
theorem jw_55 : (Jvm.Cond.fieldLink "CoreLeases$Cores" (25 : Nat) "CoreLeases$Cores" "insurerOf" "[I") ∈ jall := jt 55 (by decide +kernel) rfl
theorem jw_56 : (Jvm.Cond.fieldLink "CoreLeases$Plane" (117 : Nat) "CoreLeases$Cores" "insurerOf" "[I") ∈ jall := jt 56 (by decide +kernel) rfl
theorem jw_57 : (Jvm.Cond.fieldLink "CoreLeases" (201 : Nat) "CoreLeases$Cores" "insurerOf" "[I") ∈ jall := jt 57 (by decide +kernel) rfl
theorem jw_58 : (Jvm.Cond.fieldLink "CoreLeases$Cores" (28 : Nat) "CoreLeases$Cores" "policyEnd" "[I") ∈ jall := jt 58 (by decide +kernel) rfl
theorem jw_59 : (Jvm.Cond.fieldLink "CoreLeases$Plane" (92 : Nat) "CoreLeases$Cores" "policyEnd" "[I") ∈ jall := jt 59 (by decide +kernel) rfl
theorem jw_60 : (Jvm.Cond.fieldLink "CoreLeases$Cores" (31 : Nat) "CoreLeases$Cores" "lost" "[I") ∈ jall := jt 60 (by decide +kernel) rfl
theorem jw_61 : (Jvm.Cond.fieldLink "CoreLeases$Plane" (128 : Nat) "CoreLeases$Cores" "lost" "[I") ∈ jall := jt 61 (by decide +kernel) rfl
theorem jw_62 : (Jvm.Cond.fieldLink "CoreLeases" (213 : Nat) "CoreLeases$Cores" "lost" "[I") ∈ jall := jt 62 (by decide +kernel) rfl
theorem jw_63 : (Jvm.Cond.lays "CoreLeases$Cores" "CoreLeases$Cores" "ones" "J") ∈ jall := jt 63 (by decide +kernel) rfl
theorem jw_65 : (Jvm.Cond.laysFinal "CoreLeases$Cores" "CoreLeases$Cores" "strength" "[I") ∈ jall := jt 65 (by decide +kernel) rfl
theorem jw_67 : (Jvm.Cond.laysFinal "CoreLeases$Cores" "CoreLeases$Cores" "tenantOf" "[I") ∈ jall := jt 67 (by decide +kernel) rfl
theorem jw_69 : (Jvm.Cond.laysFinal "CoreLeases$Cores" "CoreLeases$Cores" "leaseEnd" "[I") ∈ jall := jt 69 (by decide +kernel) rfl
theorem jw_71 : (Jvm.Cond.laysFinal "CoreLeases$Cores" "CoreLeases$Cores" "insurerOf" "[I") ∈ jall := jt 71 (by decide +kernel) rfl
theorem jw_73 : (Jvm.Cond.laysFinal "CoreLeases$Cores" "CoreLeases$Cores" "policyEnd" "[I") ∈ jall := jt 73 (by decide +kernel) rfl
theorem jw_75 : (Jvm.Cond.laysFinal "CoreLeases$Cores" "CoreLeases$Cores" "lost" "[I") ∈ jall := jt 75 (by decide +kernel) rfl
theorem jw_78 : (Jvm.Cond.arrayClass Jvm.ClassFile.FieldType.int) ∈ jall := jt 78 (by decide +kernel) rfl
theorem jw_79 : (Jvm.Cond.classLink "CoreLeases$Plane" (35 : Nat) "CoreLeases$Debts") ∈ jall := jt 79 (by decide +kernel) rfl
theorem jw_80 : (Jvm.Cond.instantiable "CoreLeases$Debts" (3 : Nat)) ∈ jall := jt 80 (by decide +kernel) rfl
theorem jw_81 : (Jvm.Cond.methodLink "CoreLeases$Plane" (37 : Nat) ({ cls := "CoreLeases$Debts", name := "<init>", desc := "()V" } : Jvm.MethodName)) ∈ jall := jt 81 (by decide +kernel) rfl
theorem jw_82 : (Jvm.Cond.instanceMethod ({ cls := "CoreLeases$Debts", name := "<init>", desc := "()V" } : Jvm.MethodName)) ∈ jall := jt 82 (by decide +kernel) rfl
theorem jw_83 : (Jvm.Cond.code ({ cls := "CoreLeases$Debts", name := "<init>", desc := "()V" } : Jvm.MethodName) prog_3_method_1_code (1 : Nat) (Option.none : Option Jvm.ClassFile.FieldType)) ∈ jall := jt 83 (by decide +kernel) rfl
theorem jw_84 : (Jvm.Cond.methodLink "CoreLeases$Debts" (3 : Nat) ({ cls := "java/lang/Object", name := "<init>", desc := "()V" } : Jvm.MethodName)) ∈ jall := jt 84 (by decide +kernel) rfl
theorem jw_85 : (Jvm.Cond.methodLink "CoreLeases$Debts" (22 : Nat) ({ cls := "java/util/Arrays", name := "fill", desc := "([II)V" } : Jvm.MethodName)) ∈ jall := jt 85 (by decide +kernel) rfl
theorem jw_86 : (Jvm.Cond.fieldLink "CoreLeases$Debts" (9 : Nat) "CoreLeases$Debts" "size" "I") ∈ jall := jt 86 (by decide +kernel) rfl
theorem jw_87 : (Jvm.Cond.fieldLink "CoreLeases" (161 : Nat) "CoreLeases$Debts" "size" "I") ∈ jall := jt 87 (by decide +kernel) rfl
theorem jw_88 : (Jvm.Cond.fieldLink "CoreLeases$Debts" (15 : Nat) "CoreLeases$Debts" "order" "[I") ∈ jall := jt 88 (by decide +kernel) rfl
theorem jw_89 : (Jvm.Cond.fieldLink "CoreLeases" (250 : Nat) "CoreLeases$Debts" "order" "[I") ∈ jall := jt 89 (by decide +kernel) rfl
theorem jw_90 : (Jvm.Cond.fieldLink "CoreLeases$Debts" (19 : Nat) "CoreLeases$Debts" "due" "[I") ∈ jall := jt 90 (by decide +kernel) rfl
theorem jw_91 : (Jvm.Cond.fieldLink "CoreLeases" (210 : Nat) "CoreLeases$Debts" "due" "[I") ∈ jall := jt 91 (by decide +kernel) rfl
theorem jw_92 : (Jvm.Cond.lays "CoreLeases$Debts" "CoreLeases$Debts" "size" "I") ∈ jall := jt 92 (by decide +kernel) rfl
theorem jw_94 : (Jvm.Cond.laysFinal "CoreLeases$Debts" "CoreLeases$Debts" "order" "[I") ∈ jall := jt 94 (by decide +kernel) rfl
theorem jw_96 : (Jvm.Cond.laysFinal "CoreLeases$Debts" "CoreLeases$Debts" "due" "[I") ∈ jall := jt 96 (by decide +kernel) rfl
theorem jw_99 : (Jvm.Cond.classLink "CoreLeases$Plane" (42 : Nat) "CoreLeases$Tenants") ∈ jall := jt 99 (by decide +kernel) rfl
theorem jw_100 : (Jvm.Cond.instantiable "CoreLeases$Tenants" (4 : Nat)) ∈ jall := jt 100 (by decide +kernel) rfl
theorem jw_102 : (Jvm.Cond.instanceMethod ({ cls := "CoreLeases$Tenants", name := "<init>", desc := "()V" } : Jvm.MethodName)) ∈ jall := jt 102 (by decide +kernel) rfl
theorem jw_103 : (Jvm.Cond.code ({ cls := "CoreLeases$Tenants", name := "<init>", desc := "()V" } : Jvm.MethodName) prog_7_method_1_code (1 : Nat) (Option.none : Option Jvm.ClassFile.FieldType)) ∈ jall := jt 103 (by decide +kernel) rfl
theorem jw_104 : (Jvm.Cond.methodLink "CoreLeases$Tenants" (3 : Nat) ({ cls := "java/lang/Object", name := "<init>", desc := "()V" } : Jvm.MethodName)) ∈ jall := jt 104 (by decide +kernel) rfl
theorem jw_105 : (Jvm.Cond.fieldLink "CoreLeases$Tenants" (9 : Nat) "CoreLeases$Tenants" "size" "I") ∈ jall := jt 105 (by decide +kernel) rfl
theorem jw_106 : (Jvm.Cond.fieldLink "CoreLeases" (45 : Nat) "CoreLeases$Tenants" "size" "I") ∈ jall := jt 106 (by decide +kernel) rfl
theorem jw_107 : (Jvm.Cond.fieldLink "CoreLeases$Tenants" (15 : Nat) "CoreLeases$Tenants" "money" "[I") ∈ jall := jt 107 (by decide +kernel) rfl
theorem jw_108 : (Jvm.Cond.fieldLink "CoreLeases" (99 : Nat) "CoreLeases$Tenants" "money" "[I") ∈ jall := jt 108 (by decide +kernel) rfl
theorem jw_109 : (Jvm.Cond.fieldLink "CoreLeases$Plane" (99 : Nat) "CoreLeases$Tenants" "money" "[I") ∈ jall := jt 109 (by decide +kernel) rfl
theorem jw_110 : (Jvm.Cond.fieldLink "CoreLeases$Tenants" (19 : Nat) "CoreLeases$Tenants" "lost" "[I") ∈ jall := jt 110 (by decide +kernel) rfl
theorem jw_111 : (Jvm.Cond.fieldLink "CoreLeases$Plane" (134 : Nat) "CoreLeases$Tenants" "lost" "[I") ∈ jall := jt 111 (by decide +kernel) rfl
theorem jw_112 : (Jvm.Cond.fieldLink "CoreLeases" (222 : Nat) "CoreLeases$Tenants" "lost" "[I") ∈ jall := jt 112 (by decide +kernel) rfl
theorem jw_113 : (Jvm.Cond.fieldLink "CoreLeases$Tenants" (22 : Nat) "CoreLeases$Tenants" "paid" "[I") ∈ jall := jt 113 (by decide +kernel) rfl
theorem jw_114 : (Jvm.Cond.fieldLink "CoreLeases$Plane" (149 : Nat) "CoreLeases$Tenants" "paid" "[I") ∈ jall := jt 114 (by decide +kernel) rfl
theorem jw_115 : (Jvm.Cond.fieldLink "CoreLeases" (223 : Nat) "CoreLeases$Tenants" "paid" "[I") ∈ jall := jt 115 (by decide +kernel) rfl
theorem jw_116 : (Jvm.Cond.lays "CoreLeases$Tenants" "CoreLeases$Tenants" "size" "I") ∈ jall := jt 116 (by decide +kernel) rfl
theorem jw_118 : (Jvm.Cond.laysFinal "CoreLeases$Tenants" "CoreLeases$Tenants" "money" "[I") ∈ jall := jt 118 (by decide +kernel) rfl
theorem jw_120 : (Jvm.Cond.laysFinal "CoreLeases$Tenants" "CoreLeases$Tenants" "lost" "[I") ∈ jall := jt 120 (by decide +kernel) rfl
theorem jw_122 : (Jvm.Cond.laysFinal "CoreLeases$Tenants" "CoreLeases$Tenants" "paid" "[I") ∈ jall := jt 122 (by decide +kernel) rfl
theorem jw_125 : (Jvm.Cond.classLink "CoreLeases$Plane" (49 : Nat) "CoreLeases$Insurers") ∈ jall := jt 125 (by decide +kernel) rfl
theorem jw_126 : (Jvm.Cond.instantiable "CoreLeases$Insurers" (6 : Nat)) ∈ jall := jt 126 (by decide +kernel) rfl
theorem jw_128 : (Jvm.Cond.instanceMethod ({ cls := "CoreLeases$Insurers", name := "<init>", desc := "()V" } : Jvm.MethodName)) ∈ jall := jt 128 (by decide +kernel) rfl
theorem jw_129 : (Jvm.Cond.code ({ cls := "CoreLeases$Insurers", name := "<init>", desc := "()V" } : Jvm.MethodName) prog_4_method_1_code (1 : Nat) (Option.none : Option Jvm.ClassFile.FieldType)) ∈ jall := jt 129 (by decide +kernel) rfl
theorem jw_130 : (Jvm.Cond.methodLink "CoreLeases$Insurers" (3 : Nat) ({ cls := "java/lang/Object", name := "<init>", desc := "()V" } : Jvm.MethodName)) ∈ jall := jt 130 (by decide +kernel) rfl
theorem jw_131 : (Jvm.Cond.fieldLink "CoreLeases$Insurers" (9 : Nat) "CoreLeases$Insurers" "size" "I") ∈ jall := jt 131 (by decide +kernel) rfl
theorem jw_132 : (Jvm.Cond.fieldLink "CoreLeases" (66 : Nat) "CoreLeases$Insurers" "size" "I") ∈ jall := jt 132 (by decide +kernel) rfl
theorem jw_133 : (Jvm.Cond.fieldLink "CoreLeases$Insurers" (15 : Nat) "CoreLeases$Insurers" "fund" "[I") ∈ jall := jt 133 (by decide +kernel) rfl
theorem jw_134 : (Jvm.Cond.fieldLink "CoreLeases$Plane" (111 : Nat) "CoreLeases$Insurers" "fund" "[I") ∈ jall := jt 134 (by decide +kernel) rfl
theorem jw_135 : (Jvm.Cond.fieldLink "CoreLeases" (229 : Nat) "CoreLeases$Insurers" "fund" "[I") ∈ jall := jt 135 (by decide +kernel) rfl
theorem jw_136 : (Jvm.Cond.fieldLink "CoreLeases$Insurers" (19 : Nat) "CoreLeases$Insurers" "rate" "[I") ∈ jall := jt 136 (by decide +kernel) rfl
theorem jw_137 : (Jvm.Cond.fieldLink "CoreLeases$Plane" (108 : Nat) "CoreLeases$Insurers" "rate" "[I") ∈ jall := jt 137 (by decide +kernel) rfl
theorem jw_138 : (Jvm.Cond.fieldLink "CoreLeases" (232 : Nat) "CoreLeases$Insurers" "rate" "[I") ∈ jall := jt 138 (by decide +kernel) rfl
theorem jw_139 : (Jvm.Cond.fieldLink "CoreLeases$Insurers" (22 : Nat) "CoreLeases$Insurers" "cover" "[I") ∈ jall := jt 139 (by decide +kernel) rfl
theorem jw_140 : (Jvm.Cond.fieldLink "CoreLeases$Plane" (143 : Nat) "CoreLeases$Insurers" "cover" "[I") ∈ jall := jt 140 (by decide +kernel) rfl
theorem jw_141 : (Jvm.Cond.fieldLink "CoreLeases" (235 : Nat) "CoreLeases$Insurers" "cover" "[I") ∈ jall := jt 141 (by decide +kernel) rfl
theorem jw_142 : (Jvm.Cond.fieldLink "CoreLeases$Insurers" (25 : Nat) "CoreLeases$Insurers" "premiums" "[I") ∈ jall := jt 142 (by decide +kernel) rfl
theorem jw_143 : (Jvm.Cond.fieldLink "CoreLeases$Plane" (114 : Nat) "CoreLeases$Insurers" "premiums" "[I") ∈ jall := jt 143 (by decide +kernel) rfl
theorem jw_144 : (Jvm.Cond.fieldLink "CoreLeases" (247 : Nat) "CoreLeases$Insurers" "premiums" "[I") ∈ jall := jt 144 (by decide +kernel) rfl
theorem jw_145 : (Jvm.Cond.fieldLink "CoreLeases$Insurers" (28 : Nat) "CoreLeases$Insurers" "claimsPaid" "[I") ∈ jall := jt 145 (by decide +kernel) rfl
theorem jw_146 : (Jvm.Cond.fieldLink "CoreLeases$Plane" (146 : Nat) "CoreLeases$Insurers" "claimsPaid" "[I") ∈ jall := jt 146 (by decide +kernel) rfl
theorem jw_147 : (Jvm.Cond.fieldLink "CoreLeases" (241 : Nat) "CoreLeases$Insurers" "claimsPaid" "[I") ∈ jall := jt 147 (by decide +kernel) rfl
theorem jw_148 : (Jvm.Cond.lays "CoreLeases$Insurers" "CoreLeases$Insurers" "size" "I") ∈ jall := jt 148 (by decide +kernel) rfl
theorem jw_150 : (Jvm.Cond.laysFinal "CoreLeases$Insurers" "CoreLeases$Insurers" "fund" "[I") ∈ jall := jt 150 (by decide +kernel) rfl
theorem jw_152 : (Jvm.Cond.laysFinal "CoreLeases$Insurers" "CoreLeases$Insurers" "rate" "[I") ∈ jall := jt 152 (by decide +kernel) rfl
theorem jw_154 : (Jvm.Cond.laysFinal "CoreLeases$Insurers" "CoreLeases$Insurers" "cover" "[I") ∈ jall := jt 154 (by decide +kernel) rfl
theorem jw_156 : (Jvm.Cond.laysFinal "CoreLeases$Insurers" "CoreLeases$Insurers" "premiums" "[I") ∈ jall := jt 156 (by decide +kernel) rfl
theorem jw_158 : (Jvm.Cond.laysFinal "CoreLeases$Insurers" "CoreLeases$Insurers" "claimsPaid" "[I") ∈ jall := jt 158 (by decide +kernel) rfl
theorem jw_164 : (Jvm.Cond.static ({ cls := "CoreLeases", name := "copyRow", desc := "([I[I)V" } : Jvm.MethodName)) ∈ jall := jt 164 (by decide +kernel) rfl
theorem jw_165 : (Jvm.Cond.code ({ cls := "CoreLeases", name := "copyRow", desc := "([I[I)V" } : Jvm.MethodName) prog_1_method_52_code (2 : Nat) (Option.none : Option Jvm.ClassFile.FieldType)) ∈ jall := jt 165 (by decide +kernel) rfl
theorem jw_166 : (Jvm.Cond.methodLink "CoreLeases" (426 : Nat) ({ cls := "java/lang/Math", name := "min", desc := "(II)I" } : Jvm.MethodName)) ∈ jall := jt 166 (by decide +kernel) rfl
theorem jw_167 : (Jvm.Cond.static ({ cls := "java/lang/Math", name := "min", desc := "(II)I" } : Jvm.MethodName)) ∈ jall := jt 167 (by decide +kernel) rfl
theorem jw_168 : (Jvm.Cond.code ({ cls := "java/lang/Math", name := "min", desc := "(II)I" } : Jvm.MethodName) prog_17_method_69_code (2 : Nat) (Option.some Jvm.ClassFile.FieldType.int)) ∈ jall := jt 168 (by decide +kernel) rfl
theorem jw_169 : (Jvm.Cond.methodLink "CoreLeases" (429 : Nat) ({ cls := "java/lang/System", name := "arraycopy", desc := "(Ljava/lang/Object;ILjava/lang/Object;II)V" } : Jvm.MethodName)) ∈ jall := jt 169 (by decide +kernel) rfl
theorem jw_170 : (Jvm.Cond.static ({ cls := "java/lang/System", name := "arraycopy", desc := "(Ljava/lang/Object;ILjava/lang/Object;II)V" } : Jvm.MethodName)) ∈ jall := jt 170 (by decide +kernel) rfl
theorem jw_171 : (Jvm.Cond.native ({ cls := "java/lang/System", name := "arraycopy", desc := "(Ljava/lang/Object;ILjava/lang/Object;II)V" } : Jvm.MethodName)) ∈ jall := jt 171 (by decide +kernel) rfl
theorem jw_172 : (Jvm.Cond.fieldLink "CoreLeases$Plane" (9 : Nat) "CoreLeases$Plane" "time" "I") ∈ jall := jt 172 (by decide +kernel) rfl
theorem jw_173 : (Jvm.Cond.fieldLink "CoreLeases" (168 : Nat) "CoreLeases$Plane" "time" "I") ∈ jall := jt 173 (by decide +kernel) rfl
theorem jw_174 : (Jvm.Cond.fieldLink "CoreLeases$Plane" (15 : Nat) "CoreLeases$Plane" "heat" "I") ∈ jall := jt 174 (by decide +kernel) rfl
theorem jw_175 : (Jvm.Cond.fieldLink "CoreLeases" (124 : Nat) "CoreLeases$Plane" "heat" "I") ∈ jall := jt 175 (by decide +kernel) rfl
theorem jw_176 : (Jvm.Cond.fieldLink "CoreLeases$Plane" (18 : Nat) "CoreLeases$Plane" "house" "I") ∈ jall := jt 176 (by decide +kernel) rfl
theorem jw_177 : (Jvm.Cond.fieldLink "CoreLeases" (135 : Nat) "CoreLeases$Plane" "house" "I") ∈ jall := jt 177 (by decide +kernel) rfl
theorem jw_178 : (Jvm.Cond.fieldLink "CoreLeases$Plane" (21 : Nat) "CoreLeases$Plane" "settings" "[I") ∈ jall := jt 178 (by decide +kernel) rfl
theorem jw_179 : (Jvm.Cond.fieldLink "CoreLeases" (80 : Nat) "CoreLeases$Plane" "settings" "[I") ∈ jall := jt 179 (by decide +kernel) rfl
theorem jw_180 : (Jvm.Cond.fieldLink "CoreLeases$Plane" (25 : Nat) "CoreLeases$Plane" "tallies" "[I") ∈ jall := jt 180 (by decide +kernel) rfl
theorem jw_181 : (Jvm.Cond.fieldLink "CoreLeases" (275 : Nat) "CoreLeases$Plane" "tallies" "[I") ∈ jall := jt 181 (by decide +kernel) rfl
theorem jw_182 : (Jvm.Cond.fieldLink "CoreLeases$Plane" (31 : Nat) "CoreLeases$Plane" "cores" "LCoreLeases$Cores;") ∈ jall := jt 182 (by decide +kernel) rfl
theorem jw_183 : (Jvm.Cond.fieldLink "CoreLeases" (89 : Nat) "CoreLeases$Plane" "cores" "LCoreLeases$Cores;") ∈ jall := jt 183 (by decide +kernel) rfl
theorem jw_184 : (Jvm.Cond.fieldLink "CoreLeases$Plane" (38 : Nat) "CoreLeases$Plane" "debts" "LCoreLeases$Debts;") ∈ jall := jt 184 (by decide +kernel) rfl
theorem jw_185 : (Jvm.Cond.fieldLink "CoreLeases" (157 : Nat) "CoreLeases$Plane" "debts" "LCoreLeases$Debts;") ∈ jall := jt 185 (by decide +kernel) rfl
theorem jw_186 : (Jvm.Cond.fieldLink "CoreLeases$Plane" (45 : Nat) "CoreLeases$Plane" "tenants" "LCoreLeases$Tenants;") ∈ jall := jt 186 (by decide +kernel) rfl
theorem jw_187 : (Jvm.Cond.fieldLink "CoreLeases" (41 : Nat) "CoreLeases$Plane" "tenants" "LCoreLeases$Tenants;") ∈ jall := jt 187 (by decide +kernel) rfl
theorem jw_188 : (Jvm.Cond.fieldLink "CoreLeases$Plane" (52 : Nat) "CoreLeases$Plane" "insurers" "LCoreLeases$Insurers;") ∈ jall := jt 188 (by decide +kernel) rfl
theorem jw_189 : (Jvm.Cond.fieldLink "CoreLeases" (62 : Nat) "CoreLeases$Plane" "insurers" "LCoreLeases$Insurers;") ∈ jall := jt 189 (by decide +kernel) rfl
theorem jw_190 : (Jvm.Cond.fieldLink "CoreLeases$Plane" (56 : Nat) "CoreLeases$Plane" "claims" "[I") ∈ jall := jt 190 (by decide +kernel) rfl
theorem jw_191 : (Jvm.Cond.fieldLink "CoreLeases$Plane" (59 : Nat) "CoreLeases$Plane" "waiting" "I") ∈ jall := jt 191 (by decide +kernel) rfl
theorem jw_192 : (Jvm.Cond.lays "CoreLeases$Plane" "CoreLeases$Plane" "time" "I") ∈ jall := jt 192 (by decide +kernel) rfl
theorem jw_194 : (Jvm.Cond.lays "CoreLeases$Plane" "CoreLeases$Plane" "heat" "I") ∈ jall := jt 194 (by decide +kernel) rfl
theorem jw_196 : (Jvm.Cond.lays "CoreLeases$Plane" "CoreLeases$Plane" "house" "I") ∈ jall := jt 196 (by decide +kernel) rfl
theorem jw_198 : (Jvm.Cond.laysFinal "CoreLeases$Plane" "CoreLeases$Plane" "settings" "[I") ∈ jall := jt 198 (by decide +kernel) rfl
theorem jw_200 : (Jvm.Cond.laysFinal "CoreLeases$Plane" "CoreLeases$Plane" "tallies" "[I") ∈ jall := jt 200 (by decide +kernel) rfl
theorem jw_202 : (Jvm.Cond.laysFinal "CoreLeases$Plane" "CoreLeases$Plane" "cores" "LCoreLeases$Cores;") ∈ jall := jt 202 (by decide +kernel) rfl
theorem jw_204 : (Jvm.Cond.laysFinal "CoreLeases$Plane" "CoreLeases$Plane" "debts" "LCoreLeases$Debts;") ∈ jall := jt 204 (by decide +kernel) rfl
theorem jw_206 : (Jvm.Cond.laysFinal "CoreLeases$Plane" "CoreLeases$Plane" "tenants" "LCoreLeases$Tenants;") ∈ jall := jt 206 (by decide +kernel) rfl
theorem jw_208 : (Jvm.Cond.laysFinal "CoreLeases$Plane" "CoreLeases$Plane" "insurers" "LCoreLeases$Insurers;") ∈ jall := jt 208 (by decide +kernel) rfl
theorem jw_210 : (Jvm.Cond.laysFinal "CoreLeases$Plane" "CoreLeases$Plane" "claims" "[I") ∈ jall := jt 210 (by decide +kernel) rfl
theorem jw_212 : (Jvm.Cond.lays "CoreLeases$Plane" "CoreLeases$Plane" "waiting" "I") ∈ jall := jt 212 (by decide +kernel) rfl
theorem jw_215 : (Jvm.Cond.classLink "CoreLeases" (19 : Nat) "CoreLeases$Saves") ∈ jall := jt 215 (by decide +kernel) rfl
theorem jw_216 : (Jvm.Cond.instantiable "CoreLeases$Saves" (2 : Nat)) ∈ jall := jt 216 (by decide +kernel) rfl
theorem jw_217 : (Jvm.Cond.methodLink "CoreLeases" (21 : Nat) ({ cls := "CoreLeases$Saves", name := "<init>", desc := "()V" } : Jvm.MethodName)) ∈ jall := jt 217 (by decide +kernel) rfl
theorem jw_218 : (Jvm.Cond.instanceMethod ({ cls := "CoreLeases$Saves", name := "<init>", desc := "()V" } : Jvm.MethodName)) ∈ jall := jt 218 (by decide +kernel) rfl
theorem jw_219 : (Jvm.Cond.code ({ cls := "CoreLeases$Saves", name := "<init>", desc := "()V" } : Jvm.MethodName) prog_6_method_1_code (2 : Nat) (Option.none : Option Jvm.ClassFile.FieldType)) ∈ jall := jt 219 (by decide +kernel) rfl
theorem jw_220 : (Jvm.Cond.methodLink "CoreLeases$Saves" (3 : Nat) ({ cls := "java/lang/Object", name := "<init>", desc := "()V" } : Jvm.MethodName)) ∈ jall := jt 220 (by decide +kernel) rfl
theorem jw_221 : (Jvm.Cond.classLink "CoreLeases$Saves" (15 : Nat) "CoreLeases$Plane") ∈ jall := jt 221 (by decide +kernel) rfl
theorem jw_223 : (Jvm.Cond.methodLink "CoreLeases$Saves" (21 : Nat) ({ cls := "CoreLeases$Plane", name := "<init>", desc := "()V" } : Jvm.MethodName)) ∈ jall := jt 223 (by decide +kernel) rfl
theorem jw_224 : (Jvm.Cond.fieldLink "CoreLeases$Saves" (9 : Nat) "CoreLeases$Saves" "size" "I") ∈ jall := jt 224 (by decide +kernel) rfl
theorem jw_225 : (Jvm.Cond.fieldLink "CoreLeases" (197 : Nat) "CoreLeases$Saves" "size" "I") ∈ jall := jt 225 (by decide +kernel) rfl
theorem jw_226 : (Jvm.Cond.fieldLink "CoreLeases$Saves" (17 : Nat) "CoreLeases$Saves" "planes" "[LCoreLeases$Plane;") ∈ jall := jt 226 (by decide +kernel) rfl
theorem jw_227 : (Jvm.Cond.lays "CoreLeases$Saves" "CoreLeases$Saves" "size" "I") ∈ jall := jt 227 (by decide +kernel) rfl
theorem jw_229 : (Jvm.Cond.laysFinal "CoreLeases$Saves" "CoreLeases$Saves" "planes" "[LCoreLeases$Plane;") ∈ jall := jt 229 (by decide +kernel) rfl
theorem jw_232 : (Jvm.Cond.classLink "CoreLeases" (26 : Nat) "CoreLeases$Text") ∈ jall := jt 232 (by decide +kernel) rfl
theorem jw_233 : (Jvm.Cond.instantiable "CoreLeases$Text" (2 : Nat)) ∈ jall := jt 233 (by decide +kernel) rfl
theorem jw_235 : (Jvm.Cond.instanceMethod ({ cls := "CoreLeases$Text", name := "<init>", desc := "()V" } : Jvm.MethodName)) ∈ jall := jt 235 (by decide +kernel) rfl
theorem jw_236 : (Jvm.Cond.code ({ cls := "CoreLeases$Text", name := "<init>", desc := "()V" } : Jvm.MethodName) prog_8_method_1_code (1 : Nat) (Option.none : Option Jvm.ClassFile.FieldType)) ∈ jall := jt 236 (by decide +kernel) rfl
theorem jw_237 : (Jvm.Cond.methodLink "CoreLeases$Text" (3 : Nat) ({ cls := "java/lang/Object", name := "<init>", desc := "()V" } : Jvm.MethodName)) ∈ jall := jt 237 (by decide +kernel) rfl
theorem jw_238 : (Jvm.Cond.fieldLink "CoreLeases$Text" (9 : Nat) "CoreLeases$Text" "length" "I") ∈ jall := jt 238 (by decide +kernel) rfl
theorem jw_239 : (Jvm.Cond.fieldLink "CoreLeases" (174 : Nat) "CoreLeases$Text" "length" "I") ∈ jall := jt 239 (by decide +kernel) rfl
theorem jw_240 : (Jvm.Cond.fieldLink "CoreLeases$Text" (15 : Nat) "CoreLeases$Text" "codes" "[I") ∈ jall := jt 240 (by decide +kernel) rfl
theorem jw_241 : (Jvm.Cond.lays "CoreLeases$Text" "CoreLeases$Text" "length" "I") ∈ jall := jt 241 (by decide +kernel) rfl
theorem jw_243 : (Jvm.Cond.laysFinal "CoreLeases$Text" "CoreLeases$Text" "codes" "[I") ∈ jall := jt 243 (by decide +kernel) rfl
theorem jw_246 : (Jvm.Cond.fieldLink "CoreLeases" (10 : Nat) "CoreLeases" "now" "LCoreLeases$Plane;") ∈ jall := jt 246 (by decide +kernel) rfl
theorem jw_247 : (Jvm.Cond.fieldLink "CoreLeases" (16 : Nat) "CoreLeases" "trial" "LCoreLeases$Plane;") ∈ jall := jt 247 (by decide +kernel) rfl
theorem jw_248 : (Jvm.Cond.fieldLink "CoreLeases" (22 : Nat) "CoreLeases" "saves" "LCoreLeases$Saves;") ∈ jall := jt 248 (by decide +kernel) rfl
theorem jw_249 : (Jvm.Cond.fieldLink "CoreLeases" (29 : Nat) "CoreLeases" "text" "LCoreLeases$Text;") ∈ jall := jt 249 (by decide +kernel) rfl
theorem jw_250 : (Jvm.Cond.laysFinal "CoreLeases" "CoreLeases" "now" "LCoreLeases$Plane;") ∈ jall := jt 250 (by decide +kernel) rfl
theorem jw_252 : (Jvm.Cond.laysFinal "CoreLeases" "CoreLeases" "trial" "LCoreLeases$Plane;") ∈ jall := jt 252 (by decide +kernel) rfl
theorem jw_254 : (Jvm.Cond.laysFinal "CoreLeases" "CoreLeases" "saves" "LCoreLeases$Saves;") ∈ jall := jt 254 (by decide +kernel) rfl
theorem jw_256 : (Jvm.Cond.laysFinal "CoreLeases" "CoreLeases" "text" "LCoreLeases$Text;") ∈ jall := jt 256 (by decide +kernel) rfl
theorem jw_259 : (Jvm.Cond.methodLink "CoreLeasesLaw" (146 : Nat) ({ cls := "CoreLeases", name := "clearBuffer", desc := "()I" } : Jvm.MethodName)) ∈ jall := jt 259 (by decide +kernel) rfl
theorem jw_260 : (Jvm.Cond.instanceMethod ({ cls := "CoreLeases", name := "clearBuffer", desc := "()I" } : Jvm.MethodName)) ∈ jall := jt 260 (by decide +kernel) rfl
theorem jw_261 : (Jvm.Cond.selects "CoreLeases" ({ cls := "CoreLeases", name := "clearBuffer", desc := "()I" } : Jvm.MethodName) ({ cls := "CoreLeases", name := "clearBuffer", desc := "()I" } : Jvm.MethodName)) ∈ jall := jt 261 (by decide +kernel) rfl
theorem jw_262 : (Jvm.Cond.code ({ cls := "CoreLeases", name := "clearBuffer", desc := "()I" } : Jvm.MethodName) prog_1_method_13_code (2 : Nat) (Option.some Jvm.ClassFile.FieldType.int)) ∈ jall := jt 262 (by decide +kernel) rfl
theorem jw_263 : (Jvm.Cond.methodLink "CoreLeasesLaw" (150 : Nat) ({ cls := "CoreLeases", name := "firstError", desc := "()I" } : Jvm.MethodName)) ∈ jall := jt 263 (by decide +kernel) rfl
theorem jw_264 : (Jvm.Cond.instanceMethod ({ cls := "CoreLeases", name := "firstError", desc := "()I" } : Jvm.MethodName)) ∈ jall := jt 264 (by decide +kernel) rfl
theorem jw_265 : (Jvm.Cond.selects "CoreLeases" ({ cls := "CoreLeases", name := "firstError", desc := "()I" } : Jvm.MethodName) ({ cls := "CoreLeases", name := "firstError", desc := "()I" } : Jvm.MethodName)) ∈ jall := jt 265 (by decide +kernel) rfl
theorem jw_266 : (Jvm.Cond.code ({ cls := "CoreLeases", name := "firstError", desc := "()I" } : Jvm.MethodName) prog_1_method_14_code (1 : Nat) (Option.some Jvm.ClassFile.FieldType.int)) ∈ jall := jt 266 (by decide +kernel) rfl
theorem jw_267 : (Jvm.Cond.methodLink "CoreLeases" (180 : Nat) ({ cls := "CoreLeases$Text", name := "errorPlace", desc := "()I" } : Jvm.MethodName)) ∈ jall := jt 267 (by decide +kernel) rfl
theorem jw_268 : (Jvm.Cond.instanceMethod ({ cls := "CoreLeases$Text", name := "errorPlace", desc := "()I" } : Jvm.MethodName)) ∈ jall := jt 268 (by decide +kernel) rfl
theorem jw_269 : (Jvm.Cond.selects "CoreLeases$Text" ({ cls := "CoreLeases$Text", name := "errorPlace", desc := "()I" } : Jvm.MethodName) ({ cls := "CoreLeases$Text", name := "errorPlace", desc := "()I" } : Jvm.MethodName)) ∈ jall := jt 269 (by decide +kernel) rfl
theorem jw_270 : (Jvm.Cond.code ({ cls := "CoreLeases$Text", name := "errorPlace", desc := "()I" } : Jvm.MethodName) prog_8_method_7_code (3 : Nat) (Option.some Jvm.ClassFile.FieldType.int)) ∈ jall := jt 270 (by decide +kernel) rfl
theorem jw_271 : (Jvm.Cond.methodLink "CoreLeases$Text" (19 : Nat) ({ cls := "CoreLeases$Text", name := "codeAt", desc := "(I)I" } : Jvm.MethodName)) ∈ jall := jt 271 (by decide +kernel) rfl
theorem jw_272 : (Jvm.Cond.instanceMethod ({ cls := "CoreLeases$Text", name := "codeAt", desc := "(I)I" } : Jvm.MethodName)) ∈ jall := jt 272 (by decide +kernel) rfl
theorem jw_273 : (Jvm.Cond.selects "CoreLeases$Text" ({ cls := "CoreLeases$Text", name := "codeAt", desc := "(I)I" } : Jvm.MethodName) ({ cls := "CoreLeases$Text", name := "codeAt", desc := "(I)I" } : Jvm.MethodName)) ∈ jall := jt 273 (by decide +kernel) rfl
theorem jw_274 : (Jvm.Cond.code ({ cls := "CoreLeases$Text", name := "codeAt", desc := "(I)I" } : Jvm.MethodName) prog_8_method_3_code (2 : Nat) (Option.some Jvm.ClassFile.FieldType.int)) ∈ jall := jt 274 (by decide +kernel) rfl
theorem jw_275 : (Jvm.Cond.methodLink "CoreLeases$Text" (26 : Nat) ({ cls := "CoreLeases$Text", name := "wantedBehind", desc := "(II)I" } : Jvm.MethodName)) ∈ jall := jt 275 (by decide +kernel) rfl
theorem jw_276 : (Jvm.Cond.static ({ cls := "CoreLeases$Text", name := "wantedBehind", desc := "(II)I" } : Jvm.MethodName)) ∈ jall := jt 276 (by decide +kernel) rfl
theorem jw_277 : (Jvm.Cond.code ({ cls := "CoreLeases$Text", name := "wantedBehind", desc := "(II)I" } : Jvm.MethodName) prog_8_method_9_code (2 : Nat) (Option.some Jvm.ClassFile.FieldType.int)) ∈ jall := jt 277 (by decide +kernel) rfl
theorem jw_278 : (Jvm.Cond.methodLink "CoreLeases$Text" (30 : Nat) ({ cls := "CoreLeases$Text", name := "wantedInStep", desc := "(I)I" } : Jvm.MethodName)) ∈ jall := jt 278 (by decide +kernel) rfl
theorem jw_279 : (Jvm.Cond.static ({ cls := "CoreLeases$Text", name := "wantedInStep", desc := "(I)I" } : Jvm.MethodName)) ∈ jall := jt 279 (by decide +kernel) rfl
theorem jw_280 : (Jvm.Cond.code ({ cls := "CoreLeases$Text", name := "wantedInStep", desc := "(I)I" } : Jvm.MethodName) prog_8_method_10_code (1 : Nat) (Option.some Jvm.ClassFile.FieldType.int)) ∈ jall := jt 280 (by decide +kernel) rfl
theorem jw_282 : (Jvm.Cond.static ({ cls := "CoreLeases", name := "within", desc := "(III)Z" } : Jvm.MethodName)) ∈ jall := jt 282 (by decide +kernel) rfl
theorem jw_283 : (Jvm.Cond.code ({ cls := "CoreLeases", name := "within", desc := "(III)Z" } : Jvm.MethodName) prog_1_method_42_code (3 : Nat) (Option.some Jvm.ClassFile.FieldType.boolean)) ∈ jall := jt 283 (by decide +kernel) rfl
theorem jw_284 : (Jvm.Cond.methodLink "CoreLeasesLaw" (194 : Nat) ({ cls := "CoreLeases", name := "gentlest", desc := "()I" } : Jvm.MethodName)) ∈ jall := jt 284 (by decide +kernel) rfl
theorem jw_285 : (Jvm.Cond.instanceMethod ({ cls := "CoreLeases", name := "gentlest", desc := "()I" } : Jvm.MethodName)) ∈ jall := jt 285 (by decide +kernel) rfl
theorem jw_286 : (Jvm.Cond.selects "CoreLeases" ({ cls := "CoreLeases", name := "gentlest", desc := "()I" } : Jvm.MethodName) ({ cls := "CoreLeases", name := "gentlest", desc := "()I" } : Jvm.MethodName)) ∈ jall := jt 286 (by decide +kernel) rfl
theorem jw_287 : (Jvm.Cond.code ({ cls := "CoreLeases", name := "gentlest", desc := "()I" } : Jvm.MethodName) prog_1_method_28_code (9 : Nat) (Option.some Jvm.ClassFile.FieldType.int)) ∈ jall := jt 287 (by decide +kernel) rfl
theorem jw_288 : (Jvm.Cond.methodLink "CoreLeases" (284 : Nat) ({ cls := "CoreLeases$Plane", name := "fragile", desc := "()J" } : Jvm.MethodName)) ∈ jall := jt 288 (by decide +kernel) rfl
theorem jw_289 : (Jvm.Cond.instanceMethod ({ cls := "CoreLeases$Plane", name := "fragile", desc := "()J" } : Jvm.MethodName)) ∈ jall := jt 289 (by decide +kernel) rfl
theorem jw_290 : (Jvm.Cond.selects "CoreLeases$Plane" ({ cls := "CoreLeases$Plane", name := "fragile", desc := "()J" } : Jvm.MethodName) ({ cls := "CoreLeases$Plane", name := "fragile", desc := "()J" } : Jvm.MethodName)) ∈ jall := jt 290 (by decide +kernel) rfl
theorem jw_291 : (Jvm.Cond.code ({ cls := "CoreLeases$Plane", name := "fragile", desc := "()J" } : Jvm.MethodName) prog_5_method_16_code (1 : Nat) (Option.some Jvm.ClassFile.FieldType.long)) ∈ jall := jt 291 (by decide +kernel) rfl
theorem jw_292 : (Jvm.Cond.methodLink "CoreLeases$Plane" (155 : Nat) ({ cls := "CoreLeases$Cores", name := "onesBelow", desc := "(I)J" } : Jvm.MethodName)) ∈ jall := jt 292 (by decide +kernel) rfl
theorem jw_293 : (Jvm.Cond.instanceMethod ({ cls := "CoreLeases$Cores", name := "onesBelow", desc := "(I)J" } : Jvm.MethodName)) ∈ jall := jt 293 (by decide +kernel) rfl
theorem jw_294 : (Jvm.Cond.selects "CoreLeases$Cores" ({ cls := "CoreLeases$Cores", name := "onesBelow", desc := "(I)J" } : Jvm.MethodName) ({ cls := "CoreLeases$Cores", name := "onesBelow", desc := "(I)J" } : Jvm.MethodName)) ∈ jall := jt 294 (by decide +kernel) rfl
theorem jw_295 : (Jvm.Cond.code ({ cls := "CoreLeases$Cores", name := "onesBelow", desc := "(I)J" } : Jvm.MethodName) prog_2_method_18_code (5 : Nat) (Option.some Jvm.ClassFile.FieldType.long)) ∈ jall := jt 295 (by decide +kernel) rfl
theorem jw_296 : (Jvm.Cond.methodLink "CoreLeases$Cores" (48 : Nat) ({ cls := "CoreLeases$Cores", name := "isOne", desc := "(I)Z" } : Jvm.MethodName)) ∈ jall := jt 296 (by decide +kernel) rfl
theorem jw_297 : (Jvm.Cond.instanceMethod ({ cls := "CoreLeases$Cores", name := "isOne", desc := "(I)Z" } : Jvm.MethodName)) ∈ jall := jt 297 (by decide +kernel) rfl
theorem jw_298 : (Jvm.Cond.selects "CoreLeases$Cores" ({ cls := "CoreLeases$Cores", name := "isOne", desc := "(I)Z" } : Jvm.MethodName) ({ cls := "CoreLeases$Cores", name := "isOne", desc := "(I)Z" } : Jvm.MethodName)) ∈ jall := jt 298 (by decide +kernel) rfl
theorem jw_299 : (Jvm.Cond.code ({ cls := "CoreLeases$Cores", name := "isOne", desc := "(I)Z" } : Jvm.MethodName) prog_2_method_3_code (2 : Nat) (Option.some Jvm.ClassFile.FieldType.boolean)) ∈ jall := jt 299 (by decide +kernel) rfl
theorem jw_301 : (Jvm.Cond.static ({ cls := "CoreLeases", name := "maskOf", desc := "(I)J" } : Jvm.MethodName)) ∈ jall := jt 301 (by decide +kernel) rfl
theorem jw_302 : (Jvm.Cond.code ({ cls := "CoreLeases", name := "maskOf", desc := "(I)J" } : Jvm.MethodName) prog_1_method_50_code (1 : Nat) (Option.some Jvm.ClassFile.FieldType.long)) ∈ jall := jt 302 (by decide +kernel) rfl
theorem jw_303 : (Jvm.Cond.methodLink "CoreLeases" (301 : Nat) ({ cls := "CoreLeases$Cores", name := "isOne", desc := "(I)Z" } : Jvm.MethodName)) ∈ jall := jt 303 (by decide +kernel) rfl
theorem jw_304 : (Jvm.Cond.methodLink "CoreLeases" (151 : Nat) ({ cls := "CoreLeases$Plane", name := "canBeRead", desc := "(I)Z" } : Jvm.MethodName)) ∈ jall := jt 304 (by decide +kernel) rfl
theorem jw_305 : (Jvm.Cond.instanceMethod ({ cls := "CoreLeases$Plane", name := "canBeRead", desc := "(I)Z" } : Jvm.MethodName)) ∈ jall := jt 305 (by decide +kernel) rfl
theorem jw_306 : (Jvm.Cond.selects "CoreLeases$Plane" ({ cls := "CoreLeases$Plane", name := "canBeRead", desc := "(I)Z" } : Jvm.MethodName) ({ cls := "CoreLeases$Plane", name := "canBeRead", desc := "(I)Z" } : Jvm.MethodName)) ∈ jall := jt 306 (by decide +kernel) rfl
theorem jw_307 : (Jvm.Cond.code ({ cls := "CoreLeases$Plane", name := "canBeRead", desc := "(I)Z" } : Jvm.MethodName) prog_5_method_15_code (2 : Nat) (Option.some Jvm.ClassFile.FieldType.boolean)) ∈ jall := jt 307 (by decide +kernel) rfl
theorem jw_308 : (Jvm.Cond.methodLink "CoreLeases$Plane" (82 : Nat) ({ cls := "CoreLeases$Cores", name := "isLeased", desc := "(I)Z" } : Jvm.MethodName)) ∈ jall := jt 308 (by decide +kernel) rfl
theorem jw_309 : (Jvm.Cond.instanceMethod ({ cls := "CoreLeases$Cores", name := "isLeased", desc := "(I)Z" } : Jvm.MethodName)) ∈ jall := jt 309 (by decide +kernel) rfl
theorem jw_310 : (Jvm.Cond.selects "CoreLeases$Cores" ({ cls := "CoreLeases$Cores", name := "isLeased", desc := "(I)Z" } : Jvm.MethodName) ({ cls := "CoreLeases$Cores", name := "isLeased", desc := "(I)Z" } : Jvm.MethodName)) ∈ jall := jt 310 (by decide +kernel) rfl
theorem jw_311 : (Jvm.Cond.code ({ cls := "CoreLeases$Cores", name := "isLeased", desc := "(I)Z" } : Jvm.MethodName) prog_2_method_6_code (2 : Nat) (Option.some Jvm.ClassFile.FieldType.boolean)) ∈ jall := jt 311 (by decide +kernel) rfl
theorem jw_312 : (Jvm.Cond.methodLink "CoreLeases$Plane" (152 : Nat) ({ cls := "CoreLeases$Debts", name := "isOwed", desc := "(I)Z" } : Jvm.MethodName)) ∈ jall := jt 312 (by decide +kernel) rfl
theorem jw_313 : (Jvm.Cond.instanceMethod ({ cls := "CoreLeases$Debts", name := "isOwed", desc := "(I)Z" } : Jvm.MethodName)) ∈ jall := jt 313 (by decide +kernel) rfl
theorem jw_314 : (Jvm.Cond.selects "CoreLeases$Debts" ({ cls := "CoreLeases$Debts", name := "isOwed", desc := "(I)Z" } : Jvm.MethodName) ({ cls := "CoreLeases$Debts", name := "isOwed", desc := "(I)Z" } : Jvm.MethodName)) ∈ jall := jt 314 (by decide +kernel) rfl
theorem jw_315 : (Jvm.Cond.code ({ cls := "CoreLeases$Debts", name := "isOwed", desc := "(I)Z" } : Jvm.MethodName) prog_3_method_3_code (2 : Nat) (Option.some Jvm.ClassFile.FieldType.boolean)) ∈ jall := jt 315 (by decide +kernel) rfl
theorem jw_316 : (Jvm.Cond.methodLink "CoreLeases" (288 : Nat) ({ cls := "CoreLeases", name := "linesOf", desc := "(I)J" } : Jvm.MethodName)) ∈ jall := jt 316 (by decide +kernel) rfl
theorem jw_317 : (Jvm.Cond.static ({ cls := "CoreLeases", name := "linesOf", desc := "(I)J" } : Jvm.MethodName)) ∈ jall := jt 317 (by decide +kernel) rfl
theorem jw_318 : (Jvm.Cond.code ({ cls := "CoreLeases", name := "linesOf", desc := "(I)J" } : Jvm.MethodName) prog_1_method_51_code (5 : Nat) (Option.some Jvm.ClassFile.FieldType.long)) ∈ jall := jt 318 (by decide +kernel) rfl
theorem jw_319 : (Jvm.Cond.constantLong "CoreLeases" (417 : Nat) (255 : Int64)) ∈ jall := jt 319 (by decide +kernel) rfl
theorem jw_320 : (Jvm.Cond.constantLong "CoreLeases" (419 : Nat) (72340172838076673 : Int64)) ∈ jall := jt 320 (by decide +kernel) rfl
theorem jw_321 : (Jvm.Cond.methodLink "CoreLeases" (421 : Nat) ({ cls := "CoreLeases", name := "maskOf", desc := "(I)J" } : Jvm.MethodName)) ∈ jall := jt 321 (by decide +kernel) rfl
theorem jw_322 : (Jvm.Cond.constantLong "CoreLeases" (424 : Nat) (-1 : Int64)) ∈ jall := jt 322 (by decide +kernel) rfl
theorem jw_323 : (Jvm.Cond.methodLink "CoreLeases" (269 : Nat) ({ cls := "java/lang/Long", name := "bitCount", desc := "(J)I" } : Jvm.MethodName)) ∈ jall := jt 323 (by decide +kernel) rfl
theorem jw_324 : (Jvm.Cond.static ({ cls := "java/lang/Long", name := "bitCount", desc := "(J)I" } : Jvm.MethodName)) ∈ jall := jt 324 (by decide +kernel) rfl
theorem jw_325 : (Jvm.Cond.code ({ cls := "java/lang/Long", name := "bitCount", desc := "(J)I" } : Jvm.MethodName) prog_16_method_50_code (2 : Nat) (Option.some Jvm.ClassFile.FieldType.int)) ∈ jall := jt 325 (by decide +kernel) rfl
theorem jw_326 : (Jvm.Cond.constantLong "java/lang/Long" (314 : Nat) (6148914691236517205 : Int64)) ∈ jall := jt 326 (by decide +kernel) rfl
theorem jw_327 : (Jvm.Cond.constantLong "java/lang/Long" (316 : Nat) (3689348814741910323 : Int64)) ∈ jall := jt 327 (by decide +kernel) rfl
theorem jw_328 : (Jvm.Cond.constantLong "java/lang/Long" (318 : Nat) (1085102592571150095 : Int64)) ∈ jall := jt 328 (by decide +kernel) rfl
theorem jw_329 : (Jvm.Cond.methodLink "CoreLeasesLaw" (204 : Nat) ({ cls := "CoreLeases", name := "backShare", desc := "()D" } : Jvm.MethodName)) ∈ jall := jt 329 (by decide +kernel) rfl
theorem jw_330 : (Jvm.Cond.instanceMethod ({ cls := "CoreLeases", name := "backShare", desc := "()D" } : Jvm.MethodName)) ∈ jall := jt 330 (by decide +kernel) rfl
theorem jw_331 : (Jvm.Cond.selects "CoreLeases" ({ cls := "CoreLeases", name := "backShare", desc := "()D" } : Jvm.MethodName) ({ cls := "CoreLeases", name := "backShare", desc := "()D" } : Jvm.MethodName)) ∈ jall := jt 331 (by decide +kernel) rfl
theorem jw_332 : (Jvm.Cond.code ({ cls := "CoreLeases", name := "backShare", desc := "()D" } : Jvm.MethodName) prog_1_method_31_code (2 : Nat) (Option.some Jvm.ClassFile.FieldType.double)) ∈ jall := jt 332 (by decide +kernel) rfl
theorem jw_333 : (Jvm.Cond.methodLink "CoreLeasesLaw" (209 : Nat) ({ cls := "CoreLeases", name := "digest", desc := "()J" } : Jvm.MethodName)) ∈ jall := jt 333 (by decide +kernel) rfl
theorem jw_334 : (Jvm.Cond.instanceMethod ({ cls := "CoreLeases", name := "digest", desc := "()J" } : Jvm.MethodName)) ∈ jall := jt 334 (by decide +kernel) rfl
theorem jw_335 : (Jvm.Cond.selects "CoreLeases" ({ cls := "CoreLeases", name := "digest", desc := "()J" } : Jvm.MethodName) ({ cls := "CoreLeases", name := "digest", desc := "()J" } : Jvm.MethodName)) ∈ jall := jt 335 (by decide +kernel) rfl
theorem jw_336 : (Jvm.Cond.code ({ cls := "CoreLeases", name := "digest", desc := "()J" } : Jvm.MethodName) prog_1_method_32_code (5 : Nat) (Option.some Jvm.ClassFile.FieldType.long)) ∈ jall := jt 336 (by decide +kernel) rfl
theorem jw_337 : (Jvm.Cond.constantLong "CoreLeases" (313 : Nat) (2351 : Int64)) ∈ jall := jt 337 (by decide +kernel) rfl
theorem jw_338 : (Jvm.Cond.methodLink "CoreLeases" (315 : Nat) ({ cls := "CoreLeases", name := "count", desc := "(I)I" } : Jvm.MethodName)) ∈ jall := jt 338 (by decide +kernel) rfl
theorem jw_339 : (Jvm.Cond.instanceMethod ({ cls := "CoreLeases", name := "count", desc := "(I)I" } : Jvm.MethodName)) ∈ jall := jt 339 (by decide +kernel) rfl
theorem jw_340 : (Jvm.Cond.selects "CoreLeases" ({ cls := "CoreLeases", name := "count", desc := "(I)I" } : Jvm.MethodName) ({ cls := "CoreLeases", name := "count", desc := "(I)I" } : Jvm.MethodName)) ∈ jall := jt 340 (by decide +kernel) rfl
theorem jw_341 : (Jvm.Cond.code ({ cls := "CoreLeases", name := "count", desc := "(I)I" } : Jvm.MethodName) prog_1_method_22_code (2 : Nat) (Option.some Jvm.ClassFile.FieldType.int)) ∈ jall := jt 341 (by decide +kernel) rfl
theorem jw_342 : (Jvm.Cond.methodLink "CoreLeases" (33 : Nat) ({ cls := "CoreLeases", name := "within", desc := "(III)Z" } : Jvm.MethodName)) ∈ jall := jt 342 (by decide +kernel) rfl
theorem jw_343 : (Jvm.Cond.methodLink "CoreLeases" (37 : Nat) ({ cls := "CoreLeases", name := "requireArgument", desc := "(Z)V" } : Jvm.MethodName)) ∈ jall := jt 343 (by decide +kernel) rfl
theorem jw_344 : (Jvm.Cond.static ({ cls := "CoreLeases", name := "requireArgument", desc := "(Z)V" } : Jvm.MethodName)) ∈ jall := jt 344 (by decide +kernel) rfl
theorem jw_345 : (Jvm.Cond.code ({ cls := "CoreLeases", name := "requireArgument", desc := "(Z)V" } : Jvm.MethodName) prog_1_method_48_code (1 : Nat) (Option.none : Option Jvm.ClassFile.FieldType)) ∈ jall := jt 345 (by decide +kernel) rfl
theorem jw_346 : (Jvm.Cond.classLink "CoreLeases" (407 : Nat) "java/lang/IllegalArgumentException") ∈ jall := jt 346 (by decide +kernel) rfl
theorem jw_347 : (Jvm.Cond.instantiable "java/lang/IllegalArgumentException" (6 : Nat)) ∈ jall := jt 347 (by decide +kernel) rfl
theorem jw_357 : (Jvm.Cond.lays "java/lang/IllegalArgumentException" "java/lang/Throwable" "cause" "Ljava/lang/Throwable;") ∈ jall := jt 357 (by decide +kernel) rfl
theorem jw_358 : (Jvm.Cond.lays "java/lang/Throwable" "java/lang/Throwable" "cause" "Ljava/lang/Throwable;") ∈ jall := jt 358 (by decide +kernel) rfl
theorem jw_359 : (Jvm.Cond.lays "java/lang/IllegalArgumentException" "java/lang/Throwable" "stackTrace" "[Ljava/lang/StackTraceElement;") ∈ jall := jt 359 (by decide +kernel) rfl
theorem jw_360 : (Jvm.Cond.lays "java/lang/Throwable" "java/lang/Throwable" "stackTrace" "[Ljava/lang/StackTraceElement;") ∈ jall := jt 360 (by decide +kernel) rfl
theorem jw_361 : (Jvm.Cond.lays "java/lang/IllegalArgumentException" "java/lang/Throwable" "suppressedExceptions" "Ljava/util/List;") ∈ jall := jt 361 (by decide +kernel) rfl
theorem jw_362 : (Jvm.Cond.lays "java/lang/Throwable" "java/lang/Throwable" "suppressedExceptions" "Ljava/util/List;") ∈ jall := jt 362 (by decide +kernel) rfl
theorem jw_363 : (Jvm.Cond.lays "java/lang/IllegalArgumentException" "java/lang/Throwable" "detailMessage" "Ljava/lang/String;") ∈ jall := jt 363 (by decide +kernel) rfl
theorem jw_364 : (Jvm.Cond.lays "java/lang/Throwable" "java/lang/Throwable" "detailMessage" "Ljava/lang/String;") ∈ jall := jt 364 (by decide +kernel) rfl
theorem jw_365 : (Jvm.Cond.lays "java/lang/IllegalArgumentException" "java/lang/Throwable" "backtrace" "Ljava/lang/Object;") ∈ jall := jt 365 (by decide +kernel) rfl
theorem jw_366 : (Jvm.Cond.lays "java/lang/Throwable" "java/lang/Throwable" "backtrace" "Ljava/lang/Object;") ∈ jall := jt 366 (by decide +kernel) rfl
theorem jw_385 : (Jvm.Cond.instantiable "java/lang/Throwable" (6 : Nat)) ∈ jall := jt 385 (by decide +kernel) rfl
theorem jw_386 : (Jvm.Cond.native ({ cls := "java/lang/Throwable", name := "fillInStackTrace", desc := "(I)Ljava/lang/Throwable;" } : Jvm.MethodName)) ∈ jall := jt 386 (by decide +kernel) rfl
theorem jw_388 : (Jvm.Cond.methodLink "CoreLeases" (411 : Nat) ({ cls := "java/lang/IllegalArgumentException", name := "<init>", desc := "(Ljava/lang/String;)V" } : Jvm.MethodName)) ∈ jall := jt 388 (by decide +kernel) rfl
theorem jw_409 : (Jvm.Cond.lays "java/lang/IllegalArgumentException" "java/lang/Throwable" "depth" "I") ∈ jall := jt 409 (by decide +kernel) rfl
theorem jw_413 : (Jvm.Cond.arrayClass Jvm.ClassFile.FieldType.byte) ∈ jall := jt 413 (by decide +kernel) rfl
theorem jw_414 : (Jvm.Cond.methodLink "CoreLeases" (259 : Nat) ({ cls := "CoreLeases$Cores", name := "leasedInAll", desc := "()I" } : Jvm.MethodName)) ∈ jall := jt 414 (by decide +kernel) rfl
theorem jw_415 : (Jvm.Cond.instanceMethod ({ cls := "CoreLeases$Cores", name := "leasedInAll", desc := "()I" } : Jvm.MethodName)) ∈ jall := jt 415 (by decide +kernel) rfl
theorem jw_416 : (Jvm.Cond.selects "CoreLeases$Cores" ({ cls := "CoreLeases$Cores", name := "leasedInAll", desc := "()I" } : Jvm.MethodName) ({ cls := "CoreLeases$Cores", name := "leasedInAll", desc := "()I" } : Jvm.MethodName)) ∈ jall := jt 416 (by decide +kernel) rfl
theorem jw_417 : (Jvm.Cond.code ({ cls := "CoreLeases$Cores", name := "leasedInAll", desc := "()I" } : Jvm.MethodName) prog_2_method_15_code (1 : Nat) (Option.some Jvm.ClassFile.FieldType.int)) ∈ jall := jt 417 (by decide +kernel) rfl
theorem jw_418 : (Jvm.Cond.methodLink "CoreLeases$Cores" (77 : Nat) ({ cls := "CoreLeases$Cores", name := "leasedTo", desc := "(I)I" } : Jvm.MethodName)) ∈ jall := jt 418 (by decide +kernel) rfl
theorem jw_419 : (Jvm.Cond.instanceMethod ({ cls := "CoreLeases$Cores", name := "leasedTo", desc := "(I)I" } : Jvm.MethodName)) ∈ jall := jt 419 (by decide +kernel) rfl
theorem jw_420 : (Jvm.Cond.selects "CoreLeases$Cores" ({ cls := "CoreLeases$Cores", name := "leasedTo", desc := "(I)I" } : Jvm.MethodName) ({ cls := "CoreLeases$Cores", name := "leasedTo", desc := "(I)I" } : Jvm.MethodName)) ∈ jall := jt 420 (by decide +kernel) rfl
theorem jw_421 : (Jvm.Cond.code ({ cls := "CoreLeases$Cores", name := "leasedTo", desc := "(I)I" } : Jvm.MethodName) prog_2_method_13_code (2 : Nat) (Option.some Jvm.ClassFile.FieldType.int)) ∈ jall := jt 421 (by decide +kernel) rfl
theorem jw_422 : (Jvm.Cond.methodLink "CoreLeases$Cores" (64 : Nat) ({ cls := "CoreLeases$Cores", name := "leasesOf", desc := "(I)J" } : Jvm.MethodName)) ∈ jall := jt 422 (by decide +kernel) rfl
theorem jw_423 : (Jvm.Cond.instanceMethod ({ cls := "CoreLeases$Cores", name := "leasesOf", desc := "(I)J" } : Jvm.MethodName)) ∈ jall := jt 423 (by decide +kernel) rfl
theorem jw_424 : (Jvm.Cond.selects "CoreLeases$Cores" ({ cls := "CoreLeases$Cores", name := "leasesOf", desc := "(I)J" } : Jvm.MethodName) ({ cls := "CoreLeases$Cores", name := "leasesOf", desc := "(I)J" } : Jvm.MethodName)) ∈ jall := jt 424 (by decide +kernel) rfl
theorem jw_425 : (Jvm.Cond.code ({ cls := "CoreLeases$Cores", name := "leasesOf", desc := "(I)J" } : Jvm.MethodName) prog_2_method_11_code (5 : Nat) (Option.some Jvm.ClassFile.FieldType.long)) ∈ jall := jt 425 (by decide +kernel) rfl
theorem jw_426 : (Jvm.Cond.methodLink "CoreLeases$Cores" (67 : Nat) ({ cls := "java/lang/Long", name := "bitCount", desc := "(J)I" } : Jvm.MethodName)) ∈ jall := jt 426 (by decide +kernel) rfl
theorem jw_427 : (Jvm.Cond.methodLink "CoreLeases" (262 : Nat) ({ cls := "CoreLeases$Cores", name := "insuredInAll", desc := "()I" } : Jvm.MethodName)) ∈ jall := jt 427 (by decide +kernel) rfl
theorem jw_428 : (Jvm.Cond.instanceMethod ({ cls := "CoreLeases$Cores", name := "insuredInAll", desc := "()I" } : Jvm.MethodName)) ∈ jall := jt 428 (by decide +kernel) rfl
theorem jw_429 : (Jvm.Cond.selects "CoreLeases$Cores" ({ cls := "CoreLeases$Cores", name := "insuredInAll", desc := "()I" } : Jvm.MethodName) ({ cls := "CoreLeases$Cores", name := "insuredInAll", desc := "()I" } : Jvm.MethodName)) ∈ jall := jt 429 (by decide +kernel) rfl
theorem jw_430 : (Jvm.Cond.code ({ cls := "CoreLeases$Cores", name := "insuredInAll", desc := "()I" } : Jvm.MethodName) prog_2_method_16_code (1 : Nat) (Option.some Jvm.ClassFile.FieldType.int)) ∈ jall := jt 430 (by decide +kernel) rfl
theorem jw_431 : (Jvm.Cond.methodLink "CoreLeases$Cores" (73 : Nat) ({ cls := "CoreLeases$Cores", name := "insured", desc := "()J" } : Jvm.MethodName)) ∈ jall := jt 431 (by decide +kernel) rfl
theorem jw_432 : (Jvm.Cond.instanceMethod ({ cls := "CoreLeases$Cores", name := "insured", desc := "()J" } : Jvm.MethodName)) ∈ jall := jt 432 (by decide +kernel) rfl
theorem jw_433 : (Jvm.Cond.selects "CoreLeases$Cores" ({ cls := "CoreLeases$Cores", name := "insured", desc := "()J" } : Jvm.MethodName) ({ cls := "CoreLeases$Cores", name := "insured", desc := "()J" } : Jvm.MethodName)) ∈ jall := jt 433 (by decide +kernel) rfl
theorem jw_434 : (Jvm.Cond.code ({ cls := "CoreLeases$Cores", name := "insured", desc := "()J" } : Jvm.MethodName) prog_2_method_12_code (4 : Nat) (Option.some Jvm.ClassFile.FieldType.long)) ∈ jall := jt 434 (by decide +kernel) rfl
theorem jw_435 : (Jvm.Cond.methodLink "CoreLeases$Cores" (61 : Nat) ({ cls := "CoreLeases$Cores", name := "hasPolicy", desc := "(I)Z" } : Jvm.MethodName)) ∈ jall := jt 435 (by decide +kernel) rfl
theorem jw_436 : (Jvm.Cond.instanceMethod ({ cls := "CoreLeases$Cores", name := "hasPolicy", desc := "(I)Z" } : Jvm.MethodName)) ∈ jall := jt 436 (by decide +kernel) rfl
theorem jw_437 : (Jvm.Cond.selects "CoreLeases$Cores" ({ cls := "CoreLeases$Cores", name := "hasPolicy", desc := "(I)Z" } : Jvm.MethodName) ({ cls := "CoreLeases$Cores", name := "hasPolicy", desc := "(I)Z" } : Jvm.MethodName)) ∈ jall := jt 437 (by decide +kernel) rfl
theorem jw_438 : (Jvm.Cond.code ({ cls := "CoreLeases$Cores", name := "hasPolicy", desc := "(I)Z" } : Jvm.MethodName) prog_2_method_8_code (2 : Nat) (Option.some Jvm.ClassFile.FieldType.boolean)) ∈ jall := jt 438 (by decide +kernel) rfl
theorem jw_439 : (Jvm.Cond.methodLink "CoreLeases" (318 : Nat) ({ cls := "CoreLeases", name := "mixed", desc := "(JJ)J" } : Jvm.MethodName)) ∈ jall := jt 439 (by decide +kernel) rfl
theorem jw_440 : (Jvm.Cond.static ({ cls := "CoreLeases", name := "mixed", desc := "(JJ)J" } : Jvm.MethodName)) ∈ jall := jt 440 (by decide +kernel) rfl
theorem jw_441 : (Jvm.Cond.code ({ cls := "CoreLeases", name := "mixed", desc := "(JJ)J" } : Jvm.MethodName) prog_1_method_33_code (4 : Nat) (Option.some Jvm.ClassFile.FieldType.long)) ∈ jall := jt 441 (by decide +kernel) rfl
theorem jw_442 : (Jvm.Cond.constantLong "CoreLeases" (355 : Nat) (31 : Int64)) ∈ jall := jt 442 (by decide +kernel) rfl
theorem jw_443 : (Jvm.Cond.methodLink "CoreLeases" (322 : Nat) ({ cls := "CoreLeases", name := "setting", desc := "(I)I" } : Jvm.MethodName)) ∈ jall := jt 443 (by decide +kernel) rfl
theorem jw_444 : (Jvm.Cond.instanceMethod ({ cls := "CoreLeases", name := "setting", desc := "(I)I" } : Jvm.MethodName)) ∈ jall := jt 444 (by decide +kernel) rfl
theorem jw_445 : (Jvm.Cond.selects "CoreLeases" ({ cls := "CoreLeases", name := "setting", desc := "(I)I" } : Jvm.MethodName) ({ cls := "CoreLeases", name := "setting", desc := "(I)I" } : Jvm.MethodName)) ∈ jall := jt 445 (by decide +kernel) rfl
theorem jw_446 : (Jvm.Cond.code ({ cls := "CoreLeases", name := "setting", desc := "(I)I" } : Jvm.MethodName) prog_1_method_23_code (2 : Nat) (Option.some Jvm.ClassFile.FieldType.int)) ∈ jall := jt 446 (by decide +kernel) rfl
theorem jw_447 : (Jvm.Cond.methodLink "CoreLeases" (72 : Nat) ({ cls := "CoreLeases", name := "requireSetting", desc := "(I)V" } : Jvm.MethodName)) ∈ jall := jt 447 (by decide +kernel) rfl
theorem jw_448 : (Jvm.Cond.static ({ cls := "CoreLeases", name := "requireSetting", desc := "(I)V" } : Jvm.MethodName)) ∈ jall := jt 448 (by decide +kernel) rfl
theorem jw_449 : (Jvm.Cond.code ({ cls := "CoreLeases", name := "requireSetting", desc := "(I)V" } : Jvm.MethodName) prog_1_method_47_code (1 : Nat) (Option.none : Option Jvm.ClassFile.FieldType)) ∈ jall := jt 449 (by decide +kernel) rfl
theorem jw_450 : (Jvm.Cond.classLink "CoreLeases" (393 : Nat) "java/lang/IndexOutOfBoundsException") ∈ jall := jt 450 (by decide +kernel) rfl
theorem jw_451 : (Jvm.Cond.instantiable "java/lang/IndexOutOfBoundsException" (6 : Nat)) ∈ jall := jt 451 (by decide +kernel) rfl
theorem jw_454 : (Jvm.Cond.lays "java/lang/IndexOutOfBoundsException" "java/lang/Throwable" "cause" "Ljava/lang/Throwable;") ∈ jall := jt 454 (by decide +kernel) rfl
theorem jw_455 : (Jvm.Cond.lays "java/lang/IndexOutOfBoundsException" "java/lang/Throwable" "stackTrace" "[Ljava/lang/StackTraceElement;") ∈ jall := jt 455 (by decide +kernel) rfl
theorem jw_456 : (Jvm.Cond.lays "java/lang/IndexOutOfBoundsException" "java/lang/Throwable" "suppressedExceptions" "Ljava/util/List;") ∈ jall := jt 456 (by decide +kernel) rfl
theorem jw_457 : (Jvm.Cond.lays "java/lang/IndexOutOfBoundsException" "java/lang/Throwable" "detailMessage" "Ljava/lang/String;") ∈ jall := jt 457 (by decide +kernel) rfl
theorem jw_458 : (Jvm.Cond.lays "java/lang/IndexOutOfBoundsException" "java/lang/Throwable" "backtrace" "Ljava/lang/Object;") ∈ jall := jt 458 (by decide +kernel) rfl
theorem jw_460 : (Jvm.Cond.methodLink "CoreLeases" (397 : Nat) ({ cls := "java/lang/IndexOutOfBoundsException", name := "<init>", desc := "(Ljava/lang/String;)V" } : Jvm.MethodName)) ∈ jall := jt 460 (by decide +kernel) rfl
theorem jw_464 : (Jvm.Cond.lays "java/lang/IndexOutOfBoundsException" "java/lang/Throwable" "depth" "I") ∈ jall := jt 464 (by decide +kernel) rfl
theorem jw_466 : (Jvm.Cond.methodLink "CoreLeases" (325 : Nat) ({ cls := "CoreLeases", name := "withCores", desc := "(J)J" } : Jvm.MethodName)) ∈ jall := jt 466 (by decide +kernel) rfl
theorem jw_468 : (Jvm.Cond.instanceMethod ({ cls := "CoreLeases", name := "withCores", desc := "(J)J" } : Jvm.MethodName)) ∈ jall := jt 468 (by decide +kernel) rfl
theorem jw_469 : (Jvm.Cond.code ({ cls := "CoreLeases", name := "withCores", desc := "(J)J" } : Jvm.MethodName) prog_1_method_34_code (9 : Nat) (Option.some Jvm.ClassFile.FieldType.long)) ∈ jall := jt 469 (by decide +kernel) rfl
theorem jw_470 : (Jvm.Cond.methodLink "CoreLeases" (357 : Nat) ({ cls := "CoreLeases", name := "core", desc := "(II)I" } : Jvm.MethodName)) ∈ jall := jt 470 (by decide +kernel) rfl
theorem jw_471 : (Jvm.Cond.instanceMethod ({ cls := "CoreLeases", name := "core", desc := "(II)I" } : Jvm.MethodName)) ∈ jall := jt 471 (by decide +kernel) rfl
theorem jw_472 : (Jvm.Cond.selects "CoreLeases" ({ cls := "CoreLeases", name := "core", desc := "(II)I" } : Jvm.MethodName) ({ cls := "CoreLeases", name := "core", desc := "(II)I" } : Jvm.MethodName)) ∈ jall := jt 472 (by decide +kernel) rfl
theorem jw_473 : (Jvm.Cond.code ({ cls := "CoreLeases", name := "core", desc := "(II)I" } : Jvm.MethodName) prog_1_method_17_code (3 : Nat) (Option.some Jvm.ClassFile.FieldType.int)) ∈ jall := jt 473 (by decide +kernel) rfl
theorem jw_474 : (Jvm.Cond.methodLink "CoreLeases" (83 : Nat) ({ cls := "CoreLeases", name := "requireCore", desc := "(I)V" } : Jvm.MethodName)) ∈ jall := jt 474 (by decide +kernel) rfl
theorem jw_475 : (Jvm.Cond.static ({ cls := "CoreLeases", name := "requireCore", desc := "(I)V" } : Jvm.MethodName)) ∈ jall := jt 475 (by decide +kernel) rfl
theorem jw_476 : (Jvm.Cond.code ({ cls := "CoreLeases", name := "requireCore", desc := "(I)V" } : Jvm.MethodName) prog_1_method_44_code (1 : Nat) (Option.none : Option Jvm.ClassFile.FieldType)) ∈ jall := jt 476 (by decide +kernel) rfl
theorem jw_477 : (Jvm.Cond.methodLink "CoreLeases" (390 : Nat) ({ cls := "CoreLeases", name := "isCore", desc := "(I)Z" } : Jvm.MethodName)) ∈ jall := jt 477 (by decide +kernel) rfl
theorem jw_478 : (Jvm.Cond.static ({ cls := "CoreLeases", name := "isCore", desc := "(I)Z" } : Jvm.MethodName)) ∈ jall := jt 478 (by decide +kernel) rfl
theorem jw_479 : (Jvm.Cond.code ({ cls := "CoreLeases", name := "isCore", desc := "(I)Z" } : Jvm.MethodName) prog_1_method_43_code (1 : Nat) (Option.some Jvm.ClassFile.FieldType.boolean)) ∈ jall := jt 479 (by decide +kernel) rfl
theorem jw_481 : (Jvm.Cond.methodLink "CoreLeases" (148 : Nat) ({ cls := "CoreLeases$Cores", name := "bitOf", desc := "(I)I" } : Jvm.MethodName)) ∈ jall := jt 481 (by decide +kernel) rfl
theorem jw_482 : (Jvm.Cond.instanceMethod ({ cls := "CoreLeases$Cores", name := "bitOf", desc := "(I)I" } : Jvm.MethodName)) ∈ jall := jt 482 (by decide +kernel) rfl
theorem jw_483 : (Jvm.Cond.selects "CoreLeases$Cores" ({ cls := "CoreLeases$Cores", name := "bitOf", desc := "(I)I" } : Jvm.MethodName) ({ cls := "CoreLeases$Cores", name := "bitOf", desc := "(I)I" } : Jvm.MethodName)) ∈ jall := jt 483 (by decide +kernel) rfl
theorem jw_484 : (Jvm.Cond.code ({ cls := "CoreLeases$Cores", name := "bitOf", desc := "(I)I" } : Jvm.MethodName) prog_2_method_4_code (2 : Nat) (Option.some Jvm.ClassFile.FieldType.int)) ∈ jall := jt 484 (by decide +kernel) rfl
theorem jw_485 : (Jvm.Cond.methodLink "CoreLeases" (121 : Nat) ({ cls := "CoreLeases$Plane", name := "leaseLeft", desc := "(I)I" } : Jvm.MethodName)) ∈ jall := jt 485 (by decide +kernel) rfl
theorem jw_486 : (Jvm.Cond.instanceMethod ({ cls := "CoreLeases$Plane", name := "leaseLeft", desc := "(I)I" } : Jvm.MethodName)) ∈ jall := jt 486 (by decide +kernel) rfl
theorem jw_487 : (Jvm.Cond.selects "CoreLeases$Plane" ({ cls := "CoreLeases$Plane", name := "leaseLeft", desc := "(I)I" } : Jvm.MethodName) ({ cls := "CoreLeases$Plane", name := "leaseLeft", desc := "(I)I" } : Jvm.MethodName)) ∈ jall := jt 487 (by decide +kernel) rfl
theorem jw_488 : (Jvm.Cond.code ({ cls := "CoreLeases$Plane", name := "leaseLeft", desc := "(I)I" } : Jvm.MethodName) prog_5_method_4_code (2 : Nat) (Option.some Jvm.ClassFile.FieldType.int)) ∈ jall := jt 488 (by decide +kernel) rfl
theorem jw_489 : (Jvm.Cond.methodLink "CoreLeases" (204 : Nat) ({ cls := "CoreLeases$Plane", name := "policyLeft", desc := "(I)I" } : Jvm.MethodName)) ∈ jall := jt 489 (by decide +kernel) rfl
theorem jw_490 : (Jvm.Cond.instanceMethod ({ cls := "CoreLeases$Plane", name := "policyLeft", desc := "(I)I" } : Jvm.MethodName)) ∈ jall := jt 490 (by decide +kernel) rfl
theorem jw_491 : (Jvm.Cond.selects "CoreLeases$Plane" ({ cls := "CoreLeases$Plane", name := "policyLeft", desc := "(I)I" } : Jvm.MethodName) ({ cls := "CoreLeases$Plane", name := "policyLeft", desc := "(I)I" } : Jvm.MethodName)) ∈ jall := jt 491 (by decide +kernel) rfl
theorem jw_492 : (Jvm.Cond.code ({ cls := "CoreLeases$Plane", name := "policyLeft", desc := "(I)I" } : Jvm.MethodName) prog_5_method_5_code (2 : Nat) (Option.some Jvm.ClassFile.FieldType.int)) ∈ jall := jt 492 (by decide +kernel) rfl
theorem jw_493 : (Jvm.Cond.methodLink "CoreLeases$Plane" (89 : Nat) ({ cls := "CoreLeases$Cores", name := "hasPolicy", desc := "(I)Z" } : Jvm.MethodName)) ∈ jall := jt 493 (by decide +kernel) rfl
theorem jw_494 : (Jvm.Cond.methodLink "CoreLeases" (207 : Nat) ({ cls := "CoreLeases$Debts", name := "isOwed", desc := "(I)Z" } : Jvm.MethodName)) ∈ jall := jt 494 (by decide +kernel) rfl
theorem jw_495 : (Jvm.Cond.methodLink "CoreLeases" (329 : Nat) ({ cls := "CoreLeases", name := "withTenants", desc := "(J)J" } : Jvm.MethodName)) ∈ jall := jt 495 (by decide +kernel) rfl
theorem jw_497 : (Jvm.Cond.instanceMethod ({ cls := "CoreLeases", name := "withTenants", desc := "(J)J" } : Jvm.MethodName)) ∈ jall := jt 497 (by decide +kernel) rfl
theorem jw_498 : (Jvm.Cond.code ({ cls := "CoreLeases", name := "withTenants", desc := "(J)J" } : Jvm.MethodName) prog_1_method_35_code (7 : Nat) (Option.some Jvm.ClassFile.FieldType.long)) ∈ jall := jt 498 (by decide +kernel) rfl
theorem jw_499 : (Jvm.Cond.methodLink "CoreLeases" (360 : Nat) ({ cls := "CoreLeases", name := "tenant", desc := "(II)I" } : Jvm.MethodName)) ∈ jall := jt 499 (by decide +kernel) rfl
theorem jw_500 : (Jvm.Cond.instanceMethod ({ cls := "CoreLeases", name := "tenant", desc := "(II)I" } : Jvm.MethodName)) ∈ jall := jt 500 (by decide +kernel) rfl
theorem jw_501 : (Jvm.Cond.selects "CoreLeases" ({ cls := "CoreLeases", name := "tenant", desc := "(II)I" } : Jvm.MethodName) ({ cls := "CoreLeases", name := "tenant", desc := "(II)I" } : Jvm.MethodName)) ∈ jall := jt 501 (by decide +kernel) rfl
theorem jw_502 : (Jvm.Cond.code ({ cls := "CoreLeases", name := "tenant", desc := "(II)I" } : Jvm.MethodName) prog_1_method_18_code (3 : Nat) (Option.some Jvm.ClassFile.FieldType.int)) ∈ jall := jt 502 (by decide +kernel) rfl
theorem jw_503 : (Jvm.Cond.methodLink "CoreLeases" (86 : Nat) ({ cls := "CoreLeases", name := "requireTenant", desc := "(I)V" } : Jvm.MethodName)) ∈ jall := jt 503 (by decide +kernel) rfl
theorem jw_505 : (Jvm.Cond.instanceMethod ({ cls := "CoreLeases", name := "requireTenant", desc := "(I)V" } : Jvm.MethodName)) ∈ jall := jt 505 (by decide +kernel) rfl
theorem jw_506 : (Jvm.Cond.code ({ cls := "CoreLeases", name := "requireTenant", desc := "(I)V" } : Jvm.MethodName) prog_1_method_45_code (2 : Nat) (Option.none : Option Jvm.ClassFile.FieldType)) ∈ jall := jt 506 (by decide +kernel) rfl
theorem jw_507 : (Jvm.Cond.methodLink "CoreLeases" (115 : Nat) ({ cls := "CoreLeases$Tenants", name := "has", desc := "(I)Z" } : Jvm.MethodName)) ∈ jall := jt 507 (by decide +kernel) rfl
theorem jw_508 : (Jvm.Cond.instanceMethod ({ cls := "CoreLeases$Tenants", name := "has", desc := "(I)Z" } : Jvm.MethodName)) ∈ jall := jt 508 (by decide +kernel) rfl
theorem jw_509 : (Jvm.Cond.selects "CoreLeases$Tenants" ({ cls := "CoreLeases$Tenants", name := "has", desc := "(I)Z" } : Jvm.MethodName) ({ cls := "CoreLeases$Tenants", name := "has", desc := "(I)Z" } : Jvm.MethodName)) ∈ jall := jt 509 (by decide +kernel) rfl
theorem jw_510 : (Jvm.Cond.code ({ cls := "CoreLeases$Tenants", name := "has", desc := "(I)Z" } : Jvm.MethodName) prog_7_method_3_code (2 : Nat) (Option.some Jvm.ClassFile.FieldType.boolean)) ∈ jall := jt 510 (by decide +kernel) rfl
theorem jw_512 : (Jvm.Cond.methodLink "CoreLeases" (216 : Nat) ({ cls := "CoreLeases$Cores", name := "leasedTo", desc := "(I)I" } : Jvm.MethodName)) ∈ jall := jt 512 (by decide +kernel) rfl
theorem jw_513 : (Jvm.Cond.methodLink "CoreLeases" (219 : Nat) ({ cls := "CoreLeases$Cores", name := "insuredOf", desc := "(I)I" } : Jvm.MethodName)) ∈ jall := jt 513 (by decide +kernel) rfl
theorem jw_514 : (Jvm.Cond.instanceMethod ({ cls := "CoreLeases$Cores", name := "insuredOf", desc := "(I)I" } : Jvm.MethodName)) ∈ jall := jt 514 (by decide +kernel) rfl
theorem jw_515 : (Jvm.Cond.selects "CoreLeases$Cores" ({ cls := "CoreLeases$Cores", name := "insuredOf", desc := "(I)I" } : Jvm.MethodName) ({ cls := "CoreLeases$Cores", name := "insuredOf", desc := "(I)I" } : Jvm.MethodName)) ∈ jall := jt 515 (by decide +kernel) rfl
theorem jw_516 : (Jvm.Cond.code ({ cls := "CoreLeases$Cores", name := "insuredOf", desc := "(I)I" } : Jvm.MethodName) prog_2_method_14_code (2 : Nat) (Option.some Jvm.ClassFile.FieldType.int)) ∈ jall := jt 516 (by decide +kernel) rfl
theorem jw_517 : (Jvm.Cond.methodLink "CoreLeases" (226 : Nat) ({ cls := "CoreLeases$Plane", name := "waitingOf", desc := "(I)I" } : Jvm.MethodName)) ∈ jall := jt 517 (by decide +kernel) rfl
theorem jw_518 : (Jvm.Cond.instanceMethod ({ cls := "CoreLeases$Plane", name := "waitingOf", desc := "(I)I" } : Jvm.MethodName)) ∈ jall := jt 518 (by decide +kernel) rfl
theorem jw_519 : (Jvm.Cond.selects "CoreLeases$Plane" ({ cls := "CoreLeases$Plane", name := "waitingOf", desc := "(I)I" } : Jvm.MethodName) ({ cls := "CoreLeases$Plane", name := "waitingOf", desc := "(I)I" } : Jvm.MethodName)) ∈ jall := jt 519 (by decide +kernel) rfl
theorem jw_520 : (Jvm.Cond.code ({ cls := "CoreLeases$Plane", name := "waitingOf", desc := "(I)I" } : Jvm.MethodName) prog_5_method_13_code (4 : Nat) (Option.some Jvm.ClassFile.FieldType.int)) ∈ jall := jt 520 (by decide +kernel) rfl
theorem jw_521 : (Jvm.Cond.methodLink "CoreLeases" (363 : Nat) ({ cls := "CoreLeases", name := "atRisk", desc := "(I)I" } : Jvm.MethodName)) ∈ jall := jt 521 (by decide +kernel) rfl
