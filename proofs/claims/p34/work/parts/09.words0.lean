/-! words that all methods have, by their places -/
theorem jt (i : Nat) {w : Cond} (h : tables_1[i]? = some w) (hg : goodWord w = true) : w ∈ jall := List.mem_filter.mpr ⟨List.mem_append_right _ (List.mem_of_getElem? h), hg⟩
theorem jtp (i : Nat) {w : Cond} (h : (k2_sels lw_privs)[i]? = some w) (hg : goodWord w = true) : w ∈ jall := List.mem_filter.mpr ⟨List.mem_append_left _ (List.mem_of_getElem? h), hg⟩
theorem jw_0 : (Jvm.Cond.initialized "CoreLeasesLaw") ∈ jall := jt 0 (by decide +kernel) rfl
theorem jw_1 : (Jvm.Cond.initialized "CoreLeases") ∈ jall := jt 1 (by decide +kernel) rfl
theorem jw_2 : (Jvm.Cond.initialized "CoreLeases$Plane") ∈ jall := jt 2 (by decide +kernel) rfl
theorem jw_3 : (Jvm.Cond.initialized "CoreLeases$Cores") ∈ jall := jt 3 (by decide +kernel) rfl
theorem jw_4 : (Jvm.Cond.initialized "java/util/Arrays") ∈ jall := jt 4 (by decide +kernel) rfl
theorem jw_5 : (Jvm.Cond.initialized "CoreLeases$Debts") ∈ jall := jt 5 (by decide +kernel) rfl
theorem jw_6 : (Jvm.Cond.initialized "CoreLeases$Tenants") ∈ jall := jt 6 (by decide +kernel) rfl
theorem jw_7 : (Jvm.Cond.initialized "CoreLeases$Insurers") ∈ jall := jt 7 (by decide +kernel) rfl
theorem jw_8 : (Jvm.Cond.initialized "java/lang/Math") ∈ jall := jt 8 (by decide +kernel) rfl
theorem jw_9 : (Jvm.Cond.initialized "java/lang/System") ∈ jall := jt 9 (by decide +kernel) rfl
theorem jw_10 : (Jvm.Cond.initialized "CoreLeases$Saves") ∈ jall := jt 10 (by decide +kernel) rfl
theorem jw_11 : (Jvm.Cond.initialized "CoreLeases$Text") ∈ jall := jt 11 (by decide +kernel) rfl
theorem jw_17 : (Jvm.Cond.initialized "java/lang/Long") ∈ jall := jt 17 (by decide +kernel) rfl
theorem jw_19 : (Jvm.Cond.classLink "CoreLeasesLaw" (35 : Nat) "CoreLeases") ∈ jall := jt 19 (by decide +kernel) rfl
theorem jw_20 : (Jvm.Cond.instantiable "CoreLeases" (4 : Nat)) ∈ jall := jt 20 (by decide +kernel) rfl
theorem jw_21 : (Jvm.Cond.methodLink "CoreLeasesLaw" (161 : Nat) ({ cls := "CoreLeases", name := "<init>", desc := "()V" } : Jvm.MethodName)) ∈ jall := jt 21 (by decide +kernel) rfl
theorem jw_22 : (Jvm.Cond.instanceMethod ({ cls := "CoreLeases", name := "<init>", desc := "()V" } : Jvm.MethodName)) ∈ jall := jt 22 (by decide +kernel) rfl
theorem jw_23 : (Jvm.Cond.code ({ cls := "CoreLeases", name := "<init>", desc := "()V" } : Jvm.MethodName) prog_1_method_1_code (1 : Nat) (Option.none : Option Jvm.ClassFile.FieldType)) ∈ jall := jt 23 (by decide +kernel) rfl
theorem jw_24 : (Jvm.Cond.methodLink "CoreLeases" (1 : Nat) ({ cls := "java/lang/Object", name := "<init>", desc := "()V" } : Jvm.MethodName)) ∈ jall := jt 24 (by decide +kernel) rfl
theorem jw_25 : (Jvm.Cond.instanceMethod ({ cls := "java/lang/Object", name := "<init>", desc := "()V" } : Jvm.MethodName)) ∈ jall := jt 25 (by decide +kernel) rfl
theorem jw_26 : (Jvm.Cond.code ({ cls := "java/lang/Object", name := "<init>", desc := "()V" } : Jvm.MethodName) object_method_1_code (1 : Nat) (Option.none : Option Jvm.ClassFile.FieldType)) ∈ jall := jt 26 (by decide +kernel) rfl
theorem jw_27 : (Jvm.Cond.classLink "CoreLeases" (7 : Nat) "CoreLeases$Plane") ∈ jall := jt 27 (by decide +kernel) rfl
theorem jw_28 : (Jvm.Cond.instantiable "CoreLeases$Plane" (11 : Nat)) ∈ jall := jt 28 (by decide +kernel) rfl
theorem jw_29 : (Jvm.Cond.methodLink "CoreLeases" (9 : Nat) ({ cls := "CoreLeases$Plane", name := "<init>", desc := "()V" } : Jvm.MethodName)) ∈ jall := jt 29 (by decide +kernel) rfl
theorem jw_30 : (Jvm.Cond.instanceMethod ({ cls := "CoreLeases$Plane", name := "<init>", desc := "()V" } : Jvm.MethodName)) ∈ jall := jt 30 (by decide +kernel) rfl
theorem jw_31 : (Jvm.Cond.code ({ cls := "CoreLeases$Plane", name := "<init>", desc := "()V" } : Jvm.MethodName) prog_5_method_1_code (1 : Nat) (Option.none : Option Jvm.ClassFile.FieldType)) ∈ jall := jt 31 (by decide +kernel) rfl
theorem jw_32 : (Jvm.Cond.methodLink "CoreLeases$Plane" (3 : Nat) ({ cls := "java/lang/Object", name := "<init>", desc := "()V" } : Jvm.MethodName)) ∈ jall := jt 32 (by decide +kernel) rfl
theorem jw_33 : (Jvm.Cond.classLink "CoreLeases$Plane" (28 : Nat) "CoreLeases$Cores") ∈ jall := jt 33 (by decide +kernel) rfl
theorem jw_34 : (Jvm.Cond.instantiable "CoreLeases$Cores" (7 : Nat)) ∈ jall := jt 34 (by decide +kernel) rfl
theorem jw_35 : (Jvm.Cond.methodLink "CoreLeases$Plane" (30 : Nat) ({ cls := "CoreLeases$Cores", name := "<init>", desc := "()V" } : Jvm.MethodName)) ∈ jall := jt 35 (by decide +kernel) rfl
theorem jw_36 : (Jvm.Cond.instanceMethod ({ cls := "CoreLeases$Cores", name := "<init>", desc := "()V" } : Jvm.MethodName)) ∈ jall := jt 36 (by decide +kernel) rfl
theorem jw_37 : (Jvm.Cond.code ({ cls := "CoreLeases$Cores", name := "<init>", desc := "()V" } : Jvm.MethodName) prog_2_method_1_code (1 : Nat) (Option.none : Option Jvm.ClassFile.FieldType)) ∈ jall := jt 37 (by decide +kernel) rfl
theorem jw_38 : (Jvm.Cond.methodLink "CoreLeases$Cores" (3 : Nat) ({ cls := "java/lang/Object", name := "<init>", desc := "()V" } : Jvm.MethodName)) ∈ jall := jt 38 (by decide +kernel) rfl
theorem jw_39 : (Jvm.Cond.methodLink "CoreLeases$Cores" (34 : Nat) ({ cls := "java/util/Arrays", name := "fill", desc := "([II)V" } : Jvm.MethodName)) ∈ jall := jt 39 (by decide +kernel) rfl
theorem jw_40 : (Jvm.Cond.static ({ cls := "java/util/Arrays", name := "fill", desc := "([II)V" } : Jvm.MethodName)) ∈ jall := jt 40 (by decide +kernel) rfl
theorem jw_41 : (Jvm.Cond.code ({ cls := "java/util/Arrays", name := "fill", desc := "([II)V" } : Jvm.MethodName) prog_21_method_103_code (4 : Nat) (Option.none : Option Jvm.ClassFile.FieldType)) ∈ jall := jt 41 (by decide +kernel) rfl
theorem jw_42 : (Jvm.Cond.fieldLink "CoreLeases$Cores" (9 : Nat) "CoreLeases$Cores" "ones" "J") ∈ jall := jt 42 (by decide +kernel) rfl
theorem jw_43 : (Jvm.Cond.fieldLink "CoreLeases" (265 : Nat) "CoreLeases$Cores" "ones" "J") ∈ jall := jt 43 (by decide +kernel) rfl
theorem jw_44 : (Jvm.Cond.fieldLink "CoreLeases$Cores" (15 : Nat) "CoreLeases$Cores" "strength" "[I") ∈ jall := jt 44 (by decide +kernel) rfl
theorem jw_45 : (Jvm.Cond.fieldLink "CoreLeases$Plane" (105 : Nat) "CoreLeases$Cores" "strength" "[I") ∈ jall := jt 45 (by decide +kernel) rfl
theorem jw_46 : (Jvm.Cond.fieldLink "CoreLeases" (138 : Nat) "CoreLeases$Cores" "strength" "[I") ∈ jall := jt 46 (by decide +kernel) rfl
theorem jw_47 : (Jvm.Cond.fieldLink "CoreLeases$Cores" (19 : Nat) "CoreLeases$Cores" "tenantOf" "[I") ∈ jall := jt 47 (by decide +kernel) rfl
theorem jw_48 : (Jvm.Cond.fieldLink "CoreLeases" (112 : Nat) "CoreLeases$Cores" "tenantOf" "[I") ∈ jall := jt 48 (by decide +kernel) rfl
theorem jw_49 : (Jvm.Cond.fieldLink "CoreLeases$Plane" (102 : Nat) "CoreLeases$Cores" "tenantOf" "[I") ∈ jall := jt 49 (by decide +kernel) rfl
theorem jw_50 : (Jvm.Cond.fieldLink "CoreLeases$Cores" (22 : Nat) "CoreLeases$Cores" "leaseEnd" "[I") ∈ jall := jt 50 (by decide +kernel) rfl
theorem jw_51 : (Jvm.Cond.fieldLink "CoreLeases$Plane" (86 : Nat) "CoreLeases$Cores" "leaseEnd" "[I") ∈ jall := jt 51 (by decide +kernel) rfl
theorem jw_52 : (Jvm.Cond.fieldLink "CoreLeases$Cores" (25 : Nat) "CoreLeases$Cores" "insurerOf" "[I") ∈ jall := jt 52 (by decide +kernel) rfl
theorem jw_53 : (Jvm.Cond.fieldLink "CoreLeases$Plane" (117 : Nat) "CoreLeases$Cores" "insurerOf" "[I") ∈ jall := jt 53 (by decide +kernel) rfl
theorem jw_54 : (Jvm.Cond.fieldLink "CoreLeases" (201 : Nat) "CoreLeases$Cores" "insurerOf" "[I") ∈ jall := jt 54 (by decide +kernel) rfl
theorem jw_55 : (Jvm.Cond.fieldLink "CoreLeases$Cores" (28 : Nat) "CoreLeases$Cores" "policyEnd" "[I") ∈ jall := jt 55 (by decide +kernel) rfl
theorem jw_56 : (Jvm.Cond.fieldLink "CoreLeases$Plane" (92 : Nat) "CoreLeases$Cores" "policyEnd" "[I") ∈ jall := jt 56 (by decide +kernel) rfl
theorem jw_57 : (Jvm.Cond.fieldLink "CoreLeases$Cores" (31 : Nat) "CoreLeases$Cores" "lost" "[I") ∈ jall := jt 57 (by decide +kernel) rfl
theorem jw_58 : (Jvm.Cond.fieldLink "CoreLeases$Plane" (128 : Nat) "CoreLeases$Cores" "lost" "[I") ∈ jall := jt 58 (by decide +kernel) rfl
theorem jw_59 : (Jvm.Cond.fieldLink "CoreLeases" (213 : Nat) "CoreLeases$Cores" "lost" "[I") ∈ jall := jt 59 (by decide +kernel) rfl
theorem jw_60 : (Jvm.Cond.lays "CoreLeases$Cores" "CoreLeases$Cores" "ones" "J") ∈ jall := jt 60 (by decide +kernel) rfl
theorem jw_62 : (Jvm.Cond.laysFinal "CoreLeases$Cores" "CoreLeases$Cores" "strength" "[I") ∈ jall := jt 62 (by decide +kernel) rfl
theorem jw_64 : (Jvm.Cond.laysFinal "CoreLeases$Cores" "CoreLeases$Cores" "tenantOf" "[I") ∈ jall := jt 64 (by decide +kernel) rfl
theorem jw_66 : (Jvm.Cond.laysFinal "CoreLeases$Cores" "CoreLeases$Cores" "leaseEnd" "[I") ∈ jall := jt 66 (by decide +kernel) rfl
theorem jw_68 : (Jvm.Cond.laysFinal "CoreLeases$Cores" "CoreLeases$Cores" "insurerOf" "[I") ∈ jall := jt 68 (by decide +kernel) rfl
theorem jw_70 : (Jvm.Cond.laysFinal "CoreLeases$Cores" "CoreLeases$Cores" "policyEnd" "[I") ∈ jall := jt 70 (by decide +kernel) rfl
theorem jw_72 : (Jvm.Cond.laysFinal "CoreLeases$Cores" "CoreLeases$Cores" "lost" "[I") ∈ jall := jt 72 (by decide +kernel) rfl
theorem jw_75 : (Jvm.Cond.arrayClass Jvm.ClassFile.FieldType.int) ∈ jall := jt 75 (by decide +kernel) rfl
theorem jw_76 : (Jvm.Cond.classLink "CoreLeases$Plane" (35 : Nat) "CoreLeases$Debts") ∈ jall := jt 76 (by decide +kernel) rfl
theorem jw_77 : (Jvm.Cond.instantiable "CoreLeases$Debts" (3 : Nat)) ∈ jall := jt 77 (by decide +kernel) rfl
theorem jw_78 : (Jvm.Cond.methodLink "CoreLeases$Plane" (37 : Nat) ({ cls := "CoreLeases$Debts", name := "<init>", desc := "()V" } : Jvm.MethodName)) ∈ jall := jt 78 (by decide +kernel) rfl
theorem jw_79 : (Jvm.Cond.instanceMethod ({ cls := "CoreLeases$Debts", name := "<init>", desc := "()V" } : Jvm.MethodName)) ∈ jall := jt 79 (by decide +kernel) rfl
theorem jw_80 : (Jvm.Cond.code ({ cls := "CoreLeases$Debts", name := "<init>", desc := "()V" } : Jvm.MethodName) prog_3_method_1_code (1 : Nat) (Option.none : Option Jvm.ClassFile.FieldType)) ∈ jall := jt 80 (by decide +kernel) rfl
theorem jw_81 : (Jvm.Cond.methodLink "CoreLeases$Debts" (3 : Nat) ({ cls := "java/lang/Object", name := "<init>", desc := "()V" } : Jvm.MethodName)) ∈ jall := jt 81 (by decide +kernel) rfl
theorem jw_82 : (Jvm.Cond.methodLink "CoreLeases$Debts" (22 : Nat) ({ cls := "java/util/Arrays", name := "fill", desc := "([II)V" } : Jvm.MethodName)) ∈ jall := jt 82 (by decide +kernel) rfl
theorem jw_83 : (Jvm.Cond.fieldLink "CoreLeases$Debts" (9 : Nat) "CoreLeases$Debts" "size" "I") ∈ jall := jt 83 (by decide +kernel) rfl
theorem jw_84 : (Jvm.Cond.fieldLink "CoreLeases" (161 : Nat) "CoreLeases$Debts" "size" "I") ∈ jall := jt 84 (by decide +kernel) rfl
theorem jw_85 : (Jvm.Cond.fieldLink "CoreLeases$Debts" (15 : Nat) "CoreLeases$Debts" "order" "[I") ∈ jall := jt 85 (by decide +kernel) rfl
theorem jw_86 : (Jvm.Cond.fieldLink "CoreLeases" (250 : Nat) "CoreLeases$Debts" "order" "[I") ∈ jall := jt 86 (by decide +kernel) rfl
theorem jw_87 : (Jvm.Cond.fieldLink "CoreLeases$Debts" (19 : Nat) "CoreLeases$Debts" "due" "[I") ∈ jall := jt 87 (by decide +kernel) rfl
theorem jw_88 : (Jvm.Cond.fieldLink "CoreLeases" (210 : Nat) "CoreLeases$Debts" "due" "[I") ∈ jall := jt 88 (by decide +kernel) rfl
theorem jw_89 : (Jvm.Cond.lays "CoreLeases$Debts" "CoreLeases$Debts" "size" "I") ∈ jall := jt 89 (by decide +kernel) rfl
theorem jw_91 : (Jvm.Cond.laysFinal "CoreLeases$Debts" "CoreLeases$Debts" "order" "[I") ∈ jall := jt 91 (by decide +kernel) rfl
theorem jw_93 : (Jvm.Cond.laysFinal "CoreLeases$Debts" "CoreLeases$Debts" "due" "[I") ∈ jall := jt 93 (by decide +kernel) rfl
theorem jw_96 : (Jvm.Cond.classLink "CoreLeases$Plane" (42 : Nat) "CoreLeases$Tenants") ∈ jall := jt 96 (by decide +kernel) rfl
theorem jw_97 : (Jvm.Cond.instantiable "CoreLeases$Tenants" (4 : Nat)) ∈ jall := jt 97 (by decide +kernel) rfl
theorem jw_99 : (Jvm.Cond.instanceMethod ({ cls := "CoreLeases$Tenants", name := "<init>", desc := "()V" } : Jvm.MethodName)) ∈ jall := jt 99 (by decide +kernel) rfl
theorem jw_100 : (Jvm.Cond.code ({ cls := "CoreLeases$Tenants", name := "<init>", desc := "()V" } : Jvm.MethodName) prog_7_method_1_code (1 : Nat) (Option.none : Option Jvm.ClassFile.FieldType)) ∈ jall := jt 100 (by decide +kernel) rfl
theorem jw_101 : (Jvm.Cond.methodLink "CoreLeases$Tenants" (3 : Nat) ({ cls := "java/lang/Object", name := "<init>", desc := "()V" } : Jvm.MethodName)) ∈ jall := jt 101 (by decide +kernel) rfl
theorem jw_102 : (Jvm.Cond.fieldLink "CoreLeases$Tenants" (9 : Nat) "CoreLeases$Tenants" "size" "I") ∈ jall := jt 102 (by decide +kernel) rfl
theorem jw_103 : (Jvm.Cond.fieldLink "CoreLeases" (45 : Nat) "CoreLeases$Tenants" "size" "I") ∈ jall := jt 103 (by decide +kernel) rfl
theorem jw_104 : (Jvm.Cond.fieldLink "CoreLeases$Tenants" (15 : Nat) "CoreLeases$Tenants" "money" "[I") ∈ jall := jt 104 (by decide +kernel) rfl
theorem jw_105 : (Jvm.Cond.fieldLink "CoreLeases" (99 : Nat) "CoreLeases$Tenants" "money" "[I") ∈ jall := jt 105 (by decide +kernel) rfl
theorem jw_106 : (Jvm.Cond.fieldLink "CoreLeases$Plane" (99 : Nat) "CoreLeases$Tenants" "money" "[I") ∈ jall := jt 106 (by decide +kernel) rfl
theorem jw_107 : (Jvm.Cond.fieldLink "CoreLeases$Tenants" (19 : Nat) "CoreLeases$Tenants" "lost" "[I") ∈ jall := jt 107 (by decide +kernel) rfl
theorem jw_108 : (Jvm.Cond.fieldLink "CoreLeases$Plane" (134 : Nat) "CoreLeases$Tenants" "lost" "[I") ∈ jall := jt 108 (by decide +kernel) rfl
theorem jw_109 : (Jvm.Cond.fieldLink "CoreLeases" (222 : Nat) "CoreLeases$Tenants" "lost" "[I") ∈ jall := jt 109 (by decide +kernel) rfl
theorem jw_110 : (Jvm.Cond.fieldLink "CoreLeases$Tenants" (22 : Nat) "CoreLeases$Tenants" "paid" "[I") ∈ jall := jt 110 (by decide +kernel) rfl
theorem jw_111 : (Jvm.Cond.fieldLink "CoreLeases$Plane" (149 : Nat) "CoreLeases$Tenants" "paid" "[I") ∈ jall := jt 111 (by decide +kernel) rfl
theorem jw_112 : (Jvm.Cond.fieldLink "CoreLeases" (223 : Nat) "CoreLeases$Tenants" "paid" "[I") ∈ jall := jt 112 (by decide +kernel) rfl
theorem jw_113 : (Jvm.Cond.lays "CoreLeases$Tenants" "CoreLeases$Tenants" "size" "I") ∈ jall := jt 113 (by decide +kernel) rfl
theorem jw_115 : (Jvm.Cond.laysFinal "CoreLeases$Tenants" "CoreLeases$Tenants" "money" "[I") ∈ jall := jt 115 (by decide +kernel) rfl
theorem jw_117 : (Jvm.Cond.laysFinal "CoreLeases$Tenants" "CoreLeases$Tenants" "lost" "[I") ∈ jall := jt 117 (by decide +kernel) rfl
theorem jw_119 : (Jvm.Cond.laysFinal "CoreLeases$Tenants" "CoreLeases$Tenants" "paid" "[I") ∈ jall := jt 119 (by decide +kernel) rfl
theorem jw_122 : (Jvm.Cond.classLink "CoreLeases$Plane" (49 : Nat) "CoreLeases$Insurers") ∈ jall := jt 122 (by decide +kernel) rfl
theorem jw_123 : (Jvm.Cond.instantiable "CoreLeases$Insurers" (6 : Nat)) ∈ jall := jt 123 (by decide +kernel) rfl
theorem jw_125 : (Jvm.Cond.instanceMethod ({ cls := "CoreLeases$Insurers", name := "<init>", desc := "()V" } : Jvm.MethodName)) ∈ jall := jt 125 (by decide +kernel) rfl
theorem jw_126 : (Jvm.Cond.code ({ cls := "CoreLeases$Insurers", name := "<init>", desc := "()V" } : Jvm.MethodName) prog_4_method_1_code (1 : Nat) (Option.none : Option Jvm.ClassFile.FieldType)) ∈ jall := jt 126 (by decide +kernel) rfl
theorem jw_127 : (Jvm.Cond.methodLink "CoreLeases$Insurers" (3 : Nat) ({ cls := "java/lang/Object", name := "<init>", desc := "()V" } : Jvm.MethodName)) ∈ jall := jt 127 (by decide +kernel) rfl
theorem jw_128 : (Jvm.Cond.fieldLink "CoreLeases$Insurers" (9 : Nat) "CoreLeases$Insurers" "size" "I") ∈ jall := jt 128 (by decide +kernel) rfl
theorem jw_129 : (Jvm.Cond.fieldLink "CoreLeases" (66 : Nat) "CoreLeases$Insurers" "size" "I") ∈ jall := jt 129 (by decide +kernel) rfl
theorem jw_130 : (Jvm.Cond.fieldLink "CoreLeases$Insurers" (15 : Nat) "CoreLeases$Insurers" "fund" "[I") ∈ jall := jt 130 (by decide +kernel) rfl
theorem jw_131 : (Jvm.Cond.fieldLink "CoreLeases$Plane" (111 : Nat) "CoreLeases$Insurers" "fund" "[I") ∈ jall := jt 131 (by decide +kernel) rfl
theorem jw_132 : (Jvm.Cond.fieldLink "CoreLeases" (229 : Nat) "CoreLeases$Insurers" "fund" "[I") ∈ jall := jt 132 (by decide +kernel) rfl
theorem jw_133 : (Jvm.Cond.fieldLink "CoreLeases$Insurers" (19 : Nat) "CoreLeases$Insurers" "rate" "[I") ∈ jall := jt 133 (by decide +kernel) rfl
theorem jw_134 : (Jvm.Cond.fieldLink "CoreLeases$Plane" (108 : Nat) "CoreLeases$Insurers" "rate" "[I") ∈ jall := jt 134 (by decide +kernel) rfl
theorem jw_135 : (Jvm.Cond.fieldLink "CoreLeases" (232 : Nat) "CoreLeases$Insurers" "rate" "[I") ∈ jall := jt 135 (by decide +kernel) rfl
theorem jw_136 : (Jvm.Cond.fieldLink "CoreLeases$Insurers" (22 : Nat) "CoreLeases$Insurers" "cover" "[I") ∈ jall := jt 136 (by decide +kernel) rfl
theorem jw_137 : (Jvm.Cond.fieldLink "CoreLeases$Plane" (143 : Nat) "CoreLeases$Insurers" "cover" "[I") ∈ jall := jt 137 (by decide +kernel) rfl
theorem jw_138 : (Jvm.Cond.fieldLink "CoreLeases" (235 : Nat) "CoreLeases$Insurers" "cover" "[I") ∈ jall := jt 138 (by decide +kernel) rfl
theorem jw_139 : (Jvm.Cond.fieldLink "CoreLeases$Insurers" (25 : Nat) "CoreLeases$Insurers" "premiums" "[I") ∈ jall := jt 139 (by decide +kernel) rfl
theorem jw_140 : (Jvm.Cond.fieldLink "CoreLeases$Plane" (114 : Nat) "CoreLeases$Insurers" "premiums" "[I") ∈ jall := jt 140 (by decide +kernel) rfl
theorem jw_141 : (Jvm.Cond.fieldLink "CoreLeases" (247 : Nat) "CoreLeases$Insurers" "premiums" "[I") ∈ jall := jt 141 (by decide +kernel) rfl
theorem jw_142 : (Jvm.Cond.fieldLink "CoreLeases$Insurers" (28 : Nat) "CoreLeases$Insurers" "claimsPaid" "[I") ∈ jall := jt 142 (by decide +kernel) rfl
theorem jw_143 : (Jvm.Cond.fieldLink "CoreLeases$Plane" (146 : Nat) "CoreLeases$Insurers" "claimsPaid" "[I") ∈ jall := jt 143 (by decide +kernel) rfl
theorem jw_144 : (Jvm.Cond.fieldLink "CoreLeases" (241 : Nat) "CoreLeases$Insurers" "claimsPaid" "[I") ∈ jall := jt 144 (by decide +kernel) rfl
theorem jw_145 : (Jvm.Cond.lays "CoreLeases$Insurers" "CoreLeases$Insurers" "size" "I") ∈ jall := jt 145 (by decide +kernel) rfl
theorem jw_147 : (Jvm.Cond.laysFinal "CoreLeases$Insurers" "CoreLeases$Insurers" "fund" "[I") ∈ jall := jt 147 (by decide +kernel) rfl
theorem jw_149 : (Jvm.Cond.laysFinal "CoreLeases$Insurers" "CoreLeases$Insurers" "rate" "[I") ∈ jall := jt 149 (by decide +kernel) rfl
theorem jw_151 : (Jvm.Cond.laysFinal "CoreLeases$Insurers" "CoreLeases$Insurers" "cover" "[I") ∈ jall := jt 151 (by decide +kernel) rfl
theorem jw_153 : (Jvm.Cond.laysFinal "CoreLeases$Insurers" "CoreLeases$Insurers" "premiums" "[I") ∈ jall := jt 153 (by decide +kernel) rfl
theorem jw_155 : (Jvm.Cond.laysFinal "CoreLeases$Insurers" "CoreLeases$Insurers" "claimsPaid" "[I") ∈ jall := jt 155 (by decide +kernel) rfl
theorem jw_161 : (Jvm.Cond.static ({ cls := "CoreLeases", name := "copyRow", desc := "([I[I)V" } : Jvm.MethodName)) ∈ jall := jt 161 (by decide +kernel) rfl
theorem jw_162 : (Jvm.Cond.code ({ cls := "CoreLeases", name := "copyRow", desc := "([I[I)V" } : Jvm.MethodName) prog_1_method_52_code (2 : Nat) (Option.none : Option Jvm.ClassFile.FieldType)) ∈ jall := jt 162 (by decide +kernel) rfl
theorem jw_163 : (Jvm.Cond.methodLink "CoreLeases" (426 : Nat) ({ cls := "java/lang/Math", name := "min", desc := "(II)I" } : Jvm.MethodName)) ∈ jall := jt 163 (by decide +kernel) rfl
theorem jw_164 : (Jvm.Cond.static ({ cls := "java/lang/Math", name := "min", desc := "(II)I" } : Jvm.MethodName)) ∈ jall := jt 164 (by decide +kernel) rfl
theorem jw_165 : (Jvm.Cond.code ({ cls := "java/lang/Math", name := "min", desc := "(II)I" } : Jvm.MethodName) prog_16_method_69_code (2 : Nat) (Option.some Jvm.ClassFile.FieldType.int)) ∈ jall := jt 165 (by decide +kernel) rfl
theorem jw_166 : (Jvm.Cond.methodLink "CoreLeases" (429 : Nat) ({ cls := "java/lang/System", name := "arraycopy", desc := "(Ljava/lang/Object;ILjava/lang/Object;II)V" } : Jvm.MethodName)) ∈ jall := jt 166 (by decide +kernel) rfl
theorem jw_167 : (Jvm.Cond.static ({ cls := "java/lang/System", name := "arraycopy", desc := "(Ljava/lang/Object;ILjava/lang/Object;II)V" } : Jvm.MethodName)) ∈ jall := jt 167 (by decide +kernel) rfl
theorem jw_168 : (Jvm.Cond.native ({ cls := "java/lang/System", name := "arraycopy", desc := "(Ljava/lang/Object;ILjava/lang/Object;II)V" } : Jvm.MethodName)) ∈ jall := jt 168 (by decide +kernel) rfl
theorem jw_169 : (Jvm.Cond.fieldLink "CoreLeases$Plane" (9 : Nat) "CoreLeases$Plane" "time" "I") ∈ jall := jt 169 (by decide +kernel) rfl
theorem jw_170 : (Jvm.Cond.fieldLink "CoreLeases" (168 : Nat) "CoreLeases$Plane" "time" "I") ∈ jall := jt 170 (by decide +kernel) rfl
theorem jw_171 : (Jvm.Cond.fieldLink "CoreLeases$Plane" (15 : Nat) "CoreLeases$Plane" "heat" "I") ∈ jall := jt 171 (by decide +kernel) rfl
theorem jw_172 : (Jvm.Cond.fieldLink "CoreLeases" (124 : Nat) "CoreLeases$Plane" "heat" "I") ∈ jall := jt 172 (by decide +kernel) rfl
theorem jw_173 : (Jvm.Cond.fieldLink "CoreLeases$Plane" (18 : Nat) "CoreLeases$Plane" "house" "I") ∈ jall := jt 173 (by decide +kernel) rfl
theorem jw_174 : (Jvm.Cond.fieldLink "CoreLeases" (135 : Nat) "CoreLeases$Plane" "house" "I") ∈ jall := jt 174 (by decide +kernel) rfl
theorem jw_175 : (Jvm.Cond.fieldLink "CoreLeases$Plane" (21 : Nat) "CoreLeases$Plane" "settings" "[I") ∈ jall := jt 175 (by decide +kernel) rfl
theorem jw_176 : (Jvm.Cond.fieldLink "CoreLeases" (80 : Nat) "CoreLeases$Plane" "settings" "[I") ∈ jall := jt 176 (by decide +kernel) rfl
theorem jw_177 : (Jvm.Cond.fieldLink "CoreLeases$Plane" (25 : Nat) "CoreLeases$Plane" "tallies" "[I") ∈ jall := jt 177 (by decide +kernel) rfl
theorem jw_178 : (Jvm.Cond.fieldLink "CoreLeases" (275 : Nat) "CoreLeases$Plane" "tallies" "[I") ∈ jall := jt 178 (by decide +kernel) rfl
theorem jw_179 : (Jvm.Cond.fieldLink "CoreLeases$Plane" (31 : Nat) "CoreLeases$Plane" "cores" "LCoreLeases$Cores;") ∈ jall := jt 179 (by decide +kernel) rfl
theorem jw_180 : (Jvm.Cond.fieldLink "CoreLeases" (89 : Nat) "CoreLeases$Plane" "cores" "LCoreLeases$Cores;") ∈ jall := jt 180 (by decide +kernel) rfl
theorem jw_181 : (Jvm.Cond.fieldLink "CoreLeases$Plane" (38 : Nat) "CoreLeases$Plane" "debts" "LCoreLeases$Debts;") ∈ jall := jt 181 (by decide +kernel) rfl
theorem jw_182 : (Jvm.Cond.fieldLink "CoreLeases" (157 : Nat) "CoreLeases$Plane" "debts" "LCoreLeases$Debts;") ∈ jall := jt 182 (by decide +kernel) rfl
theorem jw_183 : (Jvm.Cond.fieldLink "CoreLeases$Plane" (45 : Nat) "CoreLeases$Plane" "tenants" "LCoreLeases$Tenants;") ∈ jall := jt 183 (by decide +kernel) rfl
theorem jw_184 : (Jvm.Cond.fieldLink "CoreLeases" (41 : Nat) "CoreLeases$Plane" "tenants" "LCoreLeases$Tenants;") ∈ jall := jt 184 (by decide +kernel) rfl
theorem jw_185 : (Jvm.Cond.fieldLink "CoreLeases$Plane" (52 : Nat) "CoreLeases$Plane" "insurers" "LCoreLeases$Insurers;") ∈ jall := jt 185 (by decide +kernel) rfl
theorem jw_186 : (Jvm.Cond.fieldLink "CoreLeases" (62 : Nat) "CoreLeases$Plane" "insurers" "LCoreLeases$Insurers;") ∈ jall := jt 186 (by decide +kernel) rfl
theorem jw_187 : (Jvm.Cond.fieldLink "CoreLeases$Plane" (56 : Nat) "CoreLeases$Plane" "claims" "[I") ∈ jall := jt 187 (by decide +kernel) rfl
theorem jw_188 : (Jvm.Cond.fieldLink "CoreLeases$Plane" (59 : Nat) "CoreLeases$Plane" "waiting" "I") ∈ jall := jt 188 (by decide +kernel) rfl
theorem jw_189 : (Jvm.Cond.lays "CoreLeases$Plane" "CoreLeases$Plane" "time" "I") ∈ jall := jt 189 (by decide +kernel) rfl
theorem jw_191 : (Jvm.Cond.lays "CoreLeases$Plane" "CoreLeases$Plane" "heat" "I") ∈ jall := jt 191 (by decide +kernel) rfl
theorem jw_193 : (Jvm.Cond.lays "CoreLeases$Plane" "CoreLeases$Plane" "house" "I") ∈ jall := jt 193 (by decide +kernel) rfl
theorem jw_195 : (Jvm.Cond.laysFinal "CoreLeases$Plane" "CoreLeases$Plane" "settings" "[I") ∈ jall := jt 195 (by decide +kernel) rfl
theorem jw_197 : (Jvm.Cond.laysFinal "CoreLeases$Plane" "CoreLeases$Plane" "tallies" "[I") ∈ jall := jt 197 (by decide +kernel) rfl
theorem jw_199 : (Jvm.Cond.laysFinal "CoreLeases$Plane" "CoreLeases$Plane" "cores" "LCoreLeases$Cores;") ∈ jall := jt 199 (by decide +kernel) rfl
theorem jw_201 : (Jvm.Cond.laysFinal "CoreLeases$Plane" "CoreLeases$Plane" "debts" "LCoreLeases$Debts;") ∈ jall := jt 201 (by decide +kernel) rfl
theorem jw_203 : (Jvm.Cond.laysFinal "CoreLeases$Plane" "CoreLeases$Plane" "tenants" "LCoreLeases$Tenants;") ∈ jall := jt 203 (by decide +kernel) rfl
theorem jw_205 : (Jvm.Cond.laysFinal "CoreLeases$Plane" "CoreLeases$Plane" "insurers" "LCoreLeases$Insurers;") ∈ jall := jt 205 (by decide +kernel) rfl
theorem jw_207 : (Jvm.Cond.laysFinal "CoreLeases$Plane" "CoreLeases$Plane" "claims" "[I") ∈ jall := jt 207 (by decide +kernel) rfl
theorem jw_209 : (Jvm.Cond.lays "CoreLeases$Plane" "CoreLeases$Plane" "waiting" "I") ∈ jall := jt 209 (by decide +kernel) rfl
theorem jw_212 : (Jvm.Cond.classLink "CoreLeases" (19 : Nat) "CoreLeases$Saves") ∈ jall := jt 212 (by decide +kernel) rfl
theorem jw_213 : (Jvm.Cond.instantiable "CoreLeases$Saves" (2 : Nat)) ∈ jall := jt 213 (by decide +kernel) rfl
theorem jw_214 : (Jvm.Cond.methodLink "CoreLeases" (21 : Nat) ({ cls := "CoreLeases$Saves", name := "<init>", desc := "()V" } : Jvm.MethodName)) ∈ jall := jt 214 (by decide +kernel) rfl
theorem jw_215 : (Jvm.Cond.instanceMethod ({ cls := "CoreLeases$Saves", name := "<init>", desc := "()V" } : Jvm.MethodName)) ∈ jall := jt 215 (by decide +kernel) rfl
theorem jw_216 : (Jvm.Cond.code ({ cls := "CoreLeases$Saves", name := "<init>", desc := "()V" } : Jvm.MethodName) prog_6_method_1_code (2 : Nat) (Option.none : Option Jvm.ClassFile.FieldType)) ∈ jall := jt 216 (by decide +kernel) rfl
theorem jw_217 : (Jvm.Cond.methodLink "CoreLeases$Saves" (3 : Nat) ({ cls := "java/lang/Object", name := "<init>", desc := "()V" } : Jvm.MethodName)) ∈ jall := jt 217 (by decide +kernel) rfl
theorem jw_218 : (Jvm.Cond.classLink "CoreLeases$Saves" (15 : Nat) "CoreLeases$Plane") ∈ jall := jt 218 (by decide +kernel) rfl
theorem jw_220 : (Jvm.Cond.methodLink "CoreLeases$Saves" (21 : Nat) ({ cls := "CoreLeases$Plane", name := "<init>", desc := "()V" } : Jvm.MethodName)) ∈ jall := jt 220 (by decide +kernel) rfl
theorem jw_221 : (Jvm.Cond.fieldLink "CoreLeases$Saves" (9 : Nat) "CoreLeases$Saves" "size" "I") ∈ jall := jt 221 (by decide +kernel) rfl
theorem jw_222 : (Jvm.Cond.fieldLink "CoreLeases" (197 : Nat) "CoreLeases$Saves" "size" "I") ∈ jall := jt 222 (by decide +kernel) rfl
theorem jw_223 : (Jvm.Cond.fieldLink "CoreLeases$Saves" (17 : Nat) "CoreLeases$Saves" "planes" "[LCoreLeases$Plane;") ∈ jall := jt 223 (by decide +kernel) rfl
theorem jw_224 : (Jvm.Cond.lays "CoreLeases$Saves" "CoreLeases$Saves" "size" "I") ∈ jall := jt 224 (by decide +kernel) rfl
theorem jw_226 : (Jvm.Cond.laysFinal "CoreLeases$Saves" "CoreLeases$Saves" "planes" "[LCoreLeases$Plane;") ∈ jall := jt 226 (by decide +kernel) rfl
theorem jw_229 : (Jvm.Cond.classLink "CoreLeases" (26 : Nat) "CoreLeases$Text") ∈ jall := jt 229 (by decide +kernel) rfl
theorem jw_230 : (Jvm.Cond.instantiable "CoreLeases$Text" (2 : Nat)) ∈ jall := jt 230 (by decide +kernel) rfl
theorem jw_232 : (Jvm.Cond.instanceMethod ({ cls := "CoreLeases$Text", name := "<init>", desc := "()V" } : Jvm.MethodName)) ∈ jall := jt 232 (by decide +kernel) rfl
theorem jw_233 : (Jvm.Cond.code ({ cls := "CoreLeases$Text", name := "<init>", desc := "()V" } : Jvm.MethodName) prog_8_method_1_code (1 : Nat) (Option.none : Option Jvm.ClassFile.FieldType)) ∈ jall := jt 233 (by decide +kernel) rfl
theorem jw_234 : (Jvm.Cond.methodLink "CoreLeases$Text" (3 : Nat) ({ cls := "java/lang/Object", name := "<init>", desc := "()V" } : Jvm.MethodName)) ∈ jall := jt 234 (by decide +kernel) rfl
theorem jw_235 : (Jvm.Cond.fieldLink "CoreLeases$Text" (9 : Nat) "CoreLeases$Text" "length" "I") ∈ jall := jt 235 (by decide +kernel) rfl
theorem jw_236 : (Jvm.Cond.fieldLink "CoreLeases" (174 : Nat) "CoreLeases$Text" "length" "I") ∈ jall := jt 236 (by decide +kernel) rfl
theorem jw_237 : (Jvm.Cond.fieldLink "CoreLeases$Text" (15 : Nat) "CoreLeases$Text" "codes" "[I") ∈ jall := jt 237 (by decide +kernel) rfl
theorem jw_238 : (Jvm.Cond.lays "CoreLeases$Text" "CoreLeases$Text" "length" "I") ∈ jall := jt 238 (by decide +kernel) rfl
theorem jw_240 : (Jvm.Cond.laysFinal "CoreLeases$Text" "CoreLeases$Text" "codes" "[I") ∈ jall := jt 240 (by decide +kernel) rfl
theorem jw_243 : (Jvm.Cond.fieldLink "CoreLeases" (10 : Nat) "CoreLeases" "now" "LCoreLeases$Plane;") ∈ jall := jt 243 (by decide +kernel) rfl
theorem jw_244 : (Jvm.Cond.fieldLink "CoreLeases" (16 : Nat) "CoreLeases" "trial" "LCoreLeases$Plane;") ∈ jall := jt 244 (by decide +kernel) rfl
theorem jw_245 : (Jvm.Cond.fieldLink "CoreLeases" (22 : Nat) "CoreLeases" "saves" "LCoreLeases$Saves;") ∈ jall := jt 245 (by decide +kernel) rfl
theorem jw_246 : (Jvm.Cond.fieldLink "CoreLeases" (29 : Nat) "CoreLeases" "text" "LCoreLeases$Text;") ∈ jall := jt 246 (by decide +kernel) rfl
theorem jw_247 : (Jvm.Cond.laysFinal "CoreLeases" "CoreLeases" "now" "LCoreLeases$Plane;") ∈ jall := jt 247 (by decide +kernel) rfl
theorem jw_249 : (Jvm.Cond.laysFinal "CoreLeases" "CoreLeases" "trial" "LCoreLeases$Plane;") ∈ jall := jt 249 (by decide +kernel) rfl
theorem jw_251 : (Jvm.Cond.laysFinal "CoreLeases" "CoreLeases" "saves" "LCoreLeases$Saves;") ∈ jall := jt 251 (by decide +kernel) rfl
theorem jw_253 : (Jvm.Cond.laysFinal "CoreLeases" "CoreLeases" "text" "LCoreLeases$Text;") ∈ jall := jt 253 (by decide +kernel) rfl
theorem jw_256 : (Jvm.Cond.methodLink "CoreLeasesLaw" (158 : Nat) ({ cls := "CoreLeases", name := "set", desc := "(II)I" } : Jvm.MethodName)) ∈ jall := jt 256 (by decide +kernel) rfl
theorem jw_257 : (Jvm.Cond.instanceMethod ({ cls := "CoreLeases", name := "set", desc := "(II)I" } : Jvm.MethodName)) ∈ jall := jt 257 (by decide +kernel) rfl
theorem jw_258 : (Jvm.Cond.selects "CoreLeases" ({ cls := "CoreLeases", name := "set", desc := "(II)I" } : Jvm.MethodName) ({ cls := "CoreLeases", name := "set", desc := "(II)I" } : Jvm.MethodName)) ∈ jall := jt 258 (by decide +kernel) rfl
theorem jw_259 : (Jvm.Cond.code ({ cls := "CoreLeases", name := "set", desc := "(II)I" } : Jvm.MethodName) prog_1_method_4_code (4 : Nat) (Option.some Jvm.ClassFile.FieldType.int)) ∈ jall := jt 259 (by decide +kernel) rfl
theorem jw_260 : (Jvm.Cond.methodLink "CoreLeases" (72 : Nat) ({ cls := "CoreLeases", name := "requireSetting", desc := "(I)V" } : Jvm.MethodName)) ∈ jall := jt 260 (by decide +kernel) rfl
theorem jw_261 : (Jvm.Cond.static ({ cls := "CoreLeases", name := "requireSetting", desc := "(I)V" } : Jvm.MethodName)) ∈ jall := jt 261 (by decide +kernel) rfl
theorem jw_262 : (Jvm.Cond.code ({ cls := "CoreLeases", name := "requireSetting", desc := "(I)V" } : Jvm.MethodName) prog_1_method_47_code (1 : Nat) (Option.none : Option Jvm.ClassFile.FieldType)) ∈ jall := jt 262 (by decide +kernel) rfl
theorem jw_263 : (Jvm.Cond.methodLink "CoreLeases" (33 : Nat) ({ cls := "CoreLeases", name := "within", desc := "(III)Z" } : Jvm.MethodName)) ∈ jall := jt 263 (by decide +kernel) rfl
theorem jw_264 : (Jvm.Cond.static ({ cls := "CoreLeases", name := "within", desc := "(III)Z" } : Jvm.MethodName)) ∈ jall := jt 264 (by decide +kernel) rfl
theorem jw_265 : (Jvm.Cond.code ({ cls := "CoreLeases", name := "within", desc := "(III)Z" } : Jvm.MethodName) prog_1_method_42_code (3 : Nat) (Option.some Jvm.ClassFile.FieldType.boolean)) ∈ jall := jt 265 (by decide +kernel) rfl
theorem jw_266 : (Jvm.Cond.classLink "CoreLeases" (393 : Nat) "java/lang/IndexOutOfBoundsException") ∈ jall := jt 266 (by decide +kernel) rfl
theorem jw_267 : (Jvm.Cond.instantiable "java/lang/IndexOutOfBoundsException" (6 : Nat)) ∈ jall := jt 267 (by decide +kernel) rfl
theorem jw_277 : (Jvm.Cond.lays "java/lang/IndexOutOfBoundsException" "java/lang/Throwable" "cause" "Ljava/lang/Throwable;") ∈ jall := jt 277 (by decide +kernel) rfl
theorem jw_278 : (Jvm.Cond.lays "java/lang/Throwable" "java/lang/Throwable" "cause" "Ljava/lang/Throwable;") ∈ jall := jt 278 (by decide +kernel) rfl
theorem jw_279 : (Jvm.Cond.lays "java/lang/IndexOutOfBoundsException" "java/lang/Throwable" "stackTrace" "[Ljava/lang/StackTraceElement;") ∈ jall := jt 279 (by decide +kernel) rfl
theorem jw_280 : (Jvm.Cond.lays "java/lang/Throwable" "java/lang/Throwable" "stackTrace" "[Ljava/lang/StackTraceElement;") ∈ jall := jt 280 (by decide +kernel) rfl
theorem jw_281 : (Jvm.Cond.lays "java/lang/IndexOutOfBoundsException" "java/lang/Throwable" "suppressedExceptions" "Ljava/util/List;") ∈ jall := jt 281 (by decide +kernel) rfl
theorem jw_282 : (Jvm.Cond.lays "java/lang/Throwable" "java/lang/Throwable" "suppressedExceptions" "Ljava/util/List;") ∈ jall := jt 282 (by decide +kernel) rfl
theorem jw_283 : (Jvm.Cond.lays "java/lang/IndexOutOfBoundsException" "java/lang/Throwable" "detailMessage" "Ljava/lang/String;") ∈ jall := jt 283 (by decide +kernel) rfl
theorem jw_284 : (Jvm.Cond.lays "java/lang/Throwable" "java/lang/Throwable" "detailMessage" "Ljava/lang/String;") ∈ jall := jt 284 (by decide +kernel) rfl
theorem jw_285 : (Jvm.Cond.lays "java/lang/IndexOutOfBoundsException" "java/lang/Throwable" "backtrace" "Ljava/lang/Object;") ∈ jall := jt 285 (by decide +kernel) rfl
theorem jw_286 : (Jvm.Cond.lays "java/lang/Throwable" "java/lang/Throwable" "backtrace" "Ljava/lang/Object;") ∈ jall := jt 286 (by decide +kernel) rfl
theorem jw_305 : (Jvm.Cond.instantiable "java/lang/Throwable" (6 : Nat)) ∈ jall := jt 305 (by decide +kernel) rfl
theorem jw_306 : (Jvm.Cond.native ({ cls := "java/lang/Throwable", name := "fillInStackTrace", desc := "(I)Ljava/lang/Throwable;" } : Jvm.MethodName)) ∈ jall := jt 306 (by decide +kernel) rfl
theorem jw_308 : (Jvm.Cond.methodLink "CoreLeases" (397 : Nat) ({ cls := "java/lang/IndexOutOfBoundsException", name := "<init>", desc := "(Ljava/lang/String;)V" } : Jvm.MethodName)) ∈ jall := jt 308 (by decide +kernel) rfl
theorem jw_329 : (Jvm.Cond.lays "java/lang/IndexOutOfBoundsException" "java/lang/Throwable" "depth" "I") ∈ jall := jt 329 (by decide +kernel) rfl
theorem jw_333 : (Jvm.Cond.arrayClass Jvm.ClassFile.FieldType.byte) ∈ jall := jt 333 (by decide +kernel) rfl
theorem jw_334 : (Jvm.Cond.fieldLink "CoreLeases" (76 : Nat) "CoreLeases" "MOST_SETTINGS" "[I") ∈ jall := jt 334 (by decide +kernel) rfl
theorem jw_336 : (Jvm.Cond.methodLink "CoreLeases" (37 : Nat) ({ cls := "CoreLeases", name := "requireArgument", desc := "(Z)V" } : Jvm.MethodName)) ∈ jall := jt 336 (by decide +kernel) rfl
theorem jw_337 : (Jvm.Cond.static ({ cls := "CoreLeases", name := "requireArgument", desc := "(Z)V" } : Jvm.MethodName)) ∈ jall := jt 337 (by decide +kernel) rfl
theorem jw_338 : (Jvm.Cond.code ({ cls := "CoreLeases", name := "requireArgument", desc := "(Z)V" } : Jvm.MethodName) prog_1_method_48_code (1 : Nat) (Option.none : Option Jvm.ClassFile.FieldType)) ∈ jall := jt 338 (by decide +kernel) rfl
theorem jw_339 : (Jvm.Cond.classLink "CoreLeases" (407 : Nat) "java/lang/IllegalArgumentException") ∈ jall := jt 339 (by decide +kernel) rfl
theorem jw_340 : (Jvm.Cond.instantiable "java/lang/IllegalArgumentException" (6 : Nat)) ∈ jall := jt 340 (by decide +kernel) rfl
theorem jw_343 : (Jvm.Cond.lays "java/lang/IllegalArgumentException" "java/lang/Throwable" "cause" "Ljava/lang/Throwable;") ∈ jall := jt 343 (by decide +kernel) rfl
theorem jw_344 : (Jvm.Cond.lays "java/lang/IllegalArgumentException" "java/lang/Throwable" "stackTrace" "[Ljava/lang/StackTraceElement;") ∈ jall := jt 344 (by decide +kernel) rfl
theorem jw_345 : (Jvm.Cond.lays "java/lang/IllegalArgumentException" "java/lang/Throwable" "suppressedExceptions" "Ljava/util/List;") ∈ jall := jt 345 (by decide +kernel) rfl
theorem jw_346 : (Jvm.Cond.lays "java/lang/IllegalArgumentException" "java/lang/Throwable" "detailMessage" "Ljava/lang/String;") ∈ jall := jt 346 (by decide +kernel) rfl
theorem jw_347 : (Jvm.Cond.lays "java/lang/IllegalArgumentException" "java/lang/Throwable" "backtrace" "Ljava/lang/Object;") ∈ jall := jt 347 (by decide +kernel) rfl
theorem jw_349 : (Jvm.Cond.methodLink "CoreLeases" (411 : Nat) ({ cls := "java/lang/IllegalArgumentException", name := "<init>", desc := "(Ljava/lang/String;)V" } : Jvm.MethodName)) ∈ jall := jt 349 (by decide +kernel) rfl
theorem jw_353 : (Jvm.Cond.lays "java/lang/IllegalArgumentException" "java/lang/Throwable" "depth" "I") ∈ jall := jt 353 (by decide +kernel) rfl
theorem jw_355 : (Jvm.Cond.methodLink "CoreLeases" (54 : Nat) ({ cls := "CoreLeases$Saves", name := "keep", desc := "(LCoreLeases$Plane;)V" } : Jvm.MethodName)) ∈ jall := jt 355 (by decide +kernel) rfl
theorem jw_356 : (Jvm.Cond.instanceMethod ({ cls := "CoreLeases$Saves", name := "keep", desc := "(LCoreLeases$Plane;)V" } : Jvm.MethodName)) ∈ jall := jt 356 (by decide +kernel) rfl
theorem jw_357 : (Jvm.Cond.selects "CoreLeases$Saves" ({ cls := "CoreLeases$Saves", name := "keep", desc := "(LCoreLeases$Plane;)V" } : Jvm.MethodName) ({ cls := "CoreLeases$Saves", name := "keep", desc := "(LCoreLeases$Plane;)V" } : Jvm.MethodName)) ∈ jall := jt 357 (by decide +kernel) rfl
theorem jw_358 : (Jvm.Cond.code ({ cls := "CoreLeases$Saves", name := "keep", desc := "(LCoreLeases$Plane;)V" } : Jvm.MethodName) prog_6_method_2_code (2 : Nat) (Option.none : Option Jvm.ClassFile.FieldType)) ∈ jall := jt 358 (by decide +kernel) rfl
theorem jw_359 : (Jvm.Cond.methodLink "CoreLeases$Saves" (22 : Nat) ({ cls := "CoreLeases$Saves", name := "dropOldest", desc := "()V" } : Jvm.MethodName)) ∈ jall := jt 359 (by decide +kernel) rfl
theorem jw_361 : (Jvm.Cond.instanceMethod ({ cls := "CoreLeases$Saves", name := "dropOldest", desc := "()V" } : Jvm.MethodName)) ∈ jall := jt 361 (by decide +kernel) rfl
theorem jw_362 : (Jvm.Cond.code ({ cls := "CoreLeases$Saves", name := "dropOldest", desc := "()V" } : Jvm.MethodName) prog_6_method_3_code (3 : Nat) (Option.none : Option Jvm.ClassFile.FieldType)) ∈ jall := jt 362 (by decide +kernel) rfl
theorem jw_363 : (Jvm.Cond.methodLink "CoreLeases$Saves" (25 : Nat) ({ cls := "CoreLeases$Plane", name := "become", desc := "(LCoreLeases$Plane;)V" } : Jvm.MethodName)) ∈ jall := jt 363 (by decide +kernel) rfl
