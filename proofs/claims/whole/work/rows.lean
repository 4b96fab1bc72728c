section
-- ===== PART A: goes FIRST, ahead of the names: the tables' words, and 'selects' of the private methods out of them =====
/-- a private method of a class that the tables say can be made, by its rows of tables_1 -/
def lw_okq (q : MethodName × Nat) : Prop := (q.1.cls ≠ "java/lang/invoke/MethodHandle" ∧ q.1.cls ≠ "java/lang/invoke/VarHandle") ∧ Cond.instantiable q.1.cls q.2 ∈ tables_1 ∧ Cond.privateMethod q.1 ∈ tables_1 ∧ Cond.instanceMethod q.1 ∈ tables_1
theorem lw_p0 : lw_okq (⟨"java/lang/Throwable", "fillInStackTrace", "(I)Ljava/lang/Throwable;"⟩, 6) := ⟨⟨by decide +kernel, by decide +kernel⟩, List.mem_of_getElem? (i := 385) (by decide +kernel), List.mem_of_getElem? (i := 383) (by decide +kernel), List.mem_of_getElem? (i := 384) (by decide +kernel)⟩
theorem lw_p1 : lw_okq (⟨"CoreLeases", "withCores", "(J)J"⟩, 4) := ⟨⟨by decide +kernel, by decide +kernel⟩, List.mem_of_getElem? (i := 23) (by decide +kernel), List.mem_of_getElem? (i := 467) (by decide +kernel), List.mem_of_getElem? (i := 468) (by decide +kernel)⟩
theorem lw_p2 : lw_okq (⟨"CoreLeases", "withTenants", "(J)J"⟩, 4) := ⟨⟨by decide +kernel, by decide +kernel⟩, List.mem_of_getElem? (i := 23) (by decide +kernel), List.mem_of_getElem? (i := 496) (by decide +kernel), List.mem_of_getElem? (i := 497) (by decide +kernel)⟩
theorem lw_p3 : lw_okq (⟨"CoreLeases", "requireTenant", "(I)V"⟩, 4) := ⟨⟨by decide +kernel, by decide +kernel⟩, List.mem_of_getElem? (i := 23) (by decide +kernel), List.mem_of_getElem? (i := 504) (by decide +kernel), List.mem_of_getElem? (i := 505) (by decide +kernel)⟩
theorem lw_p4 : lw_okq (⟨"CoreLeases", "withInsurers", "(J)J"⟩, 4) := ⟨⟨by decide +kernel, by decide +kernel⟩, List.mem_of_getElem? (i := 23) (by decide +kernel), List.mem_of_getElem? (i := 530) (by decide +kernel), List.mem_of_getElem? (i := 531) (by decide +kernel)⟩
theorem lw_p5 : lw_okq (⟨"CoreLeases", "requireInsurer", "(I)V"⟩, 4) := ⟨⟨by decide +kernel, by decide +kernel⟩, List.mem_of_getElem? (i := 23) (by decide +kernel), List.mem_of_getElem? (i := 538) (by decide +kernel), List.mem_of_getElem? (i := 539) (by decide +kernel)⟩
theorem lw_p6 : lw_okq (⟨"CoreLeases", "withDebts", "(J)J"⟩, 4) := ⟨⟨by decide +kernel, by decide +kernel⟩, List.mem_of_getElem? (i := 23) (by decide +kernel), List.mem_of_getElem? (i := 555) (by decide +kernel), List.mem_of_getElem? (i := 556) (by decide +kernel)⟩
theorem lw_p7 : lw_okq (⟨"CoreLeases$Cores", "isWeaker", "(II)Z"⟩, 7) := ⟨⟨by decide +kernel, by decide +kernel⟩, List.mem_of_getElem? (i := 37) (by decide +kernel), List.mem_of_getElem? (i := 572) (by decide +kernel), List.mem_of_getElem? (i := 573) (by decide +kernel)⟩
theorem lw_p8 : lw_okq (⟨"CoreLeases$Plane", "pulse", "(II)V"⟩, 11) := ⟨⟨by decide +kernel, by decide +kernel⟩, List.mem_of_getElem? (i := 31) (by decide +kernel), List.mem_of_getElem? (i := 615) (by decide +kernel), List.mem_of_getElem? (i := 616) (by decide +kernel)⟩
theorem lw_p9 : lw_okq (⟨"CoreLeases$Plane", "enterClaim", "(II)V"⟩, 11) := ⟨⟨by decide +kernel, by decide +kernel⟩, List.mem_of_getElem? (i := 31) (by decide +kernel), List.mem_of_getElem? (i := 642) (by decide +kernel), List.mem_of_getElem? (i := 643) (by decide +kernel)⟩
theorem lw_p10 : lw_okq (⟨"CoreLeases$Plane", "payClaims", "(I)V"⟩, 11) := ⟨⟨by decide +kernel, by decide +kernel⟩, List.mem_of_getElem? (i := 31) (by decide +kernel), List.mem_of_getElem? (i := 646) (by decide +kernel), List.mem_of_getElem? (i := 647) (by decide +kernel)⟩
theorem lw_p11 : lw_okq (⟨"CoreLeases$Plane", "holdsOne", "(I)Z"⟩, 11) := ⟨⟨by decide +kernel, by decide +kernel⟩, List.mem_of_getElem? (i := 31) (by decide +kernel), List.mem_of_getElem? (i := 660) (by decide +kernel), List.mem_of_getElem? (i := 661) (by decide +kernel)⟩
theorem lw_p12 : lw_okq (⟨"CoreLeases$Plane", "loseLateBits", "()V"⟩, 11) := ⟨⟨by decide +kernel, by decide +kernel⟩, List.mem_of_getElem? (i := 31) (by decide +kernel), List.mem_of_getElem? (i := 668) (by decide +kernel), List.mem_of_getElem? (i := 669) (by decide +kernel)⟩
theorem lw_p13 : lw_okq (⟨"CoreLeases$Plane", "endLeaseOf", "(I)V"⟩, 11) := ⟨⟨by decide +kernel, by decide +kernel⟩, List.mem_of_getElem? (i := 31) (by decide +kernel), List.mem_of_getElem? (i := 673) (by decide +kernel), List.mem_of_getElem? (i := 674) (by decide +kernel)⟩
theorem lw_p14 : lw_okq (⟨"CoreLeases", "withText", "(J)J"⟩, 4) := ⟨⟨by decide +kernel, by decide +kernel⟩, List.mem_of_getElem? (i := 23) (by decide +kernel), List.mem_of_getElem? (i := 689) (by decide +kernel), List.mem_of_getElem? (i := 690) (by decide +kernel)⟩
theorem lw_p15 : lw_okq (⟨"CoreLeases$Saves", "dropOldest", "()V"⟩, 2) := ⟨⟨by decide +kernel, by decide +kernel⟩, List.mem_of_getElem? (i := 216) (by decide +kernel), List.mem_of_getElem? (i := 726) (by decide +kernel), List.mem_of_getElem? (i := 727) (by decide +kernel)⟩
def lw_privs_1 : List (MethodName × Nat) := [(⟨"java/lang/Throwable", "fillInStackTrace", "(I)Ljava/lang/Throwable;"⟩, 6), (⟨"CoreLeases", "withCores", "(J)J"⟩, 4), (⟨"CoreLeases", "withTenants", "(J)J"⟩, 4), (⟨"CoreLeases", "requireTenant", "(I)V"⟩, 4), (⟨"CoreLeases", "withInsurers", "(J)J"⟩, 4), (⟨"CoreLeases", "requireInsurer", "(I)V"⟩, 4), (⟨"CoreLeases", "withDebts", "(J)J"⟩, 4), (⟨"CoreLeases$Cores", "isWeaker", "(II)Z"⟩, 7), (⟨"CoreLeases$Plane", "pulse", "(II)V"⟩, 11), (⟨"CoreLeases$Plane", "enterClaim", "(II)V"⟩, 11), (⟨"CoreLeases$Plane", "payClaims", "(I)V"⟩, 11), (⟨"CoreLeases$Plane", "holdsOne", "(I)Z"⟩, 11), (⟨"CoreLeases$Plane", "loseLateBits", "()V"⟩, 11), (⟨"CoreLeases$Plane", "endLeaseOf", "(I)V"⟩, 11), (⟨"CoreLeases", "withText", "(J)J"⟩, 4), (⟨"CoreLeases$Saves", "dropOldest", "()V"⟩, 2)]
theorem lw_r1 : ∀ q ∈ lw_privs_1, lw_okq q := List.forall_mem_cons.mpr ⟨lw_p0, List.forall_mem_cons.mpr ⟨lw_p1, List.forall_mem_cons.mpr ⟨lw_p2, List.forall_mem_cons.mpr ⟨lw_p3, List.forall_mem_cons.mpr ⟨lw_p4, List.forall_mem_cons.mpr ⟨lw_p5, List.forall_mem_cons.mpr ⟨lw_p6, List.forall_mem_cons.mpr ⟨lw_p7, List.forall_mem_cons.mpr ⟨lw_p8, List.forall_mem_cons.mpr ⟨lw_p9, List.forall_mem_cons.mpr ⟨lw_p10, List.forall_mem_cons.mpr ⟨lw_p11, List.forall_mem_cons.mpr ⟨lw_p12, List.forall_mem_cons.mpr ⟨lw_p13, List.forall_mem_cons.mpr ⟨lw_p14, List.forall_mem_cons.mpr ⟨lw_p15, fun _ h => absurd h List.not_mem_nil⟩⟩⟩⟩⟩⟩⟩⟩⟩⟩⟩⟩⟩⟩⟩⟩
theorem lw_p16 : lw_okq (⟨"CoreLeases", "canDoStep", "(II)Z"⟩, 4) := ⟨⟨by decide +kernel, by decide +kernel⟩, List.mem_of_getElem? (i := 23) (by decide +kernel), List.mem_of_getElem? (i := 869) (by decide +kernel), List.mem_of_getElem? (i := 870) (by decide +kernel)⟩
theorem lw_p17 : lw_okq (⟨"CoreLeases", "doStep", "(I)V"⟩, 4) := ⟨⟨by decide +kernel, by decide +kernel⟩, List.mem_of_getElem? (i := 23) (by decide +kernel), List.mem_of_getElem? (i := 886) (by decide +kernel), List.mem_of_getElem? (i := 887) (by decide +kernel)⟩
theorem lw_p18 : lw_okq (⟨"CoreLeasesModel", "lay", "(III)V"⟩, 14) := ⟨⟨by decide +kernel, by decide +kernel⟩, List.mem_of_getElem? (i := 975) (by decide +kernel), List.mem_of_getElem? (i := 981) (by decide +kernel), List.mem_of_getElem? (i := 982) (by decide +kernel)⟩
theorem lw_p19 : lw_okq (⟨"CoreLeasesModel", "fails", "(I)I"⟩, 14) := ⟨⟨by decide +kernel, by decide +kernel⟩, List.mem_of_getElem? (i := 975) (by decide +kernel), List.mem_of_getElem? (i := 1039) (by decide +kernel), List.mem_of_getElem? (i := 1040) (by decide +kernel)⟩
theorem lw_p20 : lw_okq (⟨"CoreLeasesModel", "save", "()V"⟩, 14) := ⟨⟨by decide +kernel, by decide +kernel⟩, List.mem_of_getElem? (i := 975) (by decide +kernel), List.mem_of_getElem? (i := 1043) (by decide +kernel), List.mem_of_getElem? (i := 1044) (by decide +kernel)⟩
theorem lw_p21 : lw_okq (⟨"CoreLeasesModel", "rule", "(I)I"⟩, 14) := ⟨⟨by decide +kernel, by decide +kernel⟩, List.mem_of_getElem? (i := 975) (by decide +kernel), List.mem_of_getElem? (i := 1058) (by decide +kernel), List.mem_of_getElem? (i := 1059) (by decide +kernel)⟩
theorem lw_p22 : lw_okq (⟨"CoreLeasesModel", "isTenant", "(I)Z"⟩, 14) := ⟨⟨by decide +kernel, by decide +kernel⟩, List.mem_of_getElem? (i := 975) (by decide +kernel), List.mem_of_getElem? (i := 1069) (by decide +kernel), List.mem_of_getElem? (i := 1070) (by decide +kernel)⟩
theorem lw_p23 : lw_okq (⟨"CoreLeasesModel", "isLeased", "(I)Z"⟩, 14) := ⟨⟨by decide +kernel, by decide +kernel⟩, List.mem_of_getElem? (i := 975) (by decide +kernel), List.mem_of_getElem? (i := 1076) (by decide +kernel), List.mem_of_getElem? (i := 1077) (by decide +kernel)⟩
theorem lw_p24 : lw_okq (⟨"CoreLeasesModel", "of", "(II)I"⟩, 14) := ⟨⟨by decide +kernel, by decide +kernel⟩, List.mem_of_getElem? (i := 975) (by decide +kernel), List.mem_of_getElem? (i := 1080) (by decide +kernel), List.mem_of_getElem? (i := 1081) (by decide +kernel)⟩
theorem lw_p25 : lw_okq (⟨"CoreLeasesModel", "ofTenant", "(II)I"⟩, 14) := ⟨⟨by decide +kernel, by decide +kernel⟩, List.mem_of_getElem? (i := 975) (by decide +kernel), List.mem_of_getElem? (i := 1084) (by decide +kernel), List.mem_of_getElem? (i := 1085) (by decide +kernel)⟩
theorem lw_p26 : lw_okq (⟨"CoreLeasesModel", "isInsurer", "(I)Z"⟩, 14) := ⟨⟨by decide +kernel, by decide +kernel⟩, List.mem_of_getElem? (i := 975) (by decide +kernel), List.mem_of_getElem? (i := 1092) (by decide +kernel), List.mem_of_getElem? (i := 1093) (by decide +kernel)⟩
theorem lw_p27 : lw_okq (⟨"CoreLeasesModel", "premiumNow", "(III)I"⟩, 14) := ⟨⟨by decide +kernel, by decide +kernel⟩, List.mem_of_getElem? (i := 975) (by decide +kernel), List.mem_of_getElem? (i := 1096) (by decide +kernel), List.mem_of_getElem? (i := 1097) (by decide +kernel)⟩
theorem lw_p28 : lw_okq (⟨"CoreLeasesModel", "premiumBy", "(IIII)I"⟩, 14) := ⟨⟨by decide +kernel, by decide +kernel⟩, List.mem_of_getElem? (i := 975) (by decide +kernel), List.mem_of_getElem? (i := 1100) (by decide +kernel), List.mem_of_getElem? (i := 1101) (by decide +kernel)⟩
theorem lw_p29 : lw_okq (⟨"CoreLeasesModel", "ofInsurer", "(II)I"⟩, 14) := ⟨⟨by decide +kernel, by decide +kernel⟩, List.mem_of_getElem? (i := 975) (by decide +kernel), List.mem_of_getElem? (i := 1104) (by decide +kernel), List.mem_of_getElem? (i := 1105) (by decide +kernel)⟩
theorem lw_p30 : lw_okq (⟨"CoreLeasesModel", "pay", "(I)V"⟩, 14) := ⟨⟨by decide +kernel, by decide +kernel⟩, List.mem_of_getElem? (i := 975) (by decide +kernel), List.mem_of_getElem? (i := 1108) (by decide +kernel), List.mem_of_getElem? (i := 1109) (by decide +kernel)⟩
theorem lw_p31 : lw_okq (⟨"CoreLeasesModel", "writes", "(II)I"⟩, 14) := ⟨⟨by decide +kernel, by decide +kernel⟩, List.mem_of_getElem? (i := 975) (by decide +kernel), List.mem_of_getElem? (i := 1120) (by decide +kernel), List.mem_of_getElem? (i := 1121) (by decide +kernel)⟩
def lw_privs_2 : List (MethodName × Nat) := [(⟨"CoreLeases", "canDoStep", "(II)Z"⟩, 4), (⟨"CoreLeases", "doStep", "(I)V"⟩, 4), (⟨"CoreLeasesModel", "lay", "(III)V"⟩, 14), (⟨"CoreLeasesModel", "fails", "(I)I"⟩, 14), (⟨"CoreLeasesModel", "save", "()V"⟩, 14), (⟨"CoreLeasesModel", "rule", "(I)I"⟩, 14), (⟨"CoreLeasesModel", "isTenant", "(I)Z"⟩, 14), (⟨"CoreLeasesModel", "isLeased", "(I)Z"⟩, 14), (⟨"CoreLeasesModel", "of", "(II)I"⟩, 14), (⟨"CoreLeasesModel", "ofTenant", "(II)I"⟩, 14), (⟨"CoreLeasesModel", "isInsurer", "(I)Z"⟩, 14), (⟨"CoreLeasesModel", "premiumNow", "(III)I"⟩, 14), (⟨"CoreLeasesModel", "premiumBy", "(IIII)I"⟩, 14), (⟨"CoreLeasesModel", "ofInsurer", "(II)I"⟩, 14), (⟨"CoreLeasesModel", "pay", "(I)V"⟩, 14), (⟨"CoreLeasesModel", "writes", "(II)I"⟩, 14)]
theorem lw_r2 : ∀ q ∈ lw_privs_2, lw_okq q := List.forall_mem_cons.mpr ⟨lw_p16, List.forall_mem_cons.mpr ⟨lw_p17, List.forall_mem_cons.mpr ⟨lw_p18, List.forall_mem_cons.mpr ⟨lw_p19, List.forall_mem_cons.mpr ⟨lw_p20, List.forall_mem_cons.mpr ⟨lw_p21, List.forall_mem_cons.mpr ⟨lw_p22, List.forall_mem_cons.mpr ⟨lw_p23, List.forall_mem_cons.mpr ⟨lw_p24, List.forall_mem_cons.mpr ⟨lw_p25, List.forall_mem_cons.mpr ⟨lw_p26, List.forall_mem_cons.mpr ⟨lw_p27, List.forall_mem_cons.mpr ⟨lw_p28, List.forall_mem_cons.mpr ⟨lw_p29, List.forall_mem_cons.mpr ⟨lw_p30, List.forall_mem_cons.mpr ⟨lw_p31, fun _ h => absurd h List.not_mem_nil⟩⟩⟩⟩⟩⟩⟩⟩⟩⟩⟩⟩⟩⟩⟩⟩
theorem lw_p32 : lw_okq (⟨"CoreLeasesModel", "pulse", "(II)V"⟩, 14) := ⟨⟨by decide +kernel, by decide +kernel⟩, List.mem_of_getElem? (i := 975) (by decide +kernel), List.mem_of_getElem? (i := 1124) (by decide +kernel), List.mem_of_getElem? (i := 1125) (by decide +kernel)⟩
theorem lw_p33 : lw_okq (⟨"CoreLeasesModel", "worn", "(I)I"⟩, 14) := ⟨⟨by decide +kernel, by decide +kernel⟩, List.mem_of_getElem? (i := 975) (by decide +kernel), List.mem_of_getElem? (i := 1128) (by decide +kernel), List.mem_of_getElem? (i := 1129) (by decide +kernel)⟩
theorem lw_p34 : lw_okq (⟨"CoreLeasesModel", "isWeak", "(I)Z"⟩, 14) := ⟨⟨by decide +kernel, by decide +kernel⟩, List.mem_of_getElem? (i := 975) (by decide +kernel), List.mem_of_getElem? (i := 1138) (by decide +kernel), List.mem_of_getElem? (i := 1139) (by decide +kernel)⟩
theorem lw_p35 : lw_okq (⟨"CoreLeasesModel", "loses", "(I)V"⟩, 14) := ⟨⟨by decide +kernel, by decide +kernel⟩, List.mem_of_getElem? (i := 975) (by decide +kernel), List.mem_of_getElem? (i := 1142) (by decide +kernel), List.mem_of_getElem? (i := 1143) (by decide +kernel)⟩
theorem lw_p36 : lw_okq (⟨"CoreLeasesModel", "heated", "(I)I"⟩, 14) := ⟨⟨by decide +kernel, by decide +kernel⟩, List.mem_of_getElem? (i := 975) (by decide +kernel), List.mem_of_getElem? (i := 1146) (by decide +kernel), List.mem_of_getElem? (i := 1147) (by decide +kernel)⟩
theorem lw_p37 : lw_okq (⟨"CoreLeasesModel", "isOwed", "(I)Z"⟩, 14) := ⟨⟨by decide +kernel, by decide +kernel⟩, List.mem_of_getElem? (i := 975) (by decide +kernel), List.mem_of_getElem? (i := 1153) (by decide +kernel), List.mem_of_getElem? (i := 1154) (by decide +kernel)⟩
theorem lw_p38 : lw_okq (⟨"CoreLeasesModel", "canRead", "(I)Z"⟩, 14) := ⟨⟨by decide +kernel, by decide +kernel⟩, List.mem_of_getElem? (i := 975) (by decide +kernel), List.mem_of_getElem? (i := 1161) (by decide +kernel), List.mem_of_getElem? (i := 1162) (by decide +kernel)⟩
theorem lw_p39 : lw_okq (⟨"CoreLeasesModel", "reads", "(I)I"⟩, 14) := ⟨⟨by decide +kernel, by decide +kernel⟩, List.mem_of_getElem? (i := 975) (by decide +kernel), List.mem_of_getElem? (i := 1165) (by decide +kernel), List.mem_of_getElem? (i := 1166) (by decide +kernel)⟩
theorem lw_p40 : lw_okq (⟨"CoreLeasesModel", "owedMany", "()I"⟩, 14) := ⟨⟨by decide +kernel, by decide +kernel⟩, List.mem_of_getElem? (i := 975) (by decide +kernel), List.mem_of_getElem? (i := 1173) (by decide +kernel), List.mem_of_getElem? (i := 1174) (by decide +kernel)⟩
theorem lw_p41 : lw_okq (⟨"CoreLeasesModel", "writesBack", "()I"⟩, 14) := ⟨⟨by decide +kernel, by decide +kernel⟩, List.mem_of_getElem? (i := 975) (by decide +kernel), List.mem_of_getElem? (i := 1177) (by decide +kernel), List.mem_of_getElem? (i := 1178) (by decide +kernel)⟩
theorem lw_p42 : lw_okq (⟨"CoreLeasesModel", "layOwed", "()I"⟩, 14) := ⟨⟨by decide +kernel, by decide +kernel⟩, List.mem_of_getElem? (i := 975) (by decide +kernel), List.mem_of_getElem? (i := 1181) (by decide +kernel), List.mem_of_getElem? (i := 1182) (by decide +kernel)⟩
theorem lw_p43 : lw_okq (⟨"CoreLeasesModel", "comesAhead", "(II)Z"⟩, 14) := ⟨⟨by decide +kernel, by decide +kernel⟩, List.mem_of_getElem? (i := 975) (by decide +kernel), List.mem_of_getElem? (i := 1185) (by decide +kernel), List.mem_of_getElem? (i := 1186) (by decide +kernel)⟩
theorem lw_p44 : lw_okq (⟨"CoreLeasesModel", "tick", "()V"⟩, 14) := ⟨⟨by decide +kernel, by decide +kernel⟩, List.mem_of_getElem? (i := 975) (by decide +kernel), List.mem_of_getElem? (i := 1193) (by decide +kernel), List.mem_of_getElem? (i := 1194) (by decide +kernel)⟩
theorem lw_p45 : lw_okq (⟨"CoreLeasesModel", "endPolicies", "()V"⟩, 14) := ⟨⟨by decide +kernel, by decide +kernel⟩, List.mem_of_getElem? (i := 975) (by decide +kernel), List.mem_of_getElem? (i := 1197) (by decide +kernel), List.mem_of_getElem? (i := 1198) (by decide +kernel)⟩
theorem lw_p46 : lw_okq (⟨"CoreLeasesModel", "endLeases", "()V"⟩, 14) := ⟨⟨by decide +kernel, by decide +kernel⟩, List.mem_of_getElem? (i := 975) (by decide +kernel), List.mem_of_getElem? (i := 1201) (by decide +kernel), List.mem_of_getElem? (i := 1202) (by decide +kernel)⟩
theorem lw_p47 : lw_okq (⟨"CoreLeasesModel", "scan", "()I"⟩, 14) := ⟨⟨by decide +kernel, by decide +kernel⟩, List.mem_of_getElem? (i := 975) (by decide +kernel), List.mem_of_getElem? (i := 1217) (by decide +kernel), List.mem_of_getElem? (i := 1218) (by decide +kernel)⟩
def lw_privs_3 : List (MethodName × Nat) := [(⟨"CoreLeasesModel", "pulse", "(II)V"⟩, 14), (⟨"CoreLeasesModel", "worn", "(I)I"⟩, 14), (⟨"CoreLeasesModel", "isWeak", "(I)Z"⟩, 14), (⟨"CoreLeasesModel", "loses", "(I)V"⟩, 14), (⟨"CoreLeasesModel", "heated", "(I)I"⟩, 14), (⟨"CoreLeasesModel", "isOwed", "(I)Z"⟩, 14), (⟨"CoreLeasesModel", "canRead", "(I)Z"⟩, 14), (⟨"CoreLeasesModel", "reads", "(I)I"⟩, 14), (⟨"CoreLeasesModel", "owedMany", "()I"⟩, 14), (⟨"CoreLeasesModel", "writesBack", "()I"⟩, 14), (⟨"CoreLeasesModel", "layOwed", "()I"⟩, 14), (⟨"CoreLeasesModel", "comesAhead", "(II)Z"⟩, 14), (⟨"CoreLeasesModel", "tick", "()V"⟩, 14), (⟨"CoreLeasesModel", "endPolicies", "()V"⟩, 14), (⟨"CoreLeasesModel", "endLeases", "()V"⟩, 14), (⟨"CoreLeasesModel", "scan", "()I"⟩, 14)]
theorem lw_r3 : ∀ q ∈ lw_privs_3, lw_okq q := List.forall_mem_cons.mpr ⟨lw_p32, List.forall_mem_cons.mpr ⟨lw_p33, List.forall_mem_cons.mpr ⟨lw_p34, List.forall_mem_cons.mpr ⟨lw_p35, List.forall_mem_cons.mpr ⟨lw_p36, List.forall_mem_cons.mpr ⟨lw_p37, List.forall_mem_cons.mpr ⟨lw_p38, List.forall_mem_cons.mpr ⟨lw_p39, List.forall_mem_cons.mpr ⟨lw_p40, List.forall_mem_cons.mpr ⟨lw_p41, List.forall_mem_cons.mpr ⟨lw_p42, List.forall_mem_cons.mpr ⟨lw_p43, List.forall_mem_cons.mpr ⟨lw_p44, List.forall_mem_cons.mpr ⟨lw_p45, List.forall_mem_cons.mpr ⟨lw_p46, List.forall_mem_cons.mpr ⟨lw_p47, fun _ h => absurd h List.not_mem_nil⟩⟩⟩⟩⟩⟩⟩⟩⟩⟩⟩⟩⟩⟩⟩⟩
theorem lw_p48 : lw_okq (⟨"CoreLeasesModel", "takes", "(I)Z"⟩, 14) := ⟨⟨by decide +kernel, by decide +kernel⟩, List.mem_of_getElem? (i := 975) (by decide +kernel), List.mem_of_getElem? (i := 1221) (by decide +kernel), List.mem_of_getElem? (i := 1222) (by decide +kernel)⟩
theorem lw_p49 : lw_okq (⟨"CoreLeasesModel", "begins", "(I)Z"⟩, 14) := ⟨⟨by decide +kernel, by decide +kernel⟩, List.mem_of_getElem? (i := 975) (by decide +kernel), List.mem_of_getElem? (i := 1225) (by decide +kernel), List.mem_of_getElem? (i := 1226) (by decide +kernel)⟩
theorem lw_p50 : lw_okq (⟨"CoreLeasesModel", "goes", "(ZI)Z"⟩, 14) := ⟨⟨by decide +kernel, by decide +kernel⟩, List.mem_of_getElem? (i := 975) (by decide +kernel), List.mem_of_getElem? (i := 1229) (by decide +kernel), List.mem_of_getElem? (i := 1230) (by decide +kernel)⟩
theorem lw_p51 : lw_okq (⟨"CoreLeasesModel", "ends", "(Z)Z"⟩, 14) := ⟨⟨by decide +kernel, by decide +kernel⟩, List.mem_of_getElem? (i := 975) (by decide +kernel), List.mem_of_getElem? (i := 1233) (by decide +kernel), List.mem_of_getElem? (i := 1234) (by decide +kernel)⟩
theorem lw_p52 : lw_okq (⟨"CoreLeasesModel", "mayDo", "(II)Z"⟩, 14) := ⟨⟨by decide +kernel, by decide +kernel⟩, List.mem_of_getElem? (i := 975) (by decide +kernel), List.mem_of_getElem? (i := 1241) (by decide +kernel), List.mem_of_getElem? (i := 1242) (by decide +kernel)⟩
theorem lw_p53 : lw_okq (⟨"CoreLeasesModel", "does", "(I)V"⟩, 14) := ⟨⟨by decide +kernel, by decide +kernel⟩, List.mem_of_getElem? (i := 975) (by decide +kernel), List.mem_of_getElem? (i := 1245) (by decide +kernel), List.mem_of_getElem? (i := 1246) (by decide +kernel)⟩
theorem lw_p54 : lw_okq (⟨"CoreLeasesModel", "coreNow", "(II)I"⟩, 14) := ⟨⟨by decide +kernel, by decide +kernel⟩, List.mem_of_getElem? (i := 975) (by decide +kernel), List.mem_of_getElem? (i := 1257) (by decide +kernel), List.mem_of_getElem? (i := 1258) (by decide +kernel)⟩
theorem lw_p55 : lw_okq (⟨"CoreLeasesModel", "tenantNow", "(II)I"⟩, 14) := ⟨⟨by decide +kernel, by decide +kernel⟩, List.mem_of_getElem? (i := 975) (by decide +kernel), List.mem_of_getElem? (i := 1265) (by decide +kernel), List.mem_of_getElem? (i := 1266) (by decide +kernel)⟩
theorem lw_p56 : lw_okq (⟨"CoreLeasesModel", "coresOf", "(IZ)I"⟩, 14) := ⟨⟨by decide +kernel, by decide +kernel⟩, List.mem_of_getElem? (i := 975) (by decide +kernel), List.mem_of_getElem? (i := 1269) (by decide +kernel), List.mem_of_getElem? (i := 1270) (by decide +kernel)⟩
theorem lw_p57 : lw_okq (⟨"CoreLeasesModel", "waitsOf", "(I)I"⟩, 14) := ⟨⟨by decide +kernel, by decide +kernel⟩, List.mem_of_getElem? (i := 975) (by decide +kernel), List.mem_of_getElem? (i := 1273) (by decide +kernel), List.mem_of_getElem? (i := 1274) (by decide +kernel)⟩
theorem lw_p58 : lw_okq (⟨"CoreLeasesModel", "insurerNow", "(II)I"⟩, 14) := ⟨⟨by decide +kernel, by decide +kernel⟩, List.mem_of_getElem? (i := 975) (by decide +kernel), List.mem_of_getElem? (i := 1281) (by decide +kernel), List.mem_of_getElem? (i := 1282) (by decide +kernel)⟩
theorem lw_p59 : lw_okq (⟨"CoreLeasesModel", "policiesOf", "(I)I"⟩, 14) := ⟨⟨by decide +kernel, by decide +kernel⟩, List.mem_of_getElem? (i := 975) (by decide +kernel), List.mem_of_getElem? (i := 1285) (by decide +kernel), List.mem_of_getElem? (i := 1286) (by decide +kernel)⟩
theorem lw_p60 : lw_okq (⟨"CoreLeasesModel", "weakestAt", "(I)I"⟩, 14) := ⟨⟨by decide +kernel, by decide +kernel⟩, List.mem_of_getElem? (i := 975) (by decide +kernel), List.mem_of_getElem? (i := 1297) (by decide +kernel), List.mem_of_getElem? (i := 1298) (by decide +kernel)⟩
theorem lw_p61 : lw_okq (⟨"CoreLeasesModel", "counted", "(I)I"⟩, 14) := ⟨⟨by decide +kernel, by decide +kernel⟩, List.mem_of_getElem? (i := 975) (by decide +kernel), List.mem_of_getElem? (i := 1305) (by decide +kernel), List.mem_of_getElem? (i := 1306) (by decide +kernel)⟩
theorem lw_p62 : lw_okq (⟨"CoreLeasesModel", "coresWith", "(I)I"⟩, 14) := ⟨⟨by decide +kernel, by decide +kernel⟩, List.mem_of_getElem? (i := 975) (by decide +kernel), List.mem_of_getElem? (i := 1309) (by decide +kernel), List.mem_of_getElem? (i := 1310) (by decide +kernel)⟩
theorem lw_p63 : lw_okq (⟨"CoreLeasesModel", "cheapestNow", "(III)I"⟩, 14) := ⟨⟨by decide +kernel, by decide +kernel⟩, List.mem_of_getElem? (i := 975) (by decide +kernel), List.mem_of_getElem? (i := 1325) (by decide +kernel), List.mem_of_getElem? (i := 1326) (by decide +kernel)⟩
def lw_privs_4 : List (MethodName × Nat) := [(⟨"CoreLeasesModel", "takes", "(I)Z"⟩, 14), (⟨"CoreLeasesModel", "begins", "(I)Z"⟩, 14), (⟨"CoreLeasesModel", "goes", "(ZI)Z"⟩, 14), (⟨"CoreLeasesModel", "ends", "(Z)Z"⟩, 14), (⟨"CoreLeasesModel", "mayDo", "(II)Z"⟩, 14), (⟨"CoreLeasesModel", "does", "(I)V"⟩, 14), (⟨"CoreLeasesModel", "coreNow", "(II)I"⟩, 14), (⟨"CoreLeasesModel", "tenantNow", "(II)I"⟩, 14), (⟨"CoreLeasesModel", "coresOf", "(IZ)I"⟩, 14), (⟨"CoreLeasesModel", "waitsOf", "(I)I"⟩, 14), (⟨"CoreLeasesModel", "insurerNow", "(II)I"⟩, 14), (⟨"CoreLeasesModel", "policiesOf", "(I)I"⟩, 14), (⟨"CoreLeasesModel", "weakestAt", "(I)I"⟩, 14), (⟨"CoreLeasesModel", "counted", "(I)I"⟩, 14), (⟨"CoreLeasesModel", "coresWith", "(I)I"⟩, 14), (⟨"CoreLeasesModel", "cheapestNow", "(III)I"⟩, 14)]
theorem lw_r4 : ∀ q ∈ lw_privs_4, lw_okq q := List.forall_mem_cons.mpr ⟨lw_p48, List.forall_mem_cons.mpr ⟨lw_p49, List.forall_mem_cons.mpr ⟨lw_p50, List.forall_mem_cons.mpr ⟨lw_p51, List.forall_mem_cons.mpr ⟨lw_p52, List.forall_mem_cons.mpr ⟨lw_p53, List.forall_mem_cons.mpr ⟨lw_p54, List.forall_mem_cons.mpr ⟨lw_p55, List.forall_mem_cons.mpr ⟨lw_p56, List.forall_mem_cons.mpr ⟨lw_p57, List.forall_mem_cons.mpr ⟨lw_p58, List.forall_mem_cons.mpr ⟨lw_p59, List.forall_mem_cons.mpr ⟨lw_p60, List.forall_mem_cons.mpr ⟨lw_p61, List.forall_mem_cons.mpr ⟨lw_p62, List.forall_mem_cons.mpr ⟨lw_p63, fun _ h => absurd h List.not_mem_nil⟩⟩⟩⟩⟩⟩⟩⟩⟩⟩⟩⟩⟩⟩⟩⟩
theorem lw_p64 : lw_okq (⟨"CoreLeasesModel", "waitNow", "(IIII)I"⟩, 14) := ⟨⟨by decide +kernel, by decide +kernel⟩, List.mem_of_getElem? (i := 975) (by decide +kernel), List.mem_of_getElem? (i := 1333) (by decide +kernel), List.mem_of_getElem? (i := 1334) (by decide +kernel)⟩
theorem lw_p65 : lw_okq (⟨"CoreLeasesModel", "readNow", "(II)I"⟩, 14) := ⟨⟨by decide +kernel, by decide +kernel⟩, List.mem_of_getElem? (i := 975) (by decide +kernel), List.mem_of_getElem? (i := 1341) (by decide +kernel), List.mem_of_getElem? (i := 1342) (by decide +kernel)⟩
theorem lw_p66 : lw_okq (⟨"CoreLeasesModel", "disturbs", "(II)I"⟩, 14) := ⟨⟨by decide +kernel, by decide +kernel⟩, List.mem_of_getElem? (i := 975) (by decide +kernel), List.mem_of_getElem? (i := 1345) (by decide +kernel), List.mem_of_getElem? (i := 1346) (by decide +kernel)⟩
theorem lw_p67 : lw_okq (⟨"CoreLeasesModel", "gentlestNow", "()I"⟩, 14) := ⟨⟨by decide +kernel, by decide +kernel⟩, List.mem_of_getElem? (i := 975) (by decide +kernel), List.mem_of_getElem? (i := 1353) (by decide +kernel), List.mem_of_getElem? (i := 1354) (by decide +kernel)⟩
theorem lw_p68 : lw_okq (⟨"CoreLeasesModel", "isGentler", "(II)Z"⟩, 14) := ⟨⟨by decide +kernel, by decide +kernel⟩, List.mem_of_getElem? (i := 975) (by decide +kernel), List.mem_of_getElem? (i := 1357) (by decide +kernel), List.mem_of_getElem? (i := 1358) (by decide +kernel)⟩
theorem lw_p69 : lw_okq (⟨"CoreLeasesModel", "savableNow", "(I)I"⟩, 14) := ⟨⟨by decide +kernel, by decide +kernel⟩, List.mem_of_getElem? (i := 975) (by decide +kernel), List.mem_of_getElem? (i := 1365) (by decide +kernel), List.mem_of_getElem? (i := 1366) (by decide +kernel)⟩
theorem lw_p70 : lw_okq (⟨"CoreLeasesModel", "keep", "()V"⟩, 14) := ⟨⟨by decide +kernel, by decide +kernel⟩, List.mem_of_getElem? (i := 975) (by decide +kernel), List.mem_of_getElem? (i := 1369) (by decide +kernel), List.mem_of_getElem? (i := 1370) (by decide +kernel)⟩
theorem lw_p71 : lw_okq (⟨"CoreLeasesModel", "bring", "()V"⟩, 14) := ⟨⟨by decide +kernel, by decide +kernel⟩, List.mem_of_getElem? (i := 975) (by decide +kernel), List.mem_of_getElem? (i := 1373) (by decide +kernel), List.mem_of_getElem? (i := 1374) (by decide +kernel)⟩
theorem lw_p72 : lw_okq (⟨"CoreLeasesModel", "riskNow", "(I)I"⟩, 14) := ⟨⟨by decide +kernel, by decide +kernel⟩, List.mem_of_getElem? (i := 975) (by decide +kernel), List.mem_of_getElem? (i := 1381) (by decide +kernel), List.mem_of_getElem? (i := 1382) (by decide +kernel)⟩
theorem lw_p73 : lw_okq (⟨"CoreLeasesModel", "backNow", "()D"⟩, 14) := ⟨⟨by decide +kernel, by decide +kernel⟩, List.mem_of_getElem? (i := 975) (by decide +kernel), List.mem_of_getElem? (i := 1389) (by decide +kernel), List.mem_of_getElem? (i := 1390) (by decide +kernel)⟩
theorem lw_p74 : lw_okq (⟨"CoreLeasesModel", "mix", "(J)V"⟩, 14) := ⟨⟨by decide +kernel, by decide +kernel⟩, List.mem_of_getElem? (i := 975) (by decide +kernel), List.mem_of_getElem? (i := 1398) (by decide +kernel), List.mem_of_getElem? (i := 1399) (by decide +kernel)⟩
theorem lw_p75 : lw_okq (⟨"CoreLeasesModel", "mixPeople", "()V"⟩, 14) := ⟨⟨by decide +kernel, by decide +kernel⟩, List.mem_of_getElem? (i := 975) (by decide +kernel), List.mem_of_getElem? (i := 1403) (by decide +kernel), List.mem_of_getElem? (i := 1404) (by decide +kernel)⟩
theorem lw_p76 : lw_okq (⟨"CoreLeasesModel", "mixAhead", "()V"⟩, 14) := ⟨⟨by decide +kernel, by decide +kernel⟩, List.mem_of_getElem? (i := 975) (by decide +kernel), List.mem_of_getElem? (i := 1407) (by decide +kernel), List.mem_of_getElem? (i := 1408) (by decide +kernel)⟩
def lw_privs_5 : List (MethodName × Nat) := [(⟨"CoreLeasesModel", "waitNow", "(IIII)I"⟩, 14), (⟨"CoreLeasesModel", "readNow", "(II)I"⟩, 14), (⟨"CoreLeasesModel", "disturbs", "(II)I"⟩, 14), (⟨"CoreLeasesModel", "gentlestNow", "()I"⟩, 14), (⟨"CoreLeasesModel", "isGentler", "(II)Z"⟩, 14), (⟨"CoreLeasesModel", "savableNow", "(I)I"⟩, 14), (⟨"CoreLeasesModel", "keep", "()V"⟩, 14), (⟨"CoreLeasesModel", "bring", "()V"⟩, 14), (⟨"CoreLeasesModel", "riskNow", "(I)I"⟩, 14), (⟨"CoreLeasesModel", "backNow", "()D"⟩, 14), (⟨"CoreLeasesModel", "mix", "(J)V"⟩, 14), (⟨"CoreLeasesModel", "mixPeople", "()V"⟩, 14), (⟨"CoreLeasesModel", "mixAhead", "()V"⟩, 14)]
theorem lw_r5 : ∀ q ∈ lw_privs_5, lw_okq q := List.forall_mem_cons.mpr ⟨lw_p64, List.forall_mem_cons.mpr ⟨lw_p65, List.forall_mem_cons.mpr ⟨lw_p66, List.forall_mem_cons.mpr ⟨lw_p67, List.forall_mem_cons.mpr ⟨lw_p68, List.forall_mem_cons.mpr ⟨lw_p69, List.forall_mem_cons.mpr ⟨lw_p70, List.forall_mem_cons.mpr ⟨lw_p71, List.forall_mem_cons.mpr ⟨lw_p72, List.forall_mem_cons.mpr ⟨lw_p73, List.forall_mem_cons.mpr ⟨lw_p74, List.forall_mem_cons.mpr ⟨lw_p75, List.forall_mem_cons.mpr ⟨lw_p76, fun _ h => absurd h List.not_mem_nil⟩⟩⟩⟩⟩⟩⟩⟩⟩⟩⟩⟩⟩
def lw_privs : List (MethodName × Nat) := lw_privs_1 ++ (lw_privs_2 ++ (lw_privs_3 ++ (lw_privs_4 ++ (lw_privs_5))))
def lw_tbl : List Cond := k2_sels lw_privs ++ tables_1
theorem lw_privs_ok : ∀ q ∈ lw_privs, lw_okq q := by
  show ∀ q ∈ lw_privs_1 ++ (lw_privs_2 ++ (lw_privs_3 ++ (lw_privs_4 ++ (lw_privs_5)))), lw_okq q
  exact List.forall_mem_append.mpr ⟨lw_r1, List.forall_mem_append.mpr ⟨lw_r2, List.forall_mem_append.mpr ⟨lw_r3, List.forall_mem_append.mpr ⟨lw_r4, lw_r5⟩⟩⟩⟩
/-- the streams that the claim lets the run draw from -/
abbrev lw_cs : List Choice := [Jvm.Choice.named "NaN.bits"]
theorem lw_bits : nanBits ∈ lw_cs := by first | decide | exact List.mem_cons_self | simp [lw_cs, nanBits]
end
section
/-! ===== BEGIN words of one list among another's, by their places ===== -/
theorem goodIn_r {big : List Cond} (ws : List Cond) (ps : List Nat) (hp : ws = ps.filterMap (fun i => big[i]?)) (h : ws.all goodWord = true) : GoodIn big ws := by
  intro w hw
  have h1 := List.all_eq_true.mp h w hw
  rw [hp] at hw
  obtain ⟨i, -, hi⟩ := List.mem_filterMap.mp hw
  have hm : w ∈ big := by first | exact List.mem_of_getElem? hi | exact List.getElem?_mem hi
  exact ⟨hm, good_of_word h1⟩
theorem goodIn_app {big a b : List Cond} (ha : GoodIn big a) (hb : GoodIn big b) : GoodIn big (a ++ b) := fun w h => (List.mem_append.mp h).elim (ha w) (hb w)
theorem goodIn_ca {big a b : List Cond} {c : Cond} (ha : GoodIn big (c :: a)) (hb : GoodIn big b) : GoodIn big (c :: (a ++ b)) := fun w h => (List.mem_cons.mp h).elim (fun e => ha w (List.mem_cons.mpr (Or.inl e))) (fun h => (List.mem_append.mp h).elim (fun h => ha w (List.mem_cons.mpr (Or.inr h))) (hb w))
theorem goodIn_sub {big ws : List Cond} (hm : ∀ w ∈ ws, w ∈ big) (h : ws.all goodWord = true) : GoodIn big ws := fun w hw => ⟨hm w hw, good_of_word (List.all_eq_true.mp h w hw)⟩
/-! ===== END ===== -/

/-! ===== BEGIN exceptions that leave a method, and their catching by the caller (launches without stack traces) ===== -/
section VXA
/-! The laws vx_back, vx_callV, vx_callS, vx_callSW, vx_throw0, vx_throwS follow proofs of the library, with one case more: JvmDerived/Free/Laws.lean (Back.of_free), Shelf42/LK1.lean (callV, callS), Shelf/KitTraced.lean (throwNew0V, throwNewS). -/
/-- where a method has thrown q: the class by its name, the cell, what was written, the world -/
def vx_T (XC : String → State → State → Prop) (st : State) (q : Addr) (t : State) (mc ms : Nat) (free : Addr → Prop) : Prop :=
  ∃ (E : String) (ce : Cell) (L : List Loc), XC E st t ∧ t.heap[q]? = some ce ∧ ce.vm = .none ∧ st.vm.findClass E = some ce.cls ∧ st.WarmedH t.vm ∧ st.sameButNew ({ t with vm := st.vm } : State) L mc ms ∧ ∀ z ∈ L, free z.base
def vx_Q (Qc : Array Value → State → Outcome → State → Prop) (XC : String → State → State → Prop) (mc ms : Nat) (free : Addr → Prop) : Array Value → State → Outcome → State → Prop := fun a st o t =>
  (Qc a st o t ∧ ∃ L, FrameEnd st o t L mc ms ∧ ∀ q ∈ L, free q.base) ∨ ∃ q, o = .threw q ∧ vx_T XC st q t mc ms free
/-- a callee that returns or throws -/
def vx_Met (l : Launch) (y : MethodName) (ws : List Cond) (rm : Room) (Pc : Array Value → State → Prop) (Qc : Array Value → State → Outcome → State → Prop) (XC : String → State → State → Prop) (mc ms : Nat) (free : Addr → Prop) : Prop :=
  MetFree l y (headSpec ws rm) Pc (fun _ _ _ _ _ => True) (vx_Q Qc XC mc ms free)
def vx_Post (XC : String → State → State → Prop) (mc ms : Nat) (free : Addr → Prop) : Pt → Array Value → Addr → Pt → Prop := fun A a q B =>
  ∃ (g : JFrame) (mk : MethodId) (t : State) (L : List Loc) (E : String) (ce : Cell), B.U.heap = t.heap ∧ B.U.vm = t.vm ∧ XC E (A.U.calling g mk a) t ∧ t.heap[q]? = some ce ∧ ce.vm = .none ∧ A.U.vm.findClass E = some ce.cls ∧ B.locs = A.locs ++ L ∧ (∀ z ∈ L, free z.base) ∧ B.cells = A.cells + mc ∧ B.slots = A.slots + ms
def vx_Back (l : Launch) (R : Room) (p : Program) (e : Env) (below : List Frame) (s : State) (sargs : Array Value) (y : MethodName) (len W9 : Nat)
    (Pre : Pt → Array Value → Prop) (Post : Pt → Array Value → Option Value → Pt → Prop) (PostX : Pt → Array Value → Addr → Pt → Prop) : Prop :=
  ∀ (m : MethodId) (meth : Method) (c : Code) (A : Pt) (g : JFrame) (ig : Instr) (mk : MethodId) (a : Array Value),
    Stand p l e R s m sargs below meth c A.U A.locs A.cells A.slots → g.method = m → g.locals.size = c.maxLocals → decode c.code g.pc = .ok (ig, len) →
    2 * g.monitorRoom + (g.stack.map fun v => v.category).sum ≤ W9 → A.U.methodNamed? y = some mk → Pre A a →
    (∃ (v : Option Value) (B : Pt), Stand p l e R s m sargs below meth c B.U B.locs B.cells B.slots ∧ Post A a v B ∧
      Steps p.tables e below (doInvoke e (A.U.setTop g) [] mk a).1 (B.U.setTop { g with pc := g.pc + len, stack := v.toList ++ g.stack })) ∨
    (∃ (q : Addr) (B : Pt), Stand p l e R s m sargs below meth c B.U B.locs B.cells B.slots ∧ PostX A a q B ∧
      Steps p.tables e below (doInvoke e (A.U.setTop g) [] mk a).1 ((B.U.setTop g).pushFrame (.throwing q)))
section Payer
variable {l : Launch} {R : Room} {p : Program} {e : Env} {below : List Frame} {s : State} {sargs : Array Value} {y : MethodName} {len W9 : Nat}
theorem vx_back {ws : List Cond} {rm : Room} {Pc : Array Value → State → Prop} {Qc : Array Value → State → Outcome → State → Prop} {XC : String → State → State → Prop} {mc ms : Nat} {free : Addr → Prop} {bytes : ByteArray} {maxL : Nat} {ret : Option FieldType}
    (hM : vx_Met l y ws rm Pc Qc XC mc ms free) (hblind : FrameBlind Pc) (hrc : rm.cells = mc) (hrs : rm.slots = ms)
    (hframes : rm.frames + 1 ≤ R.frames) (hlocals : W9 + (maxL + 11) + rm.locals ≤ R.locals)
    (hws : ∀ w ∈ ws, ∀ a' U, s.WarmedH U.vm → w.before a' U = true) (hcode : Cond.code y bytes maxL ret ∈ ws) (hinit : ∀ a' U, s.WarmedH U.vm → (Cond.initialized y.cls).before a' U = true) :
    vx_Back l R p e below s sargs y len W9 (PreOf R mc ms Pc) (PostOf Qc mc ms free) (vx_Post XC mc ms free) := by
  intro m meth c A g ig mk a X hg hsize hdg hW hn hp
  have h1 : (headSpec ws rm).pre.before a A.U = true := atoms_intro fun w hw => hws w hw _ _ X.warmed
  have h2 : (Cond.code y bytes maxL ret).before a A.U = true := hws _ hcode _ _ X.warmed
  have h3 : (Cond.initialized y.cls).before a A.U = true := hinit _ _ X.warmed
  have h4 : A.cells + (headSpec ws rm).room.cells ≤ R.cells := by rw [show (headSpec ws rm).room.cells = mc from hrc]; exact hp.1
  have h5 : A.slots + (headSpec ws rm).room.slots ≤ R.slots := by rw [show (headSpec ws rm).room.slots = ms from hrs]; exact hp.2.1
  have hPc : Pc a (A.U.calling g mk a) := hblind _ _ _ _ hp.2.2
  obtain ⟨U, Ls, c0, s0⟩ := A
  dsimp only [Pt.U, Pt.locs, Pt.cells, Pt.slots] at h1 h2 h3 h4 h5 X hn hPc ⊢
  obtain ⟨methY, cY, hmY, hcY, -, hlY, -, -, -, -⟩ := Cond.code_spec hn h2
  obtain ⟨kY, hkY, -⟩ := className_of_methodNamed hn
  have hinitY : kY.init = .initialized := Cond.initialized_spec (findClass_of_methodNamed hn) hkY h3
  have h : At U g.method c below := by rw [hg]; exact X.here
  have hlocals9 : W9 + (maxL + 11) + (headSpec ws rm).room.locals ≤ R.locals := hlocals
  have happ : (headSpec ws rm).appliesLoose y e.platform (U.calling g mk a) = true :=
    Spec.appliesLoose_calling (g := g) h hdg hn hkY hinitY
      (X.room_calling (g := g) (R' := (headSpec ws rm).room) hsize hmY hcY hframes (by rw [hlY]; omega) h4 h5) h1
  obtain ⟨mid, hmid⟩ := h.above
  have hfr : (U.setTop g).frames = (.java g :: mid) ++ below := by rw [State.frames_setTop' g h.top, hmid]; rfl
  obtain ⟨o, s₂, hsteps, -, hend, hq⟩ := Steps.callFree hM p X.admits X.cas X.clock (acts := []) hfr happ hPc trivial
  have hq' : vx_Q Qc XC mc ms free a (U.calling g mk a) o s₂ := hq
  rw [State.frames_setTop' g h.top] at hend
  obtain ⟨g₀, hg0⟩ := Option.isSome_iff_exists.mp h.top
  obtain ⟨r, hr⟩ := State.topJava?_eq_some.mp hg0
  have hr' : (({ U with heap := s₂.heap, slotsUsed := s₂.slotsUsed } : State).setVm s₂.vm).frames = .java g₀ :: r := hr
  rcases hq' with ⟨hqc, L, hfe, hL⟩ | ⟨q, rfl, E, ce, L, hx, hce, hcv, hcl, hW₂, hsm, hL⟩
  · obtain ⟨⟨v, rfl⟩, hW₂, e2, q2, q3, q4, q5, q6⟩ := id hfe
    have e3 : s₂ = ({ (U.calling g mk a).setFrames s₂.frames with heap := s₂.heap, slotsUsed := s₂.slotsUsed } : State).setVm s₂.vm := by
      have : s₂ = ({ s₂ with vm := (U.calling g mk a).vm } : State).setVm s₂.vm := rfl
      rw [e2] at this
      exact this
    obtain ⟨c₂, i₂, len₂, hc₂, hd₂, hf₂⟩ := hend
    have hW' : U.WarmedH s₂.vm := hW₂
    have hcc : c₂ = c := by
      have h1 : s₂.code? g.method = U.code? g.method := by
        rw [State.code?_eq, State.code?_eq, hW'.alike.method?]
      exact Option.some.inj (hc₂.symm.trans (h1.trans h.code))
    subst hcc
    have hlen : len₂ = len := by rw [hdg] at hd₂; cases hd₂; rfl
    subst hlen
    have hs₂ : s₂ = (({ U with heap := s₂.heap, slotsUsed := s₂.slotsUsed } : State).setVm s₂.vm).setTop { g with pc := g.pc + len₂, stack := v.toList ++ g.stack } := by
      refine e3.trans ?_
      rw [hf₂, State.calling_eq h.top, State.setFrames_setFrames, State.setTop_of_frames _ hr', hr]
      rfl
    have hsame : U.sameButNew ({ U with heap := s₂.heap, slotsUsed := s₂.slotsUsed } : State) L mc ms := by
      refine ⟨?_, q2, q3, q4, q5, q6⟩
      obtain ⟨t, ht, -⟩ := State.frames_cons hr
      show ({ U with heap := s₂.heap, slotsUsed := s₂.slotsUsed } : State) = { U.setFrames U.frames with heap := s₂.heap, slotsUsed := s₂.slotsUsed }
      rw [State.setFrames_self ht]
    subst hg
    refine Or.inl ⟨v, ⟨(({ U with heap := s₂.heap, slotsUsed := s₂.slotsUsed } : State).setVm s₂.vm), Ls ++ L, c0 + mc, s0 + ms⟩,
      ⟨X.admits, X.cas, X.clock, X.frames, X.room, X.hears, X.method, X.code, (X.here.setHeapUsed s₂.heap s₂.slotsUsed).setVm hW'.alike, X.tail, State.WarmedH.trans X.warmed hW', X.limits, X.bytes, X.same.trans (hsame.setVm s.vm)⟩,
      ⟨g, mk, s₂, L, rfl, rfl, hqc, rfl, hL, rfl, rfl⟩, ?_⟩
    show Steps p.tables e below _ ((({ U with heap := s₂.heap, slotsUsed := s₂.slotsUsed } : State).setVm s₂.vm).setTop { g with pc := g.pc + len₂, stack := v.toList ++ g.stack })
    rw [← hs₂]
    exact hsteps
  · obtain ⟨e2, q2, q3, q4, q5, q6⟩ := id hsm
    have e3 : s₂ = ({ (U.calling g mk a).setFrames s₂.frames with heap := s₂.heap, slotsUsed := s₂.slotsUsed } : State).setVm s₂.vm := by
      have : s₂ = ({ s₂ with vm := (U.calling g mk a).vm } : State).setVm s₂.vm := rfl
      rw [e2] at this
      exact this
    have hf₂ : s₂.frames = .throwing q :: .java g :: U.frames.tail := hend
    have hW' : U.WarmedH s₂.vm := hW₂
    have hs₂ : s₂ = ((({ U with heap := s₂.heap, slotsUsed := s₂.slotsUsed } : State).setVm s₂.vm).setTop g).pushFrame (.throwing q) := by
      refine e3.trans ?_
      rw [hf₂, State.calling_eq h.top, State.setFrames_setFrames, State.pushFrame, State.frames_setTop _ hr', State.setTop_of_frames _ hr', State.setFrames_setFrames, hr]
      rfl
    have hsame : U.sameButNew ({ U with heap := s₂.heap, slotsUsed := s₂.slotsUsed } : State) L mc ms := by
      refine ⟨?_, q2, q3, q4, q5, q6⟩
      obtain ⟨t, ht, -⟩ := State.frames_cons hr
      show ({ U with heap := s₂.heap, slotsUsed := s₂.slotsUsed } : State) = { U.setFrames U.frames with heap := s₂.heap, slotsUsed := s₂.slotsUsed }
      rw [State.setFrames_self ht]
    subst hg
    refine Or.inr ⟨q, ⟨(({ U with heap := s₂.heap, slotsUsed := s₂.slotsUsed } : State).setVm s₂.vm), Ls ++ L, c0 + mc, s0 + ms⟩,
      ⟨X.admits, X.cas, X.clock, X.frames, X.room, X.hears, X.method, X.code, (X.here.setHeapUsed s₂.heap s₂.slotsUsed).setVm hW'.alike, X.tail, State.WarmedH.trans X.warmed hW', X.limits, X.bytes, X.same.trans (hsame.setVm s.vm)⟩,
      ⟨g, mk, s₂, L, E, ce, rfl, rfl, hx, hce, hcv, hcl, rfl, hL, rfl, rfl⟩, ?_⟩
    show Steps p.tables e below _ (((({ U with heap := s₂.heap, slotsUsed := s₂.slotsUsed } : State).setVm s₂.vm).setTop g).pushFrame (.throwing q))
    rw [← hs₂]
    exact hsteps
end Payer
section Calls
variable {p : Program} {l : Launch} {e : Env} {R : Room} {s : State} {m : MethodId} {args : Array Value} {below : List Frame} {meth : Method} {c : Code} {T : State} {locs : List Loc} {cells slots : Nat}
theorem vx_callV (X : Stand p l e R s m args below meth c T locs cells slots) (hexec : p.tables.exec = Jvm.exec) {own C : String} {index : Nat} {y : MethodName} {bytes : ByteArray} {maxL : Nat} {ret : Option FieldType}
    (hown : s.vm.findClass own = some m.cls) (hlink : (Cond.methodLink own index y).before args s = true) (hinst : (Cond.instanceMethod y).before args s = true) (hsel : (Cond.selects C y y).before args s = true)
    (hcode : (Cond.code y bytes maxL ret).before args s = true) (hy : y.cls ≠ "java/lang/invoke/MethodHandle" ∧ y.cls ≠ "java/lang/invoke/VarHandle")
    {W9 : Nat} {Pre : Pt → Array Value → Prop} {Post : Pt → Array Value → Option Value → Pt → Prop} {PostX : Pt → Array Value → Addr → Pt → Prop} (hK : vx_Back l R p e below s args y 3 W9 Pre Post PostX)
    {b : Addr} {cellB : Cell} (hcell : T.heap[b]? = some cellB) (hobj : cellB.vm.isStatics = false) (hcls : s.vm.findClass C = some cellB.cls)
    {g : JFrame} (hg : g.method = m) (hsize : g.locals.size = c.maxLocals) {argsL rest : List Value} (hlen : ∀ sig, parseMethodDescriptor y.desc = some sig → argsL.length = sig.parameters.length)
    (hstack : g.stack = argsL.reverse ++ .ref b :: rest) (hW : 2 * g.monitorRoom + (rest.map fun v => v.category).sum ≤ W9) (hdg : decode c.code g.pc = .ok (.invokevirtual index, 3))
    (hpre : ∀ vm₁, s.WarmedH vm₁ → Pre ⟨T.setVm vm₁, locs, cells, slots⟩ (Value.ref b :: argsL).toArray) :
    (∃ (v : Option Value) (vm₁ : Vm) (B : Pt), s.WarmedH vm₁ ∧ Stand p l e R s m args below meth c B.U B.locs B.cells B.slots ∧ Post ⟨T.setVm vm₁, locs, cells, slots⟩ (Value.ref b :: argsL).toArray v B ∧
      ∀ target, Steps p.tables e below (B.U.setTop { g with pc := g.pc + 3, stack := v.toList ++ rest }) target → Steps p.tables e below (T.setTop g) target) ∨
    (∃ (q : Addr) (vm₁ : Vm) (B : Pt), s.WarmedH vm₁ ∧ Stand p l e R s m args below meth c B.U B.locs B.cells B.slots ∧ PostX ⟨T.setVm vm₁, locs, cells, slots⟩ (Value.ref b :: argsL).toArray q B ∧
      Steps p.tables e below (T.setTop g) ((B.U.setTop { g with stack := rest }).pushFrame (.throwing q))) := by
  obtain ⟨mk, methM, hnamed, hmethM, hstM, habM⟩ := Cond.instanceMethod_spec hinst
  obtain ⟨methM', cM, hmethM', -, -, -, -, -, -, hsigM⟩ := Cond.code_spec hnamed hcode
  cases hmethM.symm.trans hmethM'
  obtain ⟨c2, r2, m2, q1, q2, q3, q4, kP, hkP, hkPi⟩ := Cond.selects_spec hsel
  cases hcls.symm.trans q1
  cases (State.methodFound?_of_named hnamed hy).symm.trans q2
  cases hnamed.symm.trans q3
  have hselP : selectMethod e.platform s.vm cellB.cls mk = .method mk := by rw [Launch.admits_selectMethod X.admits]; exact q4
  obtain ⟨vm₁, X₁, hstep₁⟩ := X.invokevirtual hexec hown hlink hnamed hmethM hstM hkP hkPi hy (a := b) (cell := cellB) hcell
    (fun z h => by rw [h] at hobj; cases hobj) hselP hmethM habM hkP hkPi (g := g) hg (argsL := argsL) (rest := rest) (hlen _ hsigM) hstack hdg
  rcases hK m meth c ⟨T.setVm vm₁, locs, cells, slots⟩ { g with stack := rest } (.invokevirtual index) mk (Value.ref b :: argsL).toArray X₁ hg hsize hdg hW (X₁.named hnamed) (hpre vm₁ X₁.warmed) with ⟨v, B, X', hpost, hsteps⟩ | ⟨q, B, X', hpost, hsteps⟩
  · exact Or.inl ⟨v, vm₁, B, X₁.warmed, X', hpost, fun target h => hstep₁ _ fun acts => by rw [doInvoke_state]; exact hsteps.trans h⟩
  · exact Or.inr ⟨q, vm₁, B, X₁.warmed, X', hpost, hstep₁ _ fun acts => by rw [doInvoke_state]; exact hsteps⟩
theorem vx_callS (X : Stand p l e R s m args below meth c T locs cells slots) (hexec : p.tables.exec = Jvm.exec) {own : String} {index : Nat} {y : MethodName} {bytes : ByteArray} {maxL : Nat} {ret : Option FieldType}
    (hown : s.vm.findClass own = some m.cls) (hlink : (Cond.methodLink own index y).before args s = true) (hstat : (Cond.static y).before args s = true) (hinit : (Cond.initialized y.cls).before args s = true)
    (hcode : (Cond.code y bytes maxL ret).before args s = true) (hy : y.cls ≠ "java/lang/invoke/MethodHandle" ∧ y.cls ≠ "java/lang/invoke/VarHandle")
    {W9 : Nat} {Pre : Pt → Array Value → Prop} {Post : Pt → Array Value → Option Value → Pt → Prop} {PostX : Pt → Array Value → Addr → Pt → Prop} (hK : vx_Back l R p e below s args y 3 W9 Pre Post PostX)
    {g : JFrame} (hg : g.method = m) (hsize : g.locals.size = c.maxLocals) {argsL rest : List Value} (hlen : ∀ sig, parseMethodDescriptor y.desc = some sig → argsL.length = sig.parameters.length)
    (hstack : g.stack = argsL.reverse ++ rest) (hW : 2 * g.monitorRoom + (rest.map fun v => v.category).sum ≤ W9) (hdg : decode c.code g.pc = .ok (.invokestatic index, 3))
    (hpre : ∀ vm₁, s.WarmedH vm₁ → Pre ⟨T.setVm vm₁, locs, cells, slots⟩ argsL.toArray) :
    (∃ (v : Option Value) (vm₁ : Vm) (B : Pt), s.WarmedH vm₁ ∧ Stand p l e R s m args below meth c B.U B.locs B.cells B.slots ∧ Post ⟨T.setVm vm₁, locs, cells, slots⟩ argsL.toArray v B ∧
      ∀ target, Steps p.tables e below (B.U.setTop { g with pc := g.pc + 3, stack := v.toList ++ rest }) target → Steps p.tables e below (T.setTop g) target) ∨
    (∃ (q : Addr) (vm₁ : Vm) (B : Pt), s.WarmedH vm₁ ∧ Stand p l e R s m args below meth c B.U B.locs B.cells B.slots ∧ PostX ⟨T.setVm vm₁, locs, cells, slots⟩ argsL.toArray q B ∧
      Steps p.tables e below (T.setTop g) ((B.U.setTop { g with stack := rest }).pushFrame (.throwing q))) := by
  obtain ⟨mk, hnamed⟩ := Cond.code_named hcode
  obtain ⟨methM, cM, hmethM, -, -, -, -, -, -, hsigM⟩ := Cond.code_spec hnamed hcode
  have hstatic : methM.isStatic = true := Cond.static_spec hnamed hmethM hstat
  obtain ⟨kP, hkP, -⟩ := className_of_methodNamed hnamed
  have hinitP : kP.init = .initialized := Cond.initialized_spec (findClass_of_methodNamed hnamed) hkP hinit
  obtain ⟨vm₁, X₁, hstep₁⟩ := X.invokestatic hexec hown hlink hnamed hmethM hstatic hkP hinitP hy (g := g) hg (argsL := argsL) (rest := rest) (hlen _ hsigM) hstack hdg
  rcases hK m meth c ⟨T.setVm vm₁, locs, cells, slots⟩ { g with stack := rest } (.invokestatic index) mk argsL.toArray X₁ hg hsize hdg hW (X₁.named hnamed) (hpre vm₁ X₁.warmed) with ⟨v, B, X', hpost, hsteps⟩ | ⟨q, B, X', hpost, hsteps⟩
  · exact Or.inl ⟨v, vm₁, B, X₁.warmed, X', hpost, fun target h => hstep₁ _ fun acts => by rw [doInvoke_state]; exact hsteps.trans h⟩
  · exact Or.inr ⟨q, vm₁, B, X₁.warmed, X', hpost, hstep₁ _ fun acts => by rw [doInvoke_state]; exact hsteps⟩
end Calls
theorem vx_cls {s : State} {T : State} {vm₁ : Vm} {E : String} {k : ClassId} (hW : s.WarmedH vm₁) (h : (T.setVm vm₁).vm.findClass E = some k) : s.vm.findClass E = some k := by
  have h1 : vm₁.findClass E = some k := h
  rw [hW.alike.findClass] at h1
  exact h1
/-- the method's frame g, with q thrown over it -/
def vx_W (p : Program) (l : Launch) (e : Env) (R : Room) (s : State) (m : MethodId) (args : Array Value) (below : List Frame) (meth : Method) (c : Code) (H : Heap) (locs : List Loc) (cells slots : Nat) (Q : State → Prop) (g : JFrame) (q : Addr) : Prop :=
  ∀ T : State, T.heap = H → Stand p l e R s m args below meth c T locs cells slots → ∃ t, Steps p.tables e below ((T.setTop g).pushFrame (.throwing q)) t ∧ Q t
def vx_Run (p : Program) (l : Launch) (e : Env) (R : Room) (s : State) (m : MethodId) (args : Array Value) (below : List Frame) (meth : Method) (c : Code) (H : Heap) (locs : List Loc) (cells slots mc ms : Nat) (g : JFrame) (rest : List Value) (Qa : State → Outcome → State → Prop) (XC : String → State → State → Prop) (free : Addr → Prop) : Prop :=
  ∀ T : State, T.heap = H → Stand p l e R s m args below meth c T locs cells slots →
    (∃ (v : Option Value) (st₀ t T' : State) (L : List Loc), st₀.heap = H ∧ Stand p l e R s m args below meth c T' (locs ++ L) (cells + mc) (slots + ms) ∧ (∀ q ∈ L, free q.base) ∧ T'.heap = t.heap ∧ T'.vm = t.vm ∧ Qa st₀ (.returned v) t ∧
      Goes p e below T g T' { g with pc := g.pc + 3, stack := v.toList ++ rest }) ∨
    (∃ (q : Addr) (st₀ t T' : State) (L : List Loc) (E : String) (ce : Cell), st₀.heap = H ∧ Stand p l e R s m args below meth c T' (locs ++ L) (cells + mc) (slots + ms) ∧ (∀ z ∈ L, free z.base) ∧ T'.heap = t.heap ∧ T'.vm = t.vm ∧ XC E st₀ t ∧ t.heap[q]? = some ce ∧ ce.vm = .none ∧ s.vm.findClass E = some ce.cls ∧
      Steps p.tables e below (T.setTop g) ((T'.setTop { g with stack := rest }).pushFrame (.throwing q)))
def vx_X {S : Type} (px : S → Prop) (B : String → S → State → Prop) (A : Nat → Prop) : String → State → State → Prop := fun E st t => ∃ u : S, px u ∧ B E u t ∧ va_F A st t
section Runs
variable {p : Program} {l : Launch} {e : Env} {R : Room} {s : State} {m : MethodId} {args : Array Value} {below : List Frame} {meth : Method} {c : Code} {H : Heap} {locs : List Loc} {cells slots : Nat}
variable {y : MethodName} {bytes cc : ByteArray} {maxL nL mc ms n index : Nat} {ret : Option FieldType} {ws : List Cond} {rm : Room} {Pc : Array Value → State → Prop} {Qc : Array Value → State → Outcome → State → Prop} {XC : String → State → State → Prop} {free : Addr → Prop} {Ts : List Cond} {own C : String} {b : Addr} {As rest : List Value} {g : JFrame}
theorem vx_callBack (cb : CallB R s args own index y bytes maxL ret ws rm mc ms n) (hM : vx_Met l y ws rm Pc Qc XC mc ms free) (hbl : FrameBlind Pc) : vx_Back l R p e below s args y 3 8 (PreOf R mc ms Pc) (PostOf Qc mc ms free) (vx_Post XC mc ms free) := by
  obtain ⟨hrc, hrs, hfr, hlo, hws, hcw, -, hini, -⟩ := cb
  exact vx_back (bytes := bytes) (maxL := maxL) (ret := ret) hM hbl hrc hrs hfr hlo hws hcw (fun a' U hW => word_at hW (Or.inl (by first | rfl | simp [Cond.onTables, Cond.keeps, Cond.steady])) hini)
theorem vx_runV (S : CallFix p m c cc nL s args Ts own) (hM : vx_Met l y ws rm Pc Qc XC mc ms free) (cw : CallW R s args own C index y bytes maxL ret ws rm mc ms n) (hp : PreV s H C b Pc As)
    (hg : g.method = m) (hn : As.length = n) (hsize : g.locals.size = nL) (hstack : g.stack = As.reverse ++ .ref b :: rest) (hW : 2 * g.monitorRoom + (rest.map fun v => v.category).sum ≤ 8) (hdg : decode cc g.pc = .ok (.invokevirtual index, 3)) (hf : cells + mc ≤ R.cells ∧ slots + ms ≤ R.slots) :
    vx_Run p l e R s m args below meth c H locs cells slots mc ms g rest (Qc (Value.ref b :: As).toArray) XC free := by
  have hK : vx_Back l R p e below s args y 3 8 (PreOf R mc ms Pc) (PostOf Qc mc ms free) (vx_Post XC mc ms free) := vx_callBack cw.1 hM hp.1
  obtain ⟨⟨-, -, -, -, -, -, hcode, -, hy, hlen, hl⟩, hin, hse⟩ := cw
  obtain ⟨hx, hb, hml, ho, -⟩ := S
  obtain ⟨-, ⟨cellB, hcB, hoB, hclB⟩, hPc⟩ := hp
  intro T hT X
  rcases vx_callV X hx (C := C) (bytes := bytes) (maxL := maxL) (ret := ret) ho hl hin hse hcode hy hK (by rw [hT]; exact hcB) hoB hclB hg (hsize.trans hml.symm) (argsL := As) (rest := rest) (fun sig h => hn.trans (hlen sig h)) hstack hW (by rw [hb]; exact hdg)
    (fun vm₁ hW₁ => ⟨hf.1, hf.2, hPc (T.setVm vm₁) hT hW₁⟩) with ⟨v, vm₁, ⟨U', l2, c2, s2⟩, hW₁, X', ⟨g', mk, t, L, e1, e2, hq, h1, hL, h2, h3⟩, st⟩ | ⟨q, vm₁, ⟨U', l2, c2, s2⟩, hW₁, X', ⟨g', mk, t, L, E, ce, e1, e2, hq, hce, hcv, hcl, h1, hL, h2, h3⟩, st⟩
  · dsimp only [Pt.U, Pt.locs, Pt.cells, Pt.slots] at X' e1 e2 h1 h2 h3 st
    subst h1; subst h2; subst h3
    exact Or.inl ⟨v, (T.setVm vm₁).calling g' mk (Value.ref b :: As).toArray, t, U', L, hT, X', hL, e1, e2, hq, st⟩
  · dsimp only [Pt.U, Pt.locs, Pt.cells, Pt.slots] at X' e1 e2 h1 h2 h3 st hcl
    subst h1; subst h2; subst h3
    exact Or.inr ⟨q, (T.setVm vm₁).calling g' mk (Value.ref b :: As).toArray, t, U', L, E, ce, hT, X', hL, e1, e2, hq, hce, hcv, vx_cls hW₁ hcl, st⟩
theorem vx_runS (S : CallFix p m c cc nL s args Ts own) (hM : vx_Met l y ws rm Pc Qc XC mc ms free) (cw : CallB R s args own index y bytes maxL ret ws rm mc ms n ∧ (Cond.static y).before args s = true) (hp : PreS s H Pc As)
    (hg : g.method = m) (hn : As.length = n) (hsize : g.locals.size = nL) (hstack : g.stack = As.reverse ++ rest) (hW : 2 * g.monitorRoom + (rest.map fun v => v.category).sum ≤ 8) (hdg : decode cc g.pc = .ok (.invokestatic index, 3)) (hf : cells + mc ≤ R.cells ∧ slots + ms ≤ R.slots) :
    vx_Run p l e R s m args below meth c H locs cells slots mc ms g rest (Qc As.toArray) XC free := by
  have hK : vx_Back l R p e below s args y 3 8 (PreOf R mc ms Pc) (PostOf Qc mc ms free) (vx_Post XC mc ms free) := vx_callBack cw.1 hM hp.1
  obtain ⟨⟨-, -, -, -, -, -, hcode, hini, hy, hlen, hl⟩, hstt⟩ := cw
  obtain ⟨hx, hb, hml, ho, -⟩ := S
  intro T hT X
  rcases vx_callS X hx (bytes := bytes) (maxL := maxL) (ret := ret) ho hl hstt hini hcode hy hK hg (hsize.trans hml.symm) (argsL := As) (rest := rest) (fun sig h => hn.trans (hlen sig h)) hstack hW (by rw [hb]; exact hdg)
    (fun vm₁ hW₁ => ⟨hf.1, hf.2, hp.2 (T.setVm vm₁) hT hW₁⟩) with ⟨v, vm₁, ⟨U', l2, c2, s2⟩, hW₁, X', ⟨g', mk, t, L, e1, e2, hq, h1, hL, h2, h3⟩, st⟩ | ⟨q, vm₁, ⟨U', l2, c2, s2⟩, hW₁, X', ⟨g', mk, t, L, E, ce, e1, e2, hq, hce, hcv, hcl, h1, hL, h2, h3⟩, st⟩
  · dsimp only [Pt.U, Pt.locs, Pt.cells, Pt.slots] at X' e1 e2 h1 h2 h3 st
    subst h1; subst h2; subst h3
    exact Or.inl ⟨v, (T.setVm vm₁).calling g' mk As.toArray, t, U', L, hT, X', hL, e1, e2, hq, st⟩
  · dsimp only [Pt.U, Pt.locs, Pt.cells, Pt.slots] at X' e1 e2 h1 h2 h3 st hcl
    subst h1; subst h2; subst h3
    exact Or.inr ⟨q, (T.setVm vm₁).calling g' mk As.toArray, t, U', L, E, ce, hT, X', hL, e1, e2, hq, hce, hcv, vx_cls hW₁ hcl, st⟩
end Runs
section Rows
variable {p : Program} {l : Launch} {e : Env} {R : Room} {s : State} {m : MethodId} {args : Array Value} {below : List Frame} {meth : Method} {c : Code} {H : Heap} {locs : List Loc} {cells slots : Nat} {Q : State → Prop}
variable {mc ms : Nat} {free : Addr → Prop} {A0 A1 : Nat → Prop} {H0 : Heap} {a : Array Value} {pc : Nat} {ls : Array Slot} {st0 rest : List Value}
theorem vx_keep {st₀ t T' : State} {L : List Loc} (h0 : st₀.heap = H) (e1 : T'.heap = t.heap) (hS : va_S A0 H0 H locs) (hA : ∀ q, q < H.size → A1 q → A0 q) (hf : ∀ q, free q → A0 q) (hL : ∀ q ∈ L, free q.base) (hF : va_F A1 st₀ t) :
    H.size ≤ T'.heap.size ∧ (∀ q : Nat, q < H.size → ¬ A1 q → T'.heap[q]? = H[q]?) ∧ va_S A0 H0 T'.heap (locs ++ L) := by
  obtain ⟨hz, hk⟩ := hF
  rw [h0] at hz hk
  exact ⟨by rw [e1]; exact hz, fun q h1 h2 => by rw [e1]; exact hk q h1 h2,
    ⟨Nat.le_trans hS.1 (by rw [e1]; exact hz), fun q h1 h2 => by rw [e1, hk q (Nat.lt_of_lt_of_le h1 hS.1) (fun z => h2 (hA q (Nat.lt_of_lt_of_le h1 hS.1) z))]; exact hS.2.1 q h1 h2, fun q hq => by
      rcases List.mem_append.mp hq with h | h
      · exact hS.2.2 q h
      · exact hf _ (hL q h)⟩⟩
theorem vx_calli {S SX : Type} {post : Int32 → S → Prop} {px : SX → Prop} {B : S → State → Prop} {BX : String → SX → State → Prop} {AX : Nat → Prop} (hr : vx_Run p l e R s m args below meth c H locs cells slots mc ms (F0 m pc ls st0) rest (va_Qi post B A1 a) (vx_X px BX AX) free) (hS : va_S A0 H0 H locs) (hA : ∀ q, q < H.size → A1 q → A0 q) (hf : ∀ q, free q → A0 q) (hAX : ∀ q, q < H.size → AX q → A0 q)
    (kx : ∀ (E : String) (ce : Cell) (q9 : Addr) (u : SX) (t : State) (H1 : Heap) (locs1 : List Loc), t.heap = H1 → s.vm.Alike t.vm → px u → BX E u t → H.size ≤ H1.size → (∀ q : Nat, q < H.size → ¬ AX q → H1[q]? = H[q]?) → va_S A0 H0 H1 locs1 → H1[q9]? = some ce → ce.vm = .none → s.vm.findClass E = some ce.cls → vx_W p l e R s m args below meth c H1 locs1 (cells + mc) (slots + ms) Q (F0 m pc ls rest) q9)
    (kk : ∀ (r : Int32) (u : S) (t : State) (H1 : Heap) (locs1 : List Loc), t.heap = H1 → s.vm.Alike t.vm → post r u → B u t → H.size ≤ H1.size → (∀ q : Nat, q < H.size → ¬ A1 q → H1[q]? = H[q]?) → va_S A0 H0 H1 locs1 → W p l e R s m args below meth c H1 locs1 (cells + mc) (slots + ms) Q (F0 m (pc + 3) ls (.int r :: rest))) : W p l e R s m args below meth c H locs cells slots Q (F0 m pc ls st0) := by
  intro T hT X
  rcases hr T hT X with ⟨v, st₀, t, T', L, h0, X', hL, e1, e2, ⟨⟨r, u, hv, hp, hb⟩, hF⟩, st⟩ | ⟨q, st₀, t, T', L, E, ce, h0, X', hL, e1, e2, ⟨u, hp, hb, hF⟩, hce, hcv, hcl, st⟩
  · cases hv
    obtain ⟨k1, k2, k3⟩ := vx_keep h0 e1 hS hA hf hL hF
    obtain ⟨t2, a1, b1⟩ := kk r u t T'.heap (locs ++ L) e1.symm (by rw [← e2]; exact X'.warmed.alike) hp hb k1 k2 k3 T' rfl X'
    exact ⟨t2, st t2 a1, b1⟩
  · obtain ⟨k1, k2, k3⟩ := vx_keep h0 e1 hS hAX hf hL hF
    obtain ⟨t2, a1, b1⟩ := kx E ce q u t T'.heap (locs ++ L) e1.symm (by rw [← e2]; exact X'.warmed.alike) hp hb k1 k2 k3 (by rw [e1]; exact hce) hcv hcl T' rfl X'
    exact ⟨t2, st.trans a1, b1⟩
theorem vx_calll {S SX : Type} {post : Int64 → S → Prop} {px : SX → Prop} {B : S → State → Prop} {BX : String → SX → State → Prop} {AX : Nat → Prop} (hr : vx_Run p l e R s m args below meth c H locs cells slots mc ms (F0 m pc ls st0) rest (va_Ql post B A1 a) (vx_X px BX AX) free) (hS : va_S A0 H0 H locs) (hA : ∀ q, q < H.size → A1 q → A0 q) (hf : ∀ q, free q → A0 q) (hAX : ∀ q, q < H.size → AX q → A0 q)
    (kx : ∀ (E : String) (ce : Cell) (q9 : Addr) (u : SX) (t : State) (H1 : Heap) (locs1 : List Loc), t.heap = H1 → s.vm.Alike t.vm → px u → BX E u t → H.size ≤ H1.size → (∀ q : Nat, q < H.size → ¬ AX q → H1[q]? = H[q]?) → va_S A0 H0 H1 locs1 → H1[q9]? = some ce → ce.vm = .none → s.vm.findClass E = some ce.cls → vx_W p l e R s m args below meth c H1 locs1 (cells + mc) (slots + ms) Q (F0 m pc ls rest) q9)
    (kk : ∀ (r : Int64) (u : S) (t : State) (H1 : Heap) (locs1 : List Loc), t.heap = H1 → s.vm.Alike t.vm → post r u → B u t → H.size ≤ H1.size → (∀ q : Nat, q < H.size → ¬ A1 q → H1[q]? = H[q]?) → va_S A0 H0 H1 locs1 → W p l e R s m args below meth c H1 locs1 (cells + mc) (slots + ms) Q (F0 m (pc + 3) ls (.long r :: rest))) : W p l e R s m args below meth c H locs cells slots Q (F0 m pc ls st0) := by
  intro T hT X
  rcases hr T hT X with ⟨v, st₀, t, T', L, h0, X', hL, e1, e2, ⟨⟨r, u, hv, hp, hb⟩, hF⟩, st⟩ | ⟨q, st₀, t, T', L, E, ce, h0, X', hL, e1, e2, ⟨u, hp, hb, hF⟩, hce, hcv, hcl, st⟩
  · cases hv
    obtain ⟨k1, k2, k3⟩ := vx_keep h0 e1 hS hA hf hL hF
    obtain ⟨t2, a1, b1⟩ := kk r u t T'.heap (locs ++ L) e1.symm (by rw [← e2]; exact X'.warmed.alike) hp hb k1 k2 k3 T' rfl X'
    exact ⟨t2, st t2 a1, b1⟩
  · obtain ⟨k1, k2, k3⟩ := vx_keep h0 e1 hS hAX hf hL hF
    obtain ⟨t2, a1, b1⟩ := kx E ce q u t T'.heap (locs ++ L) e1.symm (by rw [← e2]; exact X'.warmed.alike) hp hb k1 k2 k3 (by rw [e1]; exact hce) hcv hcl T' rfl X'
    exact ⟨t2, st.trans a1, b1⟩
theorem vx_callf {S SX : Type} {post : UInt32 → S → Prop} {px : SX → Prop} {B : S → State → Prop} {BX : String → SX → State → Prop} {AX : Nat → Prop} (hr : vx_Run p l e R s m args below meth c H locs cells slots mc ms (F0 m pc ls st0) rest (va_Qf post B A1 a) (vx_X px BX AX) free) (hS : va_S A0 H0 H locs) (hA : ∀ q, q < H.size → A1 q → A0 q) (hf : ∀ q, free q → A0 q) (hAX : ∀ q, q < H.size → AX q → A0 q)
    (kx : ∀ (E : String) (ce : Cell) (q9 : Addr) (u : SX) (t : State) (H1 : Heap) (locs1 : List Loc), t.heap = H1 → s.vm.Alike t.vm → px u → BX E u t → H.size ≤ H1.size → (∀ q : Nat, q < H.size → ¬ AX q → H1[q]? = H[q]?) → va_S A0 H0 H1 locs1 → H1[q9]? = some ce → ce.vm = .none → s.vm.findClass E = some ce.cls → vx_W p l e R s m args below meth c H1 locs1 (cells + mc) (slots + ms) Q (F0 m pc ls rest) q9)
    (kk : ∀ (r : UInt32) (u : S) (t : State) (H1 : Heap) (locs1 : List Loc), t.heap = H1 → s.vm.Alike t.vm → post r u → B u t → H.size ≤ H1.size → (∀ q : Nat, q < H.size → ¬ A1 q → H1[q]? = H[q]?) → va_S A0 H0 H1 locs1 → W p l e R s m args below meth c H1 locs1 (cells + mc) (slots + ms) Q (F0 m (pc + 3) ls (.float r :: rest))) : W p l e R s m args below meth c H locs cells slots Q (F0 m pc ls st0) := by
  intro T hT X
  rcases hr T hT X with ⟨v, st₀, t, T', L, h0, X', hL, e1, e2, ⟨⟨r, u, hv, hp, hb⟩, hF⟩, st⟩ | ⟨q, st₀, t, T', L, E, ce, h0, X', hL, e1, e2, ⟨u, hp, hb, hF⟩, hce, hcv, hcl, st⟩
  · cases hv
    obtain ⟨k1, k2, k3⟩ := vx_keep h0 e1 hS hA hf hL hF
    obtain ⟨t2, a1, b1⟩ := kk r u t T'.heap (locs ++ L) e1.symm (by rw [← e2]; exact X'.warmed.alike) hp hb k1 k2 k3 T' rfl X'
    exact ⟨t2, st t2 a1, b1⟩
  · obtain ⟨k1, k2, k3⟩ := vx_keep h0 e1 hS hAX hf hL hF
    obtain ⟨t2, a1, b1⟩ := kx E ce q u t T'.heap (locs ++ L) e1.symm (by rw [← e2]; exact X'.warmed.alike) hp hb k1 k2 k3 (by rw [e1]; exact hce) hcv hcl T' rfl X'
    exact ⟨t2, st.trans a1, b1⟩
theorem vx_calld {S SX : Type} {post : UInt64 → S → Prop} {px : SX → Prop} {B : S → State → Prop} {BX : String → SX → State → Prop} {AX : Nat → Prop} (hr : vx_Run p l e R s m args below meth c H locs cells slots mc ms (F0 m pc ls st0) rest (va_Qd post B A1 a) (vx_X px BX AX) free) (hS : va_S A0 H0 H locs) (hA : ∀ q, q < H.size → A1 q → A0 q) (hf : ∀ q, free q → A0 q) (hAX : ∀ q, q < H.size → AX q → A0 q)
    (kx : ∀ (E : String) (ce : Cell) (q9 : Addr) (u : SX) (t : State) (H1 : Heap) (locs1 : List Loc), t.heap = H1 → s.vm.Alike t.vm → px u → BX E u t → H.size ≤ H1.size → (∀ q : Nat, q < H.size → ¬ AX q → H1[q]? = H[q]?) → va_S A0 H0 H1 locs1 → H1[q9]? = some ce → ce.vm = .none → s.vm.findClass E = some ce.cls → vx_W p l e R s m args below meth c H1 locs1 (cells + mc) (slots + ms) Q (F0 m pc ls rest) q9)
    (kk : ∀ (r : UInt64) (u : S) (t : State) (H1 : Heap) (locs1 : List Loc), t.heap = H1 → s.vm.Alike t.vm → post r u → B u t → H.size ≤ H1.size → (∀ q : Nat, q < H.size → ¬ A1 q → H1[q]? = H[q]?) → va_S A0 H0 H1 locs1 → W p l e R s m args below meth c H1 locs1 (cells + mc) (slots + ms) Q (F0 m (pc + 3) ls (.double r :: rest))) : W p l e R s m args below meth c H locs cells slots Q (F0 m pc ls st0) := by
  intro T hT X
  rcases hr T hT X with ⟨v, st₀, t, T', L, h0, X', hL, e1, e2, ⟨⟨r, u, hv, hp, hb⟩, hF⟩, st⟩ | ⟨q, st₀, t, T', L, E, ce, h0, X', hL, e1, e2, ⟨u, hp, hb, hF⟩, hce, hcv, hcl, st⟩
  · cases hv
    obtain ⟨k1, k2, k3⟩ := vx_keep h0 e1 hS hA hf hL hF
    obtain ⟨t2, a1, b1⟩ := kk r u t T'.heap (locs ++ L) e1.symm (by rw [← e2]; exact X'.warmed.alike) hp hb k1 k2 k3 T' rfl X'
    exact ⟨t2, st t2 a1, b1⟩
  · obtain ⟨k1, k2, k3⟩ := vx_keep h0 e1 hS hAX hf hL hF
    obtain ⟨t2, a1, b1⟩ := kx E ce q u t T'.heap (locs ++ L) e1.symm (by rw [← e2]; exact X'.warmed.alike) hp hb k1 k2 k3 (by rw [e1]; exact hce) hcv hcl T' rfl X'
    exact ⟨t2, st.trans a1, b1⟩
theorem vx_callv {S SX : Type} {post : S → Prop} {px : SX → Prop} {B : S → State → Prop} {BX : String → SX → State → Prop} {AX : Nat → Prop} (hr : vx_Run p l e R s m args below meth c H locs cells slots mc ms (F0 m pc ls st0) rest (va_Qv post B A1 a) (vx_X px BX AX) free) (hS : va_S A0 H0 H locs) (hA : ∀ q, q < H.size → A1 q → A0 q) (hf : ∀ q, free q → A0 q) (hAX : ∀ q, q < H.size → AX q → A0 q)
    (kx : ∀ (E : String) (ce : Cell) (q9 : Addr) (u : SX) (t : State) (H1 : Heap) (locs1 : List Loc), t.heap = H1 → s.vm.Alike t.vm → px u → BX E u t → H.size ≤ H1.size → (∀ q : Nat, q < H.size → ¬ AX q → H1[q]? = H[q]?) → va_S A0 H0 H1 locs1 → H1[q9]? = some ce → ce.vm = .none → s.vm.findClass E = some ce.cls → vx_W p l e R s m args below meth c H1 locs1 (cells + mc) (slots + ms) Q (F0 m pc ls rest) q9)
    (kk : ∀ (u : S) (t : State) (H1 : Heap) (locs1 : List Loc), t.heap = H1 → s.vm.Alike t.vm → post u → B u t → H.size ≤ H1.size → (∀ q : Nat, q < H.size → ¬ A1 q → H1[q]? = H[q]?) → va_S A0 H0 H1 locs1 → W p l e R s m args below meth c H1 locs1 (cells + mc) (slots + ms) Q (F0 m (pc + 3) ls (rest))) : W p l e R s m args below meth c H locs cells slots Q (F0 m pc ls st0) := by
  intro T hT X
  rcases hr T hT X with ⟨v, st₀, t, T', L, h0, X', hL, e1, e2, ⟨⟨u, hv, hp, hb⟩, hF⟩, st⟩ | ⟨q, st₀, t, T', L, E, ce, h0, X', hL, e1, e2, ⟨u, hp, hb, hF⟩, hce, hcv, hcl, st⟩
  · cases hv
    obtain ⟨k1, k2, k3⟩ := vx_keep h0 e1 hS hA hf hL hF
    obtain ⟨t2, a1, b1⟩ := kk u t T'.heap (locs ++ L) e1.symm (by rw [← e2]; exact X'.warmed.alike) hp hb k1 k2 k3 T' rfl X'
    exact ⟨t2, st t2 a1, b1⟩
  · obtain ⟨k1, k2, k3⟩ := vx_keep h0 e1 hS hAX hf hL hF
    obtain ⟨t2, a1, b1⟩ := kx E ce q u t T'.heap (locs ++ L) e1.symm (by rw [← e2]; exact X'.warmed.alike) hp hb k1 k2 k3 (by rw [e1]; exact hce) hcv hcl T' rfl X'
    exact ⟨t2, st.trans a1, b1⟩
/-- caught by the row x of this method's table; the rows ahead don't take it -/
theorem vx_catch {own name : String} {E : String} {ce : Cell} {q : Addr} (hown : s.vm.findClass own = some m.cls) (pre : List ExceptionTableEntry) (x : ExceptionTableEntry) (suf : List ExceptionTableEntry) (hsplit : c.exceptionTable.toList = pre ++ x :: suf)
    (hpass : ∀ z ∈ pre, covers z pc = false ∨ (z.catchType ≠ 0 ∧ ∃ nm : String, (Cond.classLink own z.catchType nm).before args s = true ∧ va_Nc E nm s)) (hx : covers x pc = true) (h0 : x.catchType ≠ 0)
    (hlink : (Cond.classLink own x.catchType name).before args s = true) (hcast : (Cond.castable E name).before args s = true) (hcell : H[q]? = some ce) (hv : ce.vm = .none) (hcl : s.vm.findClass E = some ce.cls)
    (kk : W p l e R s m args below meth c H locs cells slots Q (F0 m x.handlerPc ls [.ref q])) : vx_W p l e R s m args below meth c H locs cells slots Q (F0 m pc ls rest) q := by
  intro T hT X
  have hpl : e.platform.magicAccessors = ({} : Platform).magicAccessors := by rw [X.admits.platform]
  obtain ⟨c3, c4, hc3, hc4, hasg⟩ := Cond.castable_spec hcast
  cases Option.some.inj (hc3.symm.trans hcl)
  obtain ⟨c5, hc5, hcl5⟩ := Cond.classLink_spec hown hlink e.platform hpl
  cases Option.some.inj (hc4.symm.trans hc5)
  obtain ⟨vm', X', st⟩ := X.thenCaughtThrough q (g := F0 m pc ls rest) rfl (Steps.refl _) (by rw [hT]; exact hcell) (by rw [hv]; rfl) (by obtain ⟨k9, h9, -⟩ := Vm.findClass_spec hcl; exact ⟨k9, h9⟩) pre x suf hsplit
    (fun z hz => by
      rcases hpass z hz with h | ⟨hz0, nm, hl1, hn1⟩
      · exact Or.inl h
      · obtain ⟨c6, hc6, hcl6⟩ := Cond.classLink_spec hown hl1 e.platform hpl
        obtain ⟨a8, b8, h1, h2, h3⟩ := hn1
        cases Option.some.inj (h1.symm.trans hcl)
        cases Option.some.inj (h2.symm.trans hc6)
        exact Or.inr ⟨hz0, _, hcl6, h3⟩) hx (Or.inr ⟨h0, c4, hcl5, hasg⟩)
  obtain ⟨t, a1, b1⟩ := kk (T.setVm vm') hT X'
  exact ⟨t, st.trans a1, b1⟩
end Rows
section Ends
variable {p : Program} {l : Launch} {e : Env} {R : Room} {s : State} {m : MethodId} {args : Array Value} {below : List Frame} {meth : Method} {c : Code} {H : Heap} {locs : List Loc} {cells slots : Nat} {Q : State → Prop}
variable {mc ms : Nat} {free : Addr → Prop} {A0 A1 : Nat → Prop} {H0 : Heap} {a : Array Value} {ls : Array Slot} {st0 rest : List Value}
variable {Qc : Array Value → State → Outcome → State → Prop} {XC : String → State → State → Prop}
/-- what a body that may throw owes at its end -/
def vx_MQ (below : List Frame) (Qc : Array Value → State → Outcome → State → Prop) (XC : String → State → State → Prop) (a : Array Value) (s : State) (mc ms : Nat) (free : Addr → Prop) : State → Prop := fun t =>
  ∃ o, t.status = .running ∧ Ended t below o ∧ vx_Q Qc XC mc ms free a s o t
theorem vx_ret {g : JFrame} {mc ms : Nat} (k : W p l e R s m args below meth c H locs cells slots (MQ below Qc args s mc ms free) g) : W p l e R s m args below meth c H locs cells slots (vx_MQ below Qc XC args s mc ms free) g := by
  intro T hT X
  obtain ⟨t, a1, o, b1, b2, b3, b4⟩ := k T hT X
  exact ⟨t, a1, o, b1, b2, Or.inl ⟨b3, b4⟩⟩
/-- not caught here: it goes on to the caller -/
theorem vx_widen {g : JFrame} {q : Addr} {k n : Nat} (h1 : cells ≤ k) (h2 : slots ≤ n) (kk : vx_W p l e R s m args below meth c H locs k n Q g q) : vx_W p l e R s m args below meth c H locs cells slots Q g q := fun T hT X => kk T hT (stand_widen X h1 h2)
theorem vx_out {pc : Nat} {E : String} {ce : Cell} {q : Addr} {mc ms : Nat} (hout : ∀ x ∈ c.exceptionTable.toList, covers x pc = false) (hlocks : meth.locks = false) (hcell : H[q]? = some ce) (hv : ce.vm = .none) (hcl : s.vm.findClass E = some ce.cls)
    (hx : ∀ t : State, t.heap = H → s.vm.Alike t.vm → XC E s t) (hf : ∀ z ∈ locs, free z.base) (hc : cells ≤ mc) (hs : slots ≤ ms) :
    vx_W p l e R s m args below meth c H locs cells slots (vx_MQ below Qc XC args s mc ms free) (F0 m pc ls rest) q := by
  intro T hT X
  obtain ⟨st1, hrun, hend, hW, hsm⟩ := X.leaveThrown q (g := F0 m pc ls rest) rfl rfl rfl hout hlocks
  have hcell9 : (T.setFrames (.throwing q :: below)).heap[q]? = some ce := by
    show T.heap[q]? = some ce
    rw [hT]; exact hcell
  exact ⟨_, st1, .threw q, hrun, hend, Or.inr ⟨q, rfl, E, ce, locs, hx _ hT hW.alike, hcell9, hv, hcl, hW, hsm.mono hc hs, hf⟩⟩
theorem vx_frame {U : State} {k n : Nat} (h : s.sameButNew ({ U with vm := s.vm } : State) locs k n) : s.heap.size ≤ U.heap.size ∧ ∀ q : Nat, q < s.heap.size → (∀ z ∈ locs, z.base ≠ q) → U.heap[q]? = s.heap[q]? := by
  obtain ⟨-, h2, -, -, -, h6⟩ := h
  refine ⟨h2, fun q hq hz => ?_⟩
  obtain ⟨c9, e1, e2, e3, e4⟩ := h6 q _ (Array.getElem?_eq_getElem hq)
  have hs : c9.slots = (s.heap[q]).slots := Array.ext_getElem? fun i => e4 i fun hm => hz _ hm rfl
  have h9 : c9 = s.heap[q] := by
    rw [hs] at e2
    exact e2
  have e5 : U.heap[q]? = some c9 := e1
  rw [e5, h9, Array.getElem?_eq_getElem hq]
/-- the words of a throw but the four that speak of the heap -/
def vx_no (w : Cond) : Bool := decide (w ≠ .isRef (.static Bundle.tN "UNASSIGNED_STACK" Bundle.steD)) && decide (w ≠ .isRef (.static Bundle.tN "SUPPRESSED_SENTINEL" Bundle.listD)) && decide (w ≠ .laysStatic Bundle.tN "UNASSIGNED_STACK" Bundle.steD) && decide (w ≠ .laysStatic Bundle.tN "SUPPRESSED_SENTINEL" Bundle.listD)
def vx_at0 (own : String) (ic : Nat) (X : String) (names : List String) : List Cond := (Bundle.ownAtoms0 own ic X names).filter vx_no
def vx_atS (own : String) (ic : Nat) (X : String) (names : List String) : List Cond := (Bundle.ownAtoms own ic X names).filter vx_no
/-- a word that the tables alone decide, or a good one -/
def vx_ot (w : Cond) : Bool := w.onTables || goodWord w
theorem vx_ot_at {args a' : Array Value} {s U : State} {w : Cond} (hW : s.WarmedH U.vm) (hvm : s.vm = U.vm) (hg : vx_ot w = true) (h : w.before args s = true) : w.before a' U = true := by
  simp only [vx_ot, Bool.or_eq_true] at hg
  rcases hg with hg | hg
  · exact va_tabs hg hvm h
  · exact word_at hW (good_of_word hg) h
/-- a list's words: the good ones out of the method's own list, the others by premises of their own -/
theorem vx_hat {args : Array Value} {s : State} {L B : List Cond} (h1 : ∀ w ∈ L.filter goodWord, w.before args s = true) (h2 : ∀ w ∈ L.filter (fun w => !goodWord w), w ∈ B) (h3 : ∀ w ∈ B, w.before args s = true) : ∀ w ∈ L, w.before args s = true := by
  intro w hw
  by_cases g : goodWord w = true
  · exact h1 w (List.mem_filter.mpr ⟨hw, g⟩)
  · refine h3 w (h2 w (List.mem_filter.mpr ⟨hw, ?_⟩))
    show (!goodWord w) = true
    cases hgw : goodWord w
    · rfl
    · exact absurd hgw g
theorem vx_c {args : Array Value} {s : State} {w : Cond} {B : List Cond} (h : w.before args s = true) (t : ∀ w ∈ B, w.before args s = true) : ∀ w' ∈ w :: B, w'.before args s = true := fun w' h' => (List.mem_cons.mp h').elim (fun e => by rw [e]; exact h) (t w')
theorem vx_n {args : Array Value} {s : State} : ∀ w ∈ ([] : List Cond), w.before args s = true := fun _ h => nomatch h
theorem vx_own {args : Array Value} {s : State} {L : List Cond} (h1 : ∀ w ∈ L.filter vx_no, w.before args s = true)
    (hU : (Cond.isRef (.static Bundle.tN "UNASSIGNED_STACK" Bundle.steD)).before args s = true) (hN : (Cond.isRef (.static Bundle.tN "SUPPRESSED_SENTINEL" Bundle.listD)).before args s = true)
    (lU : (Cond.laysStatic Bundle.tN "UNASSIGNED_STACK" Bundle.steD).before args s = true) (lN : (Cond.laysStatic Bundle.tN "SUPPRESSED_SENTINEL" Bundle.listD).before args s = true) : ∀ w ∈ L, w.before args s = true := by
  intro w hw
  by_cases e1 : w = .isRef (.static Bundle.tN "UNASSIGNED_STACK" Bundle.steD)
  · rw [e1]; exact hU
  · by_cases e2 : w = .isRef (.static Bundle.tN "SUPPRESSED_SENTINEL" Bundle.listD)
    · rw [e2]; exact hN
    · by_cases e3 : w = .laysStatic Bundle.tN "UNASSIGNED_STACK" Bundle.steD
      · rw [e3]; exact lU
      · by_cases e4 : w = .laysStatic Bundle.tN "SUPPRESSED_SENTINEL" Bundle.listD
        · rw [e4]; exact lN
        · exact h1 w (List.mem_filter.mpr ⟨hw, by unfold vx_no; rw [decide_eq_true e1, decide_eq_true e2, decide_eq_true e3, decide_eq_true e4]; rfl⟩)
/-- where a static field lies, its class's statics cell in H -/
def vx_L (C n d : String) (A : Nat → Prop) (U : State) (H : Heap) : Prop := ∃ (c : ClassId) (k : Class) (i : Nat) (f : Field) (a : Nat) (cell : Cell), U.vm.findClass C = some c ∧ U.fieldFound? C n d = some (c, k, i, f) ∧ f.isStatic = true ∧ k.statics = some a ∧ H[a]? = some cell ∧ cell.vm.isStatics = true ∧ cell.cls = c ∧ f.slot < cell.slots.size ∧ k.staticTypes[f.slot]? = some f.type ∧ ¬ A a
theorem vx_L.moved {C n d : String} {A : Nat → Prop} {u U : State} {H : Heap} (hvm : u.vm.Alike U.vm) (h : vx_L C n d A u H) : vx_L C n d A U H := by
  obtain ⟨c, k, i, f, a, cell, h1, h2, h3, h4, h5, h6, h7, h8, h9, h10⟩ := h
  obtain ⟨k', hi', he⟩ := State.fieldFound?_setVm hvm h2
  exact ⟨c, k', i, f, a, cell, by rw [hvm.findClass]; exact h1, hi', h3, by rw [he]; exact h4, h5, h6, h7, h8, by rw [he]; exact h9, h10⟩
theorem vx_L.kept {C n d : String} {A : Nat → Prop} {U : State} {H H1 : Heap} (h : vx_L C n d A U H) (hq : ∀ a : Nat, a < H.size → ¬ A a → H1[a]? = H[a]?) : vx_L C n d A U H1 := by
  obtain ⟨c, k, i, f, a, cell, h1, h2, h3, h4, h5, h6, h7, h8, h9, h10⟩ := h
  exact ⟨c, k, i, f, a, cell, h1, h2, h3, h4, by rw [hq a (Array.getElem?_eq_some_iff.mp h5).1 h10]; exact h5, h6, h7, h8, h9, h10⟩
theorem vx_L.narrow {C n d : String} {A B : Nat → Prop} {U : State} {H : Heap} (h : vx_L C n d A U H) (hAB : ∀ q, B q → A q) : vx_L C n d B U H := by
  obtain ⟨c, k, i, f, a, cell, h1, h2, h3, h4, h5, h6, h7, h8, h9, h10⟩ := h
  exact ⟨c, k, i, f, a, cell, h1, h2, h3, h4, h5, h6, h7, h8, h9, fun z => h10 (hAB _ z)⟩
theorem vx_L.word {C n d : String} {A : Nat → Prop} {s : State} {args : Array Value} (h : vx_L C n d A s s.heap) : (Cond.laysStatic C n d).before args s = true := by
  obtain ⟨c, k, i, f, a, cell, h1, h2, h3, h4, h5, h6, h7, h8, h9, -⟩ := h
  show (Cond.laysStatic C n d).holds args s none s [] = true
  exact Cond.laysStatic_of h1 h2 h3 h4 h5 h6 h7 h8 h9
/-- .. and what it holds: null or some reference -/
def vx_Zq (C n d : String) (A : Nat → Prop) (U : State) (H : Heap) : Prop := va_Zq C n d A U H ∧ vx_L C n d A U H
theorem vx_Zq.moved {C n d : String} {A : Nat → Prop} {u U : State} {H : Heap} (hvm : u.vm.Alike U.vm) (h : vx_Zq C n d A u H) : vx_Zq C n d A U H := ⟨va_Zq.moved hvm h.1, vx_L.moved hvm h.2⟩
theorem vx_Zq.kept {C n d : String} {A : Nat → Prop} {U : State} {H H1 : Heap} (h : vx_Zq C n d A U H) (hq : ∀ a : Nat, a < H.size → ¬ A a → H1[a]? = H[a]?) : vx_Zq C n d A U H1 := ⟨va_Zq.kept h.1 hq, vx_L.kept h.2 hq⟩
theorem vx_Zq.narrow {C n d : String} {A B : Nat → Prop} {U : State} {H : Heap} (h : vx_Zq C n d A U H) (hAB : ∀ q, B q → A q) : vx_Zq C n d B U H := ⟨va_Zq.narrow h.1 hAB, vx_L.narrow h.2 hAB⟩
theorem vx_Zqof {args : Array Value} {s : State} {C n d : String} {A : Nat → Prop} (hl : (Cond.laysStatic C n d).before args s = true) (hini : (Cond.initialized C).before args s = true) (h : (Cond.isRef (.static C n d)).before args s = true) (hA : ∀ a : Nat, a < s.heap.size → ¬ A a) : vx_Zq C n d A s s.heap := by
  refine ⟨va_Zqof hl hini h hA, ?_⟩
  obtain ⟨c, k, i, f, a, cell, h1, h2, h3, h4, h5, h6, h7, h8, h9⟩ := Cond.laysStatic_spec hl
  exact ⟨c, k, i, f, a, cell, h1, h2, h3, h4, h5, h6, h7, h8, h9, hA a (Array.getElem?_eq_some_iff.mp h5).1⟩
theorem vx_isRef {C n d : String} {v : Value} {A : Nat → Prop} {s : State} {args : Array Value} (h : va_Z C n d v A s s.heap) (hv : v.isRef = true) : (Cond.isRef (.static C n d)).before args s = true := by
  obtain ⟨cf, kf, fi, f, a, cell, h1, h2, h3, h4, h5, h6, h7, -⟩ := h
  have he : (Term.static C n d).eval args s none [] s = some v := by
    simp [Term.eval, State.fieldNamed?, h1, h2, h4, h5, h6, h7]
  simp only [Cond.before, Cond.holds, Cond.value, he]
  cases v <;> simp_all [Value.isRef]
theorem vx_isRefq {C n d : String} {A : Nat → Prop} {s : State} {args : Array Value} (h : va_Zq C n d A s s.heap) : (Cond.isRef (.static C n d)).before args s = true := by
  rcases h with h | ⟨t, h⟩
  · exact vx_isRef h rfl
  · exact vx_isRef h rfl
/-- the same frame, seen from here: as if the method were called anew in this heap -/
theorem vx_rebase {T : State} (X : Stand p l e R s m args below meth c T locs cells slots) {R' : Room} (hf : R'.frames ≤ R.frames) (hl : R'.locals ≤ R.locals) (hc : cells + R'.cells ≤ R.cells) (hs : slots + R'.slots ≤ R.slots) :
    Stand p l e R' ((T.setVm s.vm).setFrames (.invoking m args :: below)) m args below meth c T [] 0 0 := by
  have htop : (T.setVm s.vm).topJava?.isSome := X.here.top
  have hF : ((T.setVm s.vm).setFrames (.invoking m args :: below)).frames = .invoking m args :: below := State.frames_setFrames _ (State.cur_lt_of_top htop)
  obtain ⟨g₀, hg0⟩ := Option.isSome_iff_exists.mp htop
  obtain ⟨r, hr⟩ := State.topJava?_eq_some.mp hg0
  have hl9 : e.platform.stackLimits (T.setVm s.vm).me = e.platform.stackLimits s.me := X.limits
  have hb9 : (T.setVm s.vm).me.stackBytes = s.me.stackBytes := X.bytes
  refine ⟨X.admits, X.cas, X.clock, hF, ?_, X.hears, X.method, X.code, X.here, X.tail, X.warmed, ?_, ?_, ?_⟩
  · have h := X.room
    have hU : ((T.setVm s.vm).setFrames (.invoking m args :: below)).localsInUse = s.localsInUse := by
      rw [State.localsInUse_invoking hF (meth := meth) (c := c) X.method X.code, State.localsInUse_invoking X.frames X.method X.code]
    simp only [State.hasRoom, Bool.and_eq_true, decide_eq_true_eq] at h ⊢
    obtain ⟨⟨⟨⟨h1, h2, h3, h4, h5, h6⟩, h7⟩, h8⟩, h9⟩ := h
    rw [X.frames, List.length_cons] at h2 h3
    have q1 := X.heapSize
    have q2 := X.used
    simp only [hF, hU, List.length_cons, State.stackLimits_setFrames, State.stackBytes_setFrames, hl9, hb9]
    refine ⟨⟨⟨⟨by omega, by omega, by omega, by omega, by omega, h6⟩, ?_⟩, ?_⟩, X.book⟩
    · show T.heap.size + R'.cells ≤ e.platform.maxCells
      omega
    · show T.slotsUsed + R'.slots ≤ e.platform.maxSlots
      omega
  · rw [State.stackLimits_setFrames]; rfl
  · rw [State.stackBytes_setFrames]; rfl
  · refine ⟨?_, Nat.le_refl _, Nat.le_refl _, ?_, ?_, fun a c9 h9 => ⟨c9, h9, rfl, rfl, fun _ _ => rfl⟩⟩
    · obtain ⟨t, ht, -⟩ := State.frames_cons hr
      show T.setVm s.vm = { ((T.setVm s.vm).setFrames (.invoking m args :: below)).setFrames (T.setVm s.vm).frames with heap := T.heap, slotsUsed := T.slotsUsed }
      rw [State.setFrames_setFrames, State.setFrames_self ht]
      rfl
    · show T.slotsUsed = T.slotsUsed + ((T.heap.toList.drop T.heap.size).map (·.slots.size)).sum
      rw [List.drop_eq_nil_of_le (Nat.le_of_eq Array.length_toList)]
      rfl
    · show ((T.heap.toList.drop T.heap.size).map (·.slots.size)).sum ≤ 0
      rw [List.drop_eq_nil_of_le (Nat.le_of_eq Array.length_toList)]
      exact Nat.le_refl _
/-- 'throw new E()': new; dup; invokespecial; athrow -/
theorem vx_throw0 {cc : ByteArray} {pc : Nat} (hexec : p.tables.exec = Jvm.exec) (hb : c.code = cc) (hl : l.stackTraces = false) {own cls : String} {names : List String} {ik ic mc ms : Nat} {A : Nat → Prop}
    (hown : s.vm.findClass own = some m.cls) (hcls : Bundle.fit cls = true) (hnames : ∀ n ∈ names, Bundle.fit n = true)
    (hk : (Cond.classLink own ik cls).before args s = true) (hini : (Cond.initialized cls).before args s = true) (hat : ∀ w ∈ vx_at0 own ic cls names, w.before args s = true)
    (hgood : ∀ w ∈ Cond.classLink own ik cls :: Cond.initialized cls :: vx_at0 own ic cls names, vx_ot w = true)
    (hU : vx_Zq Bundle.tN "UNASSIGNED_STACK" Bundle.steD A s s.heap) (hN : vx_Zq Bundle.tN "SUPPRESSED_SENTINEL" Bundle.listD A s s.heap) (hS : va_S A s.heap H locs) (hsize : ls.size = c.maxLocals)
    (d0 : decode cc pc = .ok (.new ik, 3)) (d3 : decode cc (pc + 3) = .ok (.dup, 1)) (d4 : decode cc (pc + 4) = .ok (.invokespecial ic, 3)) (d7 : decode cc (pc + 7) = .ok (.athrow, 1))
    (hout : ∀ x ∈ c.exceptionTable.toList, covers x (pc + 7) = false)
    (hRframes : names.length + 3 < R.frames) (hRlocals : (rest.map fun v => v.category).sum + (13 * (names.length + 1) + 42) ≤ R.locals) (hRcells : cells + 1 ≤ R.cells) (hRslots : slots + 6 ≤ R.slots) (hlocks : meth.locks = false)
    (hx : ∀ t : State, s.vm.Alike t.vm → H.size ≤ t.heap.size → (∀ q : Nat, q < H.size → t.heap[q]? = H[q]?) → XC cls s t)
    (hf : ∀ z ∈ locs, free z.base) (hc : cells + 1 ≤ mc) (hs : slots + 6 ≤ ms) :
    W p l e R s m args below meth c H locs cells slots (vx_MQ below Qc XC args s mc ms free) (F0 m pc ls rest) := by
  intro T hT X
  have htr : e.platform.stackTraces = false := (show e.platform.stackTraces = l.stackTraces by rw [X.admits.platform]).trans hl
  have Y := vx_rebase X (R' := { frames := R.frames, locals := R.locals, cells := 1, slots := 6 }) (Nat.le_refl _) (Nat.le_refl _) hRcells hRslots
  obtain ⟨s', hA⟩ : ∃ z, z = (T.setVm s.vm).setFrames (.invoking m args :: below) := ⟨_, rfl⟩
  rw [← hA] at Y
  have hvm : s'.vm = s.vm := by rw [hA]; rfl
  have hhp : s'.heap = H := by rw [hA]; exact hT
  have hW0 : s.WarmedH s'.vm := by rw [hvm]; exact State.WarmedH.refl s
  have hat' : ∀ w ∈ vx_at0 own ic cls names, w.before args s' = true := fun w hw => vx_ot_at hW0 hvm.symm (hgood w (List.mem_cons_of_mem _ (List.mem_cons_of_mem _ hw))) (hat w hw)
  have hk' : (Cond.classLink own ik cls).before args s' = true := vx_ot_at hW0 hvm.symm (hgood _ List.mem_cons_self) hk
  have hini' : (Cond.initialized cls).before args s' = true := vx_ot_at hW0 hvm.symm (hgood _ (List.mem_cons_of_mem _ List.mem_cons_self)) hini
  have hU' : vx_Zq Bundle.tN "UNASSIGNED_STACK" Bundle.steD A s' s'.heap := by rw [hhp]; exact vx_Zq.moved hW0.alike (hU.kept hS.2.1)
  have hN' : vx_Zq Bundle.tN "SUPPRESSED_SENTINEL" Bundle.listD A s' s'.heap := by rw [hhp]; exact vx_Zq.moved hW0.alike (hN.kept hS.2.1)
  have h : ∀ w ∈ Bundle.ownAtoms0 own ic cls names, w.before args s' = true := vx_own hat' (vx_isRefq hU'.1) (vx_isRefq hN'.1) hU'.2.word hN'.2.word
  have hown' : s'.vm.findClass own = some m.cls := by rw [hvm]; exact hown
  have hins : (Cond.instantiable cls 6).before args s' = true := h _ (by simp [Bundle.ownAtoms0])
  obtain ⟨vm₁, cX, kX, hfX, hkX, -, -, X₁, st1⟩ := Y.newCold hexec (own := own) (C := cls) (index := ik) (n := 6) hown' hk' hins hini'
    (g := F0 m pc ls rest) rfl (by rw [hb]; exact d0) (Nat.le_refl _) (Nat.le_refl _)
  generalize hT1 : (T.setVm vm₁).pushCell { cls := cX, slots := kX.instanceTypes.map defaultValue, vm := .none } = T1 at X₁ st1
  have hcat : (Value.ref T.heap.size).category = 1 := rfl
  have hcellA : T1.heap[T.heap.size]? = some (freshCell cX kX) := by rw [← hT1]; exact State.heap_pushCell_size _ _
  have d3' : decode c.code (pc + 3) = .ok (.dup, 1) := by rw [hb]; exact d3
  obtain ⟨U, hsteps, hrun, hend, hW, hsame, ce, hce, hO⟩ := X₁.ctorThrow0 hexec htr (own := own) (cls := cls) (names := names) (ic := ic) hown' hcls hnames h (fun x hx => nomatch hx) hfX hkX hcellA (by rw [hhp, hT]; exact Nat.le_refl _)
    (g := { method := m, pc := pc + 4, locals := ls, stack := .ref T.heap.size :: .ref T.heap.size :: rest, locked := none }) rfl hsize rfl rfl (rest := rest) rfl
    (by rw [hb]; exact d4) (by rw [hb]; exact d7) hout hRframes (by simp only [List.map_cons, List.sum_cons, hcat]; omega) hlocks
  obtain ⟨f1, f2⟩ := vx_frame hsame
  rw [hhp] at f1 f2
  have hWs : s.WarmedH U.vm := State.WarmedH.trans hW0 hW
  have hcl : s.vm.findClass cls = some ce.cls := by
    have h9 := hO.cls
    rw [hvm] at h9
    exact h9
  have hall : s.sameButNew ({ U with vm := s.vm } : State) locs mc ms := by
    subst hA
    obtain ⟨e1, e2⟩ := hsame
    rw [State.setFrames_setFrames] at e1
    have h2 : (T.setVm s.vm).sameButNew ({ U with vm := s.vm } : State) [] (0 + 1) (0 + 6) := ⟨e1, e2⟩
    have h3 := X.same.trans h2
    rw [List.append_nil] at h3
    exact h3.mono hc hs
  refine ⟨U, ?_, .threw T.heap.size, hrun, hend, Or.inr ⟨T.heap.size, rfl, cls, ce, locs, hx U hWs.alike f1 (fun q hq => f2 q hq (fun z hz => nomatch hz)), hce, hO.vm, hcl, hWs, hall, hf⟩⟩
  refine st1 _ ?_
  show Steps p.tables e below (T1.setTop { method := m, pc := pc + 3, locals := ls, stack := .ref T.heap.size :: rest, locked := none }) _
  jvm_step X₁.here [X₁.here.top, hexec, d3', Value.category]
  exact hsteps
/-- 'throw new E("text")': new; dup; ldc; invokespecial; athrow -/
theorem vx_throwS {cc : ByteArray} {pc : Nat} (hexec : p.tables.exec = Jvm.exec) (hb : c.code = cc) (hl : l.stackTraces = false) {own cls text : String} {names : List String} {ik is ic mc ms sa : Nat} {A : Nat → Prop}
    (hown : s.vm.findClass own = some m.cls) (hcls : Bundle.fit cls = true) (hnames : ∀ n ∈ names, Bundle.fit n = true)
    (hk : (Cond.classLink own ik cls).before args s = true) (hini : (Cond.initialized cls).before args s = true) (hstr : vk_R own is text sa s) (hat : ∀ w ∈ vx_atS own ic cls names, w.before args s = true)
    (hgood : ∀ w ∈ Cond.classLink own ik cls :: Cond.initialized cls :: vx_atS own ic cls names, vx_ot w = true)
    (hU : vx_Zq Bundle.tN "UNASSIGNED_STACK" Bundle.steD A s s.heap) (hN : vx_Zq Bundle.tN "SUPPRESSED_SENTINEL" Bundle.listD A s s.heap) (hS : va_S A s.heap H locs) (hsize : ls.size = c.maxLocals)
    (d0 : decode cc pc = .ok (.new ik, 3)) (d3 : decode cc (pc + 3) = .ok (.dup, 1)) (d4 : decode cc (pc + 4) = .ok (.ldc is, 2)) (d6 : decode cc (pc + 6) = .ok (.invokespecial ic, 3)) (d9 : decode cc (pc + 9) = .ok (.athrow, 1))
    (hout : ∀ x ∈ c.exceptionTable.toList, covers x (pc + 9) = false)
    (hRframes : names.length + 3 < R.frames) (hRlocals : (rest.map fun v => v.category).sum + (13 * (names.length + 1) + 43) ≤ R.locals) (hRcells : cells + 1 ≤ R.cells) (hRslots : slots + 6 ≤ R.slots) (hlocks : meth.locks = false)
    (hx : ∀ t : State, s.vm.Alike t.vm → H.size ≤ t.heap.size → (∀ q : Nat, q < H.size → t.heap[q]? = H[q]?) → XC cls s t)
    (hf : ∀ z ∈ locs, free z.base) (hc : cells + 1 ≤ mc) (hs : slots + 6 ≤ ms) :
    W p l e R s m args below meth c H locs cells slots (vx_MQ below Qc XC args s mc ms free) (F0 m pc ls rest) := by
  intro T hT X
  have htr : e.platform.stackTraces = false := (show e.platform.stackTraces = l.stackTraces by rw [X.admits.platform]).trans hl
  have Y := vx_rebase X (R' := { frames := R.frames, locals := R.locals, cells := 1, slots := 6 }) (Nat.le_refl _) (Nat.le_refl _) hRcells hRslots
  obtain ⟨s', hA⟩ : ∃ z, z = (T.setVm s.vm).setFrames (.invoking m args :: below) := ⟨_, rfl⟩
  rw [← hA] at Y
  have hvm : s'.vm = s.vm := by rw [hA]; rfl
  have hhp : s'.heap = H := by rw [hA]; exact hT
  have hW0 : s.WarmedH s'.vm := by rw [hvm]; exact State.WarmedH.refl s
  have hat' : ∀ w ∈ vx_atS own ic cls names, w.before args s' = true := fun w hw => vx_ot_at hW0 hvm.symm (hgood w (List.mem_cons_of_mem _ (List.mem_cons_of_mem _ hw))) (hat w hw)
  have hk' : (Cond.classLink own ik cls).before args s' = true := vx_ot_at hW0 hvm.symm (hgood _ List.mem_cons_self) hk
  have hini' : (Cond.initialized cls).before args s' = true := vx_ot_at hW0 hvm.symm (hgood _ (List.mem_cons_of_mem _ List.mem_cons_self)) hini
  have hU' : vx_Zq Bundle.tN "UNASSIGNED_STACK" Bundle.steD A s' s'.heap := by rw [hhp]; exact vx_Zq.moved hW0.alike (hU.kept hS.2.1)
  have hN' : vx_Zq Bundle.tN "SUPPRESSED_SENTINEL" Bundle.listD A s' s'.heap := by rw [hhp]; exact vx_Zq.moved hW0.alike (hN.kept hS.2.1)
  have h : ∀ w ∈ Bundle.ownAtoms own ic cls names, w.before args s' = true := vx_own hat' (vx_isRefq hU'.1) (vx_isRefq hN'.1) hU'.2.word hN'.2.word
  have hown' : s'.vm.findClass own = some m.cls := by rw [hvm]; exact hown
  have hins : (Cond.instantiable cls 6).before args s' = true := h _ (by simp [Bundle.ownAtoms])
  obtain ⟨vm₁, cX, kX, hfX, hkX, -, -, X₁, st1⟩ := Y.newCold hexec (own := own) (C := cls) (index := ik) (n := 6) hown' hk' hins hini'
    (g := F0 m pc ls rest) rfl (by rw [hb]; exact d0) (Nat.le_refl _) (Nat.le_refl _)
  generalize hT1 : (T.setVm vm₁).pushCell { cls := cX, slots := kX.instanceTypes.map defaultValue, vm := .none } = T1 at X₁ st1
  have hcat : (Value.ref T.heap.size).category = 1 := rfl
  have hcellA : T1.heap[T.heap.size]? = some (freshCell cX kX) := by rw [← hT1]; exact State.heap_pushCell_size _ _
  have d3' : decode c.code (pc + 3) = .ok (.dup, 1) := by rw [hb]; exact d3
  have d4' : decode c.code (pc + 4) = .ok (.ldc is, 2) := by rw [hb]; exact d4
  have hstr' : vk_R own is text sa s' := vk_R.warm hW0 hstr
  obtain ⟨U, hsteps, hrun, hend, hW, hsame, ce, hce, hO⟩ := X₁.ctorThrowS hexec htr (own := own) (cls := cls) (names := names) (ic := ic) hown' hcls hnames h (fun x hx => nomatch hx) hfX hkX hcellA (by rw [hhp, hT]; exact Nat.le_refl _) (msg := .ref sa) rfl
    (g := { method := m, pc := pc + 6, locals := ls, stack := .ref sa :: .ref T.heap.size :: .ref T.heap.size :: rest, locked := none }) rfl hsize rfl rfl (rest := rest) rfl
    (by rw [hb]; exact d6) (by rw [hb]; exact d9) hout hRframes (by simp only [List.map_cons, List.sum_cons, hcat]; omega) hlocks
  obtain ⟨f1, f2⟩ := vx_frame hsame
  rw [hhp] at f1 f2
  have hWs : s.WarmedH U.vm := State.WarmedH.trans hW0 hW
  have hcl : s.vm.findClass cls = some ce.cls := by
    have h9 := hO.cls
    rw [hvm] at h9
    exact h9
  have hall : s.sameButNew ({ U with vm := s.vm } : State) locs mc ms := by
    subst hA
    obtain ⟨e1, e2⟩ := hsame
    rw [State.setFrames_setFrames] at e1
    have h2 : (T.setVm s.vm).sameButNew ({ U with vm := s.vm } : State) [] (0 + 1) (0 + 6) := ⟨e1, e2⟩
    have h3 := X.same.trans h2
    rw [List.append_nil] at h3
    exact h3.mono hc hs
  refine ⟨U, ?_, .threw T.heap.size, hrun, hend, Or.inr ⟨T.heap.size, rfl, cls, ce, locs, hx U hWs.alike f1 (fun q hq => f2 q hq (fun z hz => nomatch hz)), hce, hO.vm, hcl, hWs, hall, hf⟩⟩
  refine st1 _ ?_
  show Steps p.tables e below (T1.setTop { method := m, pc := pc + 3, locals := ls, stack := .ref T.heap.size :: rest, locked := none }) _
  jvm_step X₁.here [X₁.here.top, hexec, d3', Value.category]
  exact X₁.ldcString hexec (own := own) (text := text) (index := is) (a := sa) hown' hstr'.1 hstr'.2
    (g := { method := m, pc := pc + 4, locals := ls, stack := .ref T.heap.size :: .ref T.heap.size :: rest, locked := none }) rfl d4' _ hsteps
/-- 'throw new E("text")', the text by a wide index -/
theorem vx_throwSW {cc : ByteArray} {pc : Nat} (hexec : p.tables.exec = Jvm.exec) (hb : c.code = cc) (hl : l.stackTraces = false) {own cls text : String} {names : List String} {ik is ic mc ms sa : Nat} {A : Nat → Prop}
    (hown : s.vm.findClass own = some m.cls) (hcls : Bundle.fit cls = true) (hnames : ∀ n ∈ names, Bundle.fit n = true)
    (hk : (Cond.classLink own ik cls).before args s = true) (hini : (Cond.initialized cls).before args s = true) (hstr : vk_R own is text sa s) (hat : ∀ w ∈ vx_atS own ic cls names, w.before args s = true)
    (hgood : ∀ w ∈ Cond.classLink own ik cls :: Cond.initialized cls :: vx_atS own ic cls names, vx_ot w = true)
    (hU : vx_Zq Bundle.tN "UNASSIGNED_STACK" Bundle.steD A s s.heap) (hN : vx_Zq Bundle.tN "SUPPRESSED_SENTINEL" Bundle.listD A s s.heap) (hS : va_S A s.heap H locs) (hsize : ls.size = c.maxLocals)
    (d0 : decode cc pc = .ok (.new ik, 3)) (d3 : decode cc (pc + 3) = .ok (.dup, 1)) (d4 : decode cc (pc + 4) = .ok (.ldc_w is, 3)) (d7 : decode cc (pc + 7) = .ok (.invokespecial ic, 3)) (d10 : decode cc (pc + 10) = .ok (.athrow, 1))
    (hout : ∀ x ∈ c.exceptionTable.toList, covers x (pc + 10) = false)
    (hRframes : names.length + 3 < R.frames) (hRlocals : (rest.map fun v => v.category).sum + (13 * (names.length + 1) + 43) ≤ R.locals) (hRcells : cells + 1 ≤ R.cells) (hRslots : slots + 6 ≤ R.slots) (hlocks : meth.locks = false)
    (hx : ∀ t : State, s.vm.Alike t.vm → H.size ≤ t.heap.size → (∀ q : Nat, q < H.size → t.heap[q]? = H[q]?) → XC cls s t)
    (hf : ∀ z ∈ locs, free z.base) (hc : cells + 1 ≤ mc) (hs : slots + 6 ≤ ms) :
    W p l e R s m args below meth c H locs cells slots (vx_MQ below Qc XC args s mc ms free) (F0 m pc ls rest) := by
  intro T hT X
  have htr : e.platform.stackTraces = false := (show e.platform.stackTraces = l.stackTraces by rw [X.admits.platform]).trans hl
  have Y := vx_rebase X (R' := { frames := R.frames, locals := R.locals, cells := 1, slots := 6 }) (Nat.le_refl _) (Nat.le_refl _) hRcells hRslots
  obtain ⟨s', hA⟩ : ∃ z, z = (T.setVm s.vm).setFrames (.invoking m args :: below) := ⟨_, rfl⟩
  rw [← hA] at Y
  have hvm : s'.vm = s.vm := by rw [hA]; rfl
  have hhp : s'.heap = H := by rw [hA]; exact hT
  have hW0 : s.WarmedH s'.vm := by rw [hvm]; exact State.WarmedH.refl s
  have hat' : ∀ w ∈ vx_atS own ic cls names, w.before args s' = true := fun w hw => vx_ot_at hW0 hvm.symm (hgood w (List.mem_cons_of_mem _ (List.mem_cons_of_mem _ hw))) (hat w hw)
  have hk' : (Cond.classLink own ik cls).before args s' = true := vx_ot_at hW0 hvm.symm (hgood _ List.mem_cons_self) hk
  have hini' : (Cond.initialized cls).before args s' = true := vx_ot_at hW0 hvm.symm (hgood _ (List.mem_cons_of_mem _ List.mem_cons_self)) hini
  have hU' : vx_Zq Bundle.tN "UNASSIGNED_STACK" Bundle.steD A s' s'.heap := by rw [hhp]; exact vx_Zq.moved hW0.alike (hU.kept hS.2.1)
  have hN' : vx_Zq Bundle.tN "SUPPRESSED_SENTINEL" Bundle.listD A s' s'.heap := by rw [hhp]; exact vx_Zq.moved hW0.alike (hN.kept hS.2.1)
  have h : ∀ w ∈ Bundle.ownAtoms own ic cls names, w.before args s' = true := vx_own hat' (vx_isRefq hU'.1) (vx_isRefq hN'.1) hU'.2.word hN'.2.word
  have hown' : s'.vm.findClass own = some m.cls := by rw [hvm]; exact hown
  have hins : (Cond.instantiable cls 6).before args s' = true := h _ (by simp [Bundle.ownAtoms])
  obtain ⟨vm₁, cX, kX, hfX, hkX, -, -, X₁, st1⟩ := Y.newCold hexec (own := own) (C := cls) (index := ik) (n := 6) hown' hk' hins hini'
    (g := F0 m pc ls rest) rfl (by rw [hb]; exact d0) (Nat.le_refl _) (Nat.le_refl _)
  generalize hT1 : (T.setVm vm₁).pushCell { cls := cX, slots := kX.instanceTypes.map defaultValue, vm := .none } = T1 at X₁ st1
  have hcat : (Value.ref T.heap.size).category = 1 := rfl
  have hcellA : T1.heap[T.heap.size]? = some (freshCell cX kX) := by rw [← hT1]; exact State.heap_pushCell_size _ _
  have d3' : decode c.code (pc + 3) = .ok (.dup, 1) := by rw [hb]; exact d3
  have d4' : decode c.code (pc + 4) = .ok (.ldc_w is, 3) := by rw [hb]; exact d4
  have hstr' : vk_R own is text sa s' := vk_R.warm hW0 hstr
  obtain ⟨U, hsteps, hrun, hend, hW, hsame, ce, hce, hO⟩ := X₁.ctorThrowS hexec htr (own := own) (cls := cls) (names := names) (ic := ic) hown' hcls hnames h (fun x hx => nomatch hx) hfX hkX hcellA (by rw [hhp, hT]; exact Nat.le_refl _) (msg := .ref sa) rfl
    (g := { method := m, pc := pc + 7, locals := ls, stack := .ref sa :: .ref T.heap.size :: .ref T.heap.size :: rest, locked := none }) rfl hsize rfl rfl (rest := rest) rfl
    (by rw [hb]; exact d7) (by rw [hb]; exact d10) hout hRframes (by simp only [List.map_cons, List.sum_cons, hcat]; omega) hlocks
  obtain ⟨f1, f2⟩ := vx_frame hsame
  rw [hhp] at f1 f2
  have hWs : s.WarmedH U.vm := State.WarmedH.trans hW0 hW
  have hcl : s.vm.findClass cls = some ce.cls := by
    have h9 := hO.cls
    rw [hvm] at h9
    exact h9
  have hall : s.sameButNew ({ U with vm := s.vm } : State) locs mc ms := by
    subst hA
    obtain ⟨e1, e2⟩ := hsame
    rw [State.setFrames_setFrames] at e1
    have h2 : (T.setVm s.vm).sameButNew ({ U with vm := s.vm } : State) [] (0 + 1) (0 + 6) := ⟨e1, e2⟩
    have h3 := X.same.trans h2
    rw [List.append_nil] at h3
    exact h3.mono hc hs
  refine ⟨U, ?_, .threw T.heap.size, hrun, hend, Or.inr ⟨T.heap.size, rfl, cls, ce, locs, hx U hWs.alike f1 (fun q hq => f2 q hq (fun z hz => nomatch hz)), hce, hO.vm, hcl, hWs, hall, hf⟩⟩
  refine st1 _ ?_
  show Steps p.tables e below (T1.setTop { method := m, pc := pc + 3, locals := ls, stack := .ref T.heap.size :: rest, locked := none }) _
  jvm_step X₁.here [X₁.here.top, hexec, d3', Value.category]
  exact X₁.ldcStringW hexec (own := own) (text := text) (index := is) (a := sa) hown' hstr'.1 hstr'.2
    (g := { method := m, pc := pc + 4, locals := ls, stack := .ref T.heap.size :: .ref T.heap.size :: rest, locked := none }) rfl d4' _ hsteps
end Ends
section Bodies
variable {l : Launch}
theorem vx_ofW {y : MethodName} {ws ws' : List Cond} {rm : Room} {Pc : Array Value → State → Prop} {Qc : Array Value → State → Outcome → State → Prop} {XC : String → State → State → Prop} {mc ms : Nat} {free : Addr → Prop} {cc : ByteArray} {maxL : Nat} {ret : Option FieldType}
    (hy : plainName y.cls = true) (hw : ws = Cond.code y cc maxL ret :: ws')
    (body : ∀ p e s m args below meth c s₁, BodyLoose p l y (headSpec ws rm) cc maxL ret e s m args below meth c s₁ → c.maxLocals = maxL → (∀ x ∈ c.exceptionTable.toList, False) → Pc args s →
      W p l e (headSpec ws rm).room s m args below meth c s.heap [] 0 0 (vx_MQ below Qc XC args s mc ms free) (entryFrame m args maxL)) : vx_Met l y ws rm Pc Qc XC mc ms free := by
  refine MetFree.of_bodyS (code := cc) (maxLocals := maxL) (ret := ret) hy ?_ ?_
  · intro args s m h hn
    obtain ⟨meth, c, h1, h2, h3, h4, h5, h6, -, -⟩ := Cond.code_spec hn (atoms_spec (ws := ws) h _ (by rw [hw]; exact List.mem_cons_self))
    exact ⟨meth, c, h1, h2, h3, h4, h5, h6⟩
  · intro p e s m args below meth c s₁ B hml hP _
    have hh0 : s₁.heap = s.heap := by rw [B.state]; rfl
    have ht : ∀ x ∈ c.exceptionTable.toList, False := by
      obtain ⟨meth9, c9, h1, h2, -, -, -, -, h7, -⟩ := Cond.code_spec B.named (atoms_spec (ws := ws) B.pre _ (by rw [hw]; exact List.mem_cons_self))
      cases Option.some.inj (h1.symm.trans B.method)
      cases Option.some.inj (h2.symm.trans (Stand.of_body B).code)
      intro x hx
      rw [Array.isEmpty_iff.mp h7] at hx
      cases hx
    obtain ⟨t, a1, o, b1, b2, b3⟩ := body p e s m args below meth c s₁ B hml ht hP s₁ hh0 (Stand.of_body B)
    exact ⟨t, o, a1, b1, b2, b3⟩
/-- the table of a body with handlers -/
theorem vx_table {p : Program} {x y : MethodName} {S : Spec} {cc bytes : ByteArray} {maxL maxL' : Nat} {ret ret' : Option FieldType} {e : Env} {s s₁ : State} {m : MethodId} {args : Array Value} {below : List Frame} {meth : Method} {c : Code} {hh : List (Nat × Nat × Nat × Nat)}
    (B : BodyLoose p l y S cc maxL ret e s m args below meth c s₁) (h : (Cond.codeWith y bytes maxL' ret' hh).before args s = true) : c.exceptionTable.toList = tableOf hh := by
  obtain ⟨m9, meth9, c9, hn9, h1, h2, -, -, h6, -⟩ := Cond.codeWith_spec h
  cases Option.some.inj (hn9.symm.trans B.named)
  cases Option.some.inj (h1.symm.trans B.method)
  cases Option.some.inj (h2.symm.trans (Stand.of_body B).code)
  rw [← h6, table_eq]
end Bodies
end VXA
/-! ===== END ===== -/
/-! ===== BEGIN a static call of a method with an exception table ===== -/
section VXS
variable {p : Program} {l : Launch} {e : Env} {R : Room} {s : State} {m : MethodId} {args : Array Value} {below : List Frame} {meth : Method} {c : Code} {T : State} {H : Heap} {locs : List Loc} {cells slots : Nat}
abbrev vx_CSW (R : Room) (s : State) (args : Array Value) (own : String) (index : Nat) (y : MethodName) (bytes : ByteArray) (maxL : Nat) (ret : Option FieldType) (hh : List (Nat × Nat × Nat × Nat)) (ws : List Cond) (rm : Room) (mc ms n : Nat) : Prop :=
  (rm.cells = mc ∧ rm.slots = ms ∧ rm.frames + 1 ≤ R.frames ∧ 8 + (maxL + 11) + rm.locals ≤ R.locals ∧ (∀ w ∈ ws, ∀ (a' : Array Value) (U : State), s.WarmedH U.vm → w.before a' U = true) ∧ Cond.codeWith y bytes maxL ret hh ∈ ws) ∧
  (Cond.codeWith y bytes maxL ret hh).before args s = true ∧ (Cond.initialized y.cls).before args s = true ∧ (y.cls ≠ "java/lang/invoke/MethodHandle" ∧ y.cls ≠ "java/lang/invoke/VarHandle") ∧
  (∀ sig, parseMethodDescriptor y.desc = some sig → n = sig.parameters.length) ∧ (Cond.methodLink own index y).before args s = true ∧ (Cond.static y).before args s = true
theorem vx_cwSW {own : String} {index maxL mc ms : Nat} {y : MethodName} {bytes : ByteArray} {ret : Option FieldType} {hh : List (Nat × Nat × Nat × Nat)} {Ts ws ws' : List Cond} {rm : Room} (n : Nat) (ht : ∀ w ∈ Ts, w.before args s = true) (hT : GoodIn Ts (va_wsS own index y ws)) (hw : ws = Cond.codeWith y bytes maxL ret hh :: ws') (hrc : rm.cells = mc) (hrs : rm.slots = ms)
    (hd : y.cls ≠ "java/lang/invoke/MethodHandle" ∧ y.cls ≠ "java/lang/invoke/VarHandle" ∧ (parseMethodDescriptor y.desc).map (fun d => d.parameters.length) = some n) (hR : rm.frames + 1 ≤ R.frames ∧ 8 + (maxL + 11) + rm.locals ≤ R.locals) :
    vx_CSW R s args own index y bytes maxL ret hh ws rm mc ms n := by
  have ok : ∀ w ∈ va_wsS own index y ws, w.before args s = true := fun w h => ht w (hT w h).1
  have hG : GoodIn Ts ws := fun w h => hT w (by unfold va_wsS; exact List.mem_append_right _ h)
  have hc : Cond.codeWith y bytes maxL ret hh ∈ ws := by rw [hw]; exact List.mem_cons_self
  refine ⟨⟨hrc, hrs, hR.1, hR.2, pay_in ht hG, hc⟩, ht _ (hG _ hc).1, ok _ (by simp [va_wsS]), ⟨hd.1, hd.2.1⟩, fun sig h => ?_, ok _ (by simp [va_wsS]), ok _ (by simp [va_wsS])⟩
  have h2 := hd.2.2
  rw [h] at h2
  exact (Option.some.inj h2).symm
theorem vx_callSW (X : Stand p l e R s m args below meth c T locs cells slots) (hexec : p.tables.exec = Jvm.exec) {own : String} {index : Nat} {y : MethodName} {bytes : ByteArray} {maxL : Nat} {ret : Option FieldType} {hh : List (Nat × Nat × Nat × Nat)}
    (hown : s.vm.findClass own = some m.cls) (hlink : (Cond.methodLink own index y).before args s = true) (hstat : (Cond.static y).before args s = true) (hinit : (Cond.initialized y.cls).before args s = true)
    (hcode : (Cond.codeWith y bytes maxL ret hh).before args s = true) (hy : y.cls ≠ "java/lang/invoke/MethodHandle" ∧ y.cls ≠ "java/lang/invoke/VarHandle")
    {W9 : Nat} {Pre : Pt → Array Value → Prop} {Post : Pt → Array Value → Option Value → Pt → Prop} (hK : Back l R p e below s args y 3 W9 Pre Post)
    {g : JFrame} (hg : g.method = m) (hsize : g.locals.size = c.maxLocals) {argsL rest : List Value} (hlen : ∀ sig, parseMethodDescriptor y.desc = some sig → argsL.length = sig.parameters.length)
    (hstack : g.stack = argsL.reverse ++ rest) (hW : 2 * g.monitorRoom + (rest.map fun v => v.category).sum ≤ W9) (hdg : decode c.code g.pc = .ok (.invokestatic index, 3))
    (hpre : ∀ vm₁, s.WarmedH vm₁ → Pre ⟨T.setVm vm₁, locs, cells, slots⟩ argsL.toArray) :
    ∃ (v : Option Value) (vm₁ : Vm) (B : Pt), s.WarmedH vm₁ ∧ Stand p l e R s m args below meth c B.U B.locs B.cells B.slots ∧ Post ⟨T.setVm vm₁, locs, cells, slots⟩ argsL.toArray v B ∧
      ∀ target, Steps p.tables e below (B.U.setTop { g with pc := g.pc + 3, stack := v.toList ++ rest }) target → Steps p.tables e below (T.setTop g) target := by
  obtain ⟨mk, methM, cM, hnamed, hmethM, -, -, -, -, -, -, hsigM⟩ := Cond.codeWith_spec hcode
  have hstatic : methM.isStatic = true := Cond.static_spec hnamed hmethM hstat
  obtain ⟨kP, hkP, -⟩ := className_of_methodNamed hnamed
  have hinitP : kP.init = .initialized := Cond.initialized_spec (findClass_of_methodNamed hnamed) hkP hinit
  obtain ⟨vm₁, X₁, hstep₁⟩ := X.invokestatic hexec hown hlink hnamed hmethM hstatic hkP hinitP hy (g := g) hg (argsL := argsL) (rest := rest) (hlen _ hsigM) hstack hdg
  obtain ⟨v, B, X', hpost, hsteps⟩ := hK m meth c ⟨T.setVm vm₁, locs, cells, slots⟩ { g with stack := rest } (.invokestatic index) mk argsL.toArray X₁ hg hsize hdg hW (X₁.named hnamed) (hpre vm₁ X₁.warmed)
  exact ⟨v, vm₁, B, X₁.warmed, X', hpost, fun target h => hstep₁ _ fun acts => by rw [doInvoke_state]; exact hsteps.trans h⟩
theorem vx_runSW {y : MethodName} {bytes cc : ByteArray} {maxL nL mc ms n index : Nat} {ret : Option FieldType} {hh : List (Nat × Nat × Nat × Nat)} {ws : List Cond} {rm : Room} {Pc : Array Value → State → Prop} {Qc : Array Value → State → Outcome → State → Prop} {free : Addr → Prop} {Ts : List Cond} {own : String} {As rest : List Value} {g : JFrame}
    (S : CallFix p m c cc nL s args Ts own) (hM : Met l y ws rm Pc Qc mc ms free) (cw : vx_CSW R s args own index y bytes maxL ret hh ws rm mc ms n) (hp : PreS s H Pc As)
    (hg : g.method = m) (hn : As.length = n) (hsize : g.locals.size = nL) (hstack : g.stack = As.reverse ++ rest) (hW : 2 * g.monitorRoom + (rest.map fun v => v.category).sum ≤ 8) (hdg : decode cc g.pc = .ok (.invokestatic index, 3)) (hf : cells + mc ≤ R.cells ∧ slots + ms ≤ R.slots) :
    va_Run p l e R s m args below meth c H locs cells slots mc ms g rest (Qc As.toArray) (free) := by
  obtain ⟨⟨hrc, hrs, hfr, hlo, hws, hcw⟩, hcode, hini, hy, hlen, hl, hstt⟩ := cw
  have hK : Back l R p e below s args y 3 8 (PreOf R mc ms Pc) (PostOf Qc mc ms free) := va_backW (hh := hh) (bytes := bytes) (maxL := maxL) (ret := ret) hM hp.1 hrc hrs hfr hlo hws hcw (fun a' U hW => word_at hW (Or.inl (by first | rfl | simp [Cond.onTables, Cond.keeps, Cond.steady])) hini)
  obtain ⟨hx, hb, hml, ho, -⟩ := S
  intro T hT X
  obtain ⟨v, vm₁, ⟨U', l2, c2, s2⟩, hW₁, X', ⟨g', mk, t, L, e1, e2, hq, h1, hL, h2, h3⟩, st⟩ := vx_callSW X hx (hh := hh) (bytes := bytes) (maxL := maxL) (ret := ret) ho hl hstt hini hcode hy hK hg (hsize.trans hml.symm) (argsL := As) (rest := rest) (fun sig h => hn.trans (hlen sig h)) hstack hW (by rw [hb]; exact hdg)
    (fun vm₁ hW₁ => ⟨hf.1, hf.2, hp.2 (T.setVm vm₁) hT hW₁⟩)
  dsimp only [Pt.U, Pt.locs, Pt.cells, Pt.slots] at X' e1 e2 h1 h2 h3 st
  subst h1; subst h2; subst h3
  exact ⟨v, (T.setVm vm₁).calling g' mk As.toArray, t, U', L, hT, X', hL, e1, e2, hq, st⟩
/-- not caught here, past rows that name other classes: it goes on to the caller -/
theorem vx_outP {p : Program} {l : Launch} {e : Env} {R : Room} {s : State} {m : MethodId} {args : Array Value} {below : List Frame} {meth : Method} {c : Code} {H : Heap} {locs : List Loc} {cells slots : Nat} {free : Addr → Prop} {ls : Array Slot} {rest : List Value} {Qc : Array Value → State → Outcome → State → Prop} {XC : String → State → State → Prop}
    {pc : Nat} {own E : String} {ce : Cell} {q : Addr} {mc ms : Nat} (hown : s.vm.findClass own = some m.cls) (hlocks : meth.locks = false)
    (hpass : ∀ z ∈ c.exceptionTable.toList, covers z pc = false ∨ (z.catchType ≠ 0 ∧ ∃ nm : String, (Cond.classLink own z.catchType nm).before args s = true ∧ va_Nc E nm s)) (hcell : H[q]? = some ce) (hv : ce.vm = .none) (hcl : s.vm.findClass E = some ce.cls)
    (hx : ∀ t : State, t.heap = H → s.vm.Alike t.vm → XC E s t) (hf : ∀ z ∈ locs, free z.base) (hc : cells ≤ mc) (hs : slots ≤ ms) :
    vx_W p l e R s m args below meth c H locs cells slots (vx_MQ below Qc XC args s mc ms free) (F0 m pc ls rest) q := by
  intro T hT X
  have hpl : e.platform.magicAccessors = ({} : Platform).magicAccessors := by rw [X.admits.platform]
  obtain ⟨vm', hW', X', st⟩ := X.outThrough hlocks q (g := F0 m pc ls rest) rfl rfl rfl (cell := ce) (by rw [hT]; exact hcell) (by rw [hv]; rfl)
    (by obtain ⟨k9, h9, -⟩ := Vm.findClass_spec hcl; exact ⟨k9, h9⟩) (fun z hz => by
      rcases hpass z hz with h | ⟨hz0, nm, hl1, hn1⟩
      · exact Or.inl h
      · obtain ⟨c6, hc6, hcl6⟩ := Cond.classLink_spec hown hl1 e.platform hpl
        obtain ⟨a8, b8, h1, h2, h3⟩ := hn1
        cases Option.some.inj (h1.symm.trans hcl)
        cases Option.some.inj (h2.symm.trans hc6)
        exact Or.inr ⟨hz0, _, hcl6, h3⟩)
  obtain ⟨g₀, hfr⟩ := X'.frames_eq
  have hcell9 : ((T.setVm vm').setFrames (.throwing q :: below)).heap[q]? = some ce := by
    show T.heap[q]? = some ce
    rw [hT]; exact hcell
  have hend : Ended ((T.setVm vm').setFrames (.throwing q :: below)) below (.threw q) := State.frames_setFrames _ (State.cur_lt_of_frames hfr)
  refine ⟨(T.setVm vm').setFrames (.throwing q :: below), ?_, .threw q, X'.here.running, hend, Or.inr ⟨q, rfl, E, ce, locs, hx _ hT (X'.ends _).1.alike, hcell9, hv, hcl, (X'.ends _).1, (X'.ends _).2.mono hc hs, hf⟩⟩
  rw [X.pushThrowing_eq]
  exact st
/-- a thing of a world lies in the heap -/
theorem vx_lt {D : va_G} {cl : List vw_C} {ws : va_W} {H1 : Heap} (h : va_P D cl ws H1) {k : Nat} {q : Nat × va_E} (hk : ws[k]? = some q) : q.1 < H1.size := (h k q hk).lt
end VXS
/-! ===== END ===== -/
/-! ===== BEGIN methods with a table of their own: called by a name, returning or throwing ===== -/
section VXH
/-! vx_backW, vx_callVX, vx_callSX, vx_callVW, vx_runVW, vx_runVX, vx_runSX, vx_ofWH follow the same proofs as their sisters above (Free/Laws.lean, Shelf42/LK1.lean); vx_outP calls Shelf42/NT130.lean (outThrough). -/
section
variable {l : Launch} {R : Room} {p : Program} {e : Env} {below : List Frame} {s : State} {sargs : Array Value} {y : MethodName} {len W9 : Nat}
theorem vx_backW {ws : List Cond} {rm : Room} {Pc : Array Value → State → Prop} {Qc : Array Value → State → Outcome → State → Prop} {XC : String → State → State → Prop} {mc ms : Nat} {free : Addr → Prop} {bytes : ByteArray} {maxL : Nat} {ret : Option FieldType} {hh : List (Nat × Nat × Nat × Nat)}
    (hM : vx_Met l y ws rm Pc Qc XC mc ms free) (hblind : FrameBlind Pc) (hrc : rm.cells = mc) (hrs : rm.slots = ms)
    (hframes : rm.frames + 1 ≤ R.frames) (hlocals : W9 + (maxL + 11) + rm.locals ≤ R.locals)
    (hws : ∀ w ∈ ws, ∀ a' U, s.WarmedH U.vm → w.before a' U = true) (hcode : Cond.codeWith y bytes maxL ret hh ∈ ws) (hinit : ∀ a' U, s.WarmedH U.vm → (Cond.initialized y.cls).before a' U = true) :
    vx_Back l R p e below s sargs y len W9 (PreOf R mc ms Pc) (PostOf Qc mc ms free) (vx_Post XC mc ms free) := by
  intro m meth c A g ig mk a X hg hsize hdg hW hn hp
  have h1 : (headSpec ws rm).pre.before a A.U = true := atoms_intro fun w hw => hws w hw _ _ X.warmed
  have h2 : (Cond.codeWith y bytes maxL ret hh).before a A.U = true := hws _ hcode _ _ X.warmed
  have h3 : (Cond.initialized y.cls).before a A.U = true := hinit _ _ X.warmed
  have h4 : A.cells + (headSpec ws rm).room.cells ≤ R.cells := by rw [show (headSpec ws rm).room.cells = mc from hrc]; exact hp.1
  have h5 : A.slots + (headSpec ws rm).room.slots ≤ R.slots := by rw [show (headSpec ws rm).room.slots = ms from hrs]; exact hp.2.1
  have hPc : Pc a (A.U.calling g mk a) := hblind _ _ _ _ hp.2.2
  obtain ⟨U, Ls, c0, s0⟩ := A
  dsimp only [Pt.U, Pt.locs, Pt.cells, Pt.slots] at h1 h2 h3 h4 h5 X hn hPc ⊢
  obtain ⟨m9, methY, cY, hn9, hmY, hcY, -, hlY, -⟩ := Cond.codeWith_spec h2
  cases Option.some.inj (hn9.symm.trans hn)
  obtain ⟨kY, hkY, -⟩ := className_of_methodNamed hn
  have hinitY : kY.init = .initialized := Cond.initialized_spec (findClass_of_methodNamed hn) hkY h3
  have h : At U g.method c below := by rw [hg]; exact X.here
  have hlocals9 : W9 + (maxL + 11) + (headSpec ws rm).room.locals ≤ R.locals := hlocals
  have happ : (headSpec ws rm).appliesLoose y e.platform (U.calling g mk a) = true :=
    Spec.appliesLoose_calling (g := g) h hdg hn hkY hinitY
      (X.room_calling (g := g) (R' := (headSpec ws rm).room) hsize hmY hcY hframes (by rw [hlY]; omega) h4 h5) h1
  obtain ⟨mid, hmid⟩ := h.above
  have hfr : (U.setTop g).frames = (.java g :: mid) ++ below := by rw [State.frames_setTop' g h.top, hmid]; rfl
  obtain ⟨o, s₂, hsteps, -, hend, hq⟩ := Steps.callFree hM p X.admits X.cas X.clock (acts := []) hfr happ hPc trivial
  have hq' : vx_Q Qc XC mc ms free a (U.calling g mk a) o s₂ := hq
  rw [State.frames_setTop' g h.top] at hend
  obtain ⟨g₀, hg0⟩ := Option.isSome_iff_exists.mp h.top
  obtain ⟨r, hr⟩ := State.topJava?_eq_some.mp hg0
  have hr' : (({ U with heap := s₂.heap, slotsUsed := s₂.slotsUsed } : State).setVm s₂.vm).frames = .java g₀ :: r := hr
  rcases hq' with ⟨hqc, L, hfe, hL⟩ | ⟨q, rfl, E, ce, L, hx, hce, hcv, hcl, hW₂, hsm, hL⟩
  · obtain ⟨⟨v, rfl⟩, hW₂, e2, q2, q3, q4, q5, q6⟩ := id hfe
    have e3 : s₂ = ({ (U.calling g mk a).setFrames s₂.frames with heap := s₂.heap, slotsUsed := s₂.slotsUsed } : State).setVm s₂.vm := by
      have : s₂ = ({ s₂ with vm := (U.calling g mk a).vm } : State).setVm s₂.vm := rfl
      rw [e2] at this
      exact this
    obtain ⟨c₂, i₂, len₂, hc₂, hd₂, hf₂⟩ := hend
    have hW' : U.WarmedH s₂.vm := hW₂
    have hcc : c₂ = c := by
      have h1 : s₂.code? g.method = U.code? g.method := by
        rw [State.code?_eq, State.code?_eq, hW'.alike.method?]
      exact Option.some.inj (hc₂.symm.trans (h1.trans h.code))
    subst hcc
    have hlen : len₂ = len := by rw [hdg] at hd₂; cases hd₂; rfl
    subst hlen
    have hs₂ : s₂ = (({ U with heap := s₂.heap, slotsUsed := s₂.slotsUsed } : State).setVm s₂.vm).setTop { g with pc := g.pc + len₂, stack := v.toList ++ g.stack } := by
      refine e3.trans ?_
      rw [hf₂, State.calling_eq h.top, State.setFrames_setFrames, State.setTop_of_frames _ hr', hr]
      rfl
    have hsame : U.sameButNew ({ U with heap := s₂.heap, slotsUsed := s₂.slotsUsed } : State) L mc ms := by
      refine ⟨?_, q2, q3, q4, q5, q6⟩
      obtain ⟨t, ht, -⟩ := State.frames_cons hr
      show ({ U with heap := s₂.heap, slotsUsed := s₂.slotsUsed } : State) = { U.setFrames U.frames with heap := s₂.heap, slotsUsed := s₂.slotsUsed }
      rw [State.setFrames_self ht]
    subst hg
    refine Or.inl ⟨v, ⟨(({ U with heap := s₂.heap, slotsUsed := s₂.slotsUsed } : State).setVm s₂.vm), Ls ++ L, c0 + mc, s0 + ms⟩,
      ⟨X.admits, X.cas, X.clock, X.frames, X.room, X.hears, X.method, X.code, (X.here.setHeapUsed s₂.heap s₂.slotsUsed).setVm hW'.alike, X.tail, State.WarmedH.trans X.warmed hW', X.limits, X.bytes, X.same.trans (hsame.setVm s.vm)⟩,
      ⟨g, mk, s₂, L, rfl, rfl, hqc, rfl, hL, rfl, rfl⟩, ?_⟩
    show Steps p.tables e below _ ((({ U with heap := s₂.heap, slotsUsed := s₂.slotsUsed } : State).setVm s₂.vm).setTop { g with pc := g.pc + len₂, stack := v.toList ++ g.stack })
    rw [← hs₂]
    exact hsteps
  · obtain ⟨e2, q2, q3, q4, q5, q6⟩ := id hsm
    have e3 : s₂ = ({ (U.calling g mk a).setFrames s₂.frames with heap := s₂.heap, slotsUsed := s₂.slotsUsed } : State).setVm s₂.vm := by
      have : s₂ = ({ s₂ with vm := (U.calling g mk a).vm } : State).setVm s₂.vm := rfl
      rw [e2] at this
      exact this
    have hf₂ : s₂.frames = .throwing q :: .java g :: U.frames.tail := hend
    have hW' : U.WarmedH s₂.vm := hW₂
    have hs₂ : s₂ = ((({ U with heap := s₂.heap, slotsUsed := s₂.slotsUsed } : State).setVm s₂.vm).setTop g).pushFrame (.throwing q) := by
      refine e3.trans ?_
      rw [hf₂, State.calling_eq h.top, State.setFrames_setFrames, State.pushFrame, State.frames_setTop _ hr', State.setTop_of_frames _ hr', State.setFrames_setFrames, hr]
      rfl
    have hsame : U.sameButNew ({ U with heap := s₂.heap, slotsUsed := s₂.slotsUsed } : State) L mc ms := by
      refine ⟨?_, q2, q3, q4, q5, q6⟩
      obtain ⟨t, ht, -⟩ := State.frames_cons hr
      show ({ U with heap := s₂.heap, slotsUsed := s₂.slotsUsed } : State) = { U.setFrames U.frames with heap := s₂.heap, slotsUsed := s₂.slotsUsed }
      rw [State.setFrames_self ht]
    subst hg
    refine Or.inr ⟨q, ⟨(({ U with heap := s₂.heap, slotsUsed := s₂.slotsUsed } : State).setVm s₂.vm), Ls ++ L, c0 + mc, s0 + ms⟩,
      ⟨X.admits, X.cas, X.clock, X.frames, X.room, X.hears, X.method, X.code, (X.here.setHeapUsed s₂.heap s₂.slotsUsed).setVm hW'.alike, X.tail, State.WarmedH.trans X.warmed hW', X.limits, X.bytes, X.same.trans (hsame.setVm s.vm)⟩,
      ⟨g, mk, s₂, L, E, ce, rfl, rfl, hx, hce, hcv, hcl, rfl, hL, rfl, rfl⟩, ?_⟩
    show Steps p.tables e below _ (((({ U with heap := s₂.heap, slotsUsed := s₂.slotsUsed } : State).setVm s₂.vm).setTop g).pushFrame (.throwing q))
    rw [← hs₂]
    exact hsteps
end
variable {p : Program} {l : Launch} {e : Env} {R : Room} {s : State} {m : MethodId} {args : Array Value} {below : List Frame} {meth : Method} {c : Code} {T : State} {H : Heap} {locs : List Loc} {cells slots : Nat}
theorem vx_callVX (X : Stand p l e R s m args below meth c T locs cells slots) (hexec : p.tables.exec = Jvm.exec) {own C : String} {index : Nat} {y : MethodName} {bytes : ByteArray} {maxL : Nat} {ret : Option FieldType} {hh : List (Nat × Nat × Nat × Nat)}
    (hown : s.vm.findClass own = some m.cls) (hlink : (Cond.methodLink own index y).before args s = true) (hinst : (Cond.instanceMethod y).before args s = true) (hsel : (Cond.selects C y y).before args s = true)
    (hcode : (Cond.codeWith y bytes maxL ret hh).before args s = true) (hy : y.cls ≠ "java/lang/invoke/MethodHandle" ∧ y.cls ≠ "java/lang/invoke/VarHandle")
    {W9 : Nat} {Pre : Pt → Array Value → Prop} {Post : Pt → Array Value → Option Value → Pt → Prop} {PostX : Pt → Array Value → Addr → Pt → Prop} (hK : vx_Back l R p e below s args y 3 W9 Pre Post PostX)
    {b : Addr} {cellB : Cell} (hcell : T.heap[b]? = some cellB) (hobj : cellB.vm.isStatics = false) (hcls : s.vm.findClass C = some cellB.cls)
    {g : JFrame} (hg : g.method = m) (hsize : g.locals.size = c.maxLocals) {argsL rest : List Value} (hlen : ∀ sig, parseMethodDescriptor y.desc = some sig → argsL.length = sig.parameters.length)
    (hstack : g.stack = argsL.reverse ++ .ref b :: rest) (hW : 2 * g.monitorRoom + (rest.map fun v => v.category).sum ≤ W9) (hdg : decode c.code g.pc = .ok (.invokevirtual index, 3))
    (hpre : ∀ vm₁, s.WarmedH vm₁ → Pre ⟨T.setVm vm₁, locs, cells, slots⟩ (Value.ref b :: argsL).toArray) :
    (∃ (v : Option Value) (vm₁ : Vm) (B : Pt), s.WarmedH vm₁ ∧ Stand p l e R s m args below meth c B.U B.locs B.cells B.slots ∧ Post ⟨T.setVm vm₁, locs, cells, slots⟩ (Value.ref b :: argsL).toArray v B ∧
      ∀ target, Steps p.tables e below (B.U.setTop { g with pc := g.pc + 3, stack := v.toList ++ rest }) target → Steps p.tables e below (T.setTop g) target) ∨
    (∃ (q : Addr) (vm₁ : Vm) (B : Pt), s.WarmedH vm₁ ∧ Stand p l e R s m args below meth c B.U B.locs B.cells B.slots ∧ PostX ⟨T.setVm vm₁, locs, cells, slots⟩ (Value.ref b :: argsL).toArray q B ∧
      Steps p.tables e below (T.setTop g) ((B.U.setTop { g with stack := rest }).pushFrame (.throwing q))) := by
  obtain ⟨mk, methM, hnamed, hmethM, hstM, habM⟩ := Cond.instanceMethod_spec hinst
  obtain ⟨m8, methM', cM, hn8, hmethM', -, -, -, -, -, -, hsigM⟩ := Cond.codeWith_spec hcode
  cases Option.some.inj (hn8.symm.trans hnamed)
  cases hmethM.symm.trans hmethM'
  obtain ⟨c2, r2, m2, q1, q2, q3, q4, kP, hkP, hkPi⟩ := Cond.selects_spec hsel
  cases hcls.symm.trans q1
  cases (State.methodFound?_of_named hnamed hy).symm.trans q2
  cases hnamed.symm.trans q3
  have hselP : selectMethod e.platform s.vm cellB.cls mk = .method mk := by rw [Launch.admits_selectMethod X.admits]; exact q4
  obtain ⟨vm₁, X₁, hstep₁⟩ := X.invokevirtual hexec hown hlink hnamed hmethM hstM hkP hkPi hy (a := b) (cell := cellB) hcell
    (fun z h => by rw [h] at hobj; cases hobj) hselP hmethM habM hkP hkPi (g := g) hg (argsL := argsL) (rest := rest) (hlen _ hsigM) hstack hdg
  rcases hK m meth c ⟨T.setVm vm₁, locs, cells, slots⟩ { g with stack := rest } (.invokevirtual index) mk (Value.ref b :: argsL).toArray X₁ hg hsize hdg hW (X₁.named hnamed) (hpre vm₁ X₁.warmed) with ⟨v, B, X', hpost, hsteps⟩ | ⟨q, B, X', hpost, hsteps⟩
  · exact Or.inl ⟨v, vm₁, B, X₁.warmed, X', hpost, fun target h => hstep₁ _ fun acts => by rw [doInvoke_state]; exact hsteps.trans h⟩
  · exact Or.inr ⟨q, vm₁, B, X₁.warmed, X', hpost, hstep₁ _ fun acts => by rw [doInvoke_state]; exact hsteps⟩
theorem vx_callSX (X : Stand p l e R s m args below meth c T locs cells slots) (hexec : p.tables.exec = Jvm.exec) {own : String} {index : Nat} {y : MethodName} {bytes : ByteArray} {maxL : Nat} {ret : Option FieldType} {hh : List (Nat × Nat × Nat × Nat)}
    (hown : s.vm.findClass own = some m.cls) (hlink : (Cond.methodLink own index y).before args s = true) (hstat : (Cond.static y).before args s = true) (hinit : (Cond.initialized y.cls).before args s = true)
    (hcode : (Cond.codeWith y bytes maxL ret hh).before args s = true) (hy : y.cls ≠ "java/lang/invoke/MethodHandle" ∧ y.cls ≠ "java/lang/invoke/VarHandle")
    {W9 : Nat} {Pre : Pt → Array Value → Prop} {Post : Pt → Array Value → Option Value → Pt → Prop} {PostX : Pt → Array Value → Addr → Pt → Prop} (hK : vx_Back l R p e below s args y 3 W9 Pre Post PostX)
    {g : JFrame} (hg : g.method = m) (hsize : g.locals.size = c.maxLocals) {argsL rest : List Value} (hlen : ∀ sig, parseMethodDescriptor y.desc = some sig → argsL.length = sig.parameters.length)
    (hstack : g.stack = argsL.reverse ++ rest) (hW : 2 * g.monitorRoom + (rest.map fun v => v.category).sum ≤ W9) (hdg : decode c.code g.pc = .ok (.invokestatic index, 3))
    (hpre : ∀ vm₁, s.WarmedH vm₁ → Pre ⟨T.setVm vm₁, locs, cells, slots⟩ argsL.toArray) :
    (∃ (v : Option Value) (vm₁ : Vm) (B : Pt), s.WarmedH vm₁ ∧ Stand p l e R s m args below meth c B.U B.locs B.cells B.slots ∧ Post ⟨T.setVm vm₁, locs, cells, slots⟩ argsL.toArray v B ∧
      ∀ target, Steps p.tables e below (B.U.setTop { g with pc := g.pc + 3, stack := v.toList ++ rest }) target → Steps p.tables e below (T.setTop g) target) ∨
    (∃ (q : Addr) (vm₁ : Vm) (B : Pt), s.WarmedH vm₁ ∧ Stand p l e R s m args below meth c B.U B.locs B.cells B.slots ∧ PostX ⟨T.setVm vm₁, locs, cells, slots⟩ argsL.toArray q B ∧
      Steps p.tables e below (T.setTop g) ((B.U.setTop { g with stack := rest }).pushFrame (.throwing q))) := by
  obtain ⟨mk, methM, cM, hnamed, hmethM, -, -, -, -, -, -, hsigM⟩ := Cond.codeWith_spec hcode
  have hstatic : methM.isStatic = true := Cond.static_spec hnamed hmethM hstat
  obtain ⟨kP, hkP, -⟩ := className_of_methodNamed hnamed
  have hinitP : kP.init = .initialized := Cond.initialized_spec (findClass_of_methodNamed hnamed) hkP hinit
  obtain ⟨vm₁, X₁, hstep₁⟩ := X.invokestatic hexec hown hlink hnamed hmethM hstatic hkP hinitP hy (g := g) hg (argsL := argsL) (rest := rest) (hlen _ hsigM) hstack hdg
  rcases hK m meth c ⟨T.setVm vm₁, locs, cells, slots⟩ { g with stack := rest } (.invokestatic index) mk argsL.toArray X₁ hg hsize hdg hW (X₁.named hnamed) (hpre vm₁ X₁.warmed) with ⟨v, B, X', hpost, hsteps⟩ | ⟨q, B, X', hpost, hsteps⟩
  · exact Or.inl ⟨v, vm₁, B, X₁.warmed, X', hpost, fun target h => hstep₁ _ fun acts => by rw [doInvoke_state]; exact hsteps.trans h⟩
  · exact Or.inr ⟨q, vm₁, B, X₁.warmed, X', hpost, hstep₁ _ fun acts => by rw [doInvoke_state]; exact hsteps⟩
theorem vx_callVW (X : Stand p l e R s m args below meth c T locs cells slots) (hexec : p.tables.exec = Jvm.exec) {own C : String} {index : Nat} {y : MethodName} {bytes : ByteArray} {maxL : Nat} {ret : Option FieldType} {hh : List (Nat × Nat × Nat × Nat)}
    (hown : s.vm.findClass own = some m.cls) (hlink : (Cond.methodLink own index y).before args s = true) (hinst : (Cond.instanceMethod y).before args s = true) (hsel : (Cond.selects C y y).before args s = true)
    (hcode : (Cond.codeWith y bytes maxL ret hh).before args s = true) (hy : y.cls ≠ "java/lang/invoke/MethodHandle" ∧ y.cls ≠ "java/lang/invoke/VarHandle")
    {W9 : Nat} {Pre : Pt → Array Value → Prop} {Post : Pt → Array Value → Option Value → Pt → Prop} (hK : Back l R p e below s args y 3 W9 Pre Post)
    {b : Addr} {cellB : Cell} (hcell : T.heap[b]? = some cellB) (hobj : cellB.vm.isStatics = false) (hcls : s.vm.findClass C = some cellB.cls)
    {g : JFrame} (hg : g.method = m) (hsize : g.locals.size = c.maxLocals) {argsL rest : List Value} (hlen : ∀ sig, parseMethodDescriptor y.desc = some sig → argsL.length = sig.parameters.length)
    (hstack : g.stack = argsL.reverse ++ .ref b :: rest) (hW : 2 * g.monitorRoom + (rest.map fun v => v.category).sum ≤ W9) (hdg : decode c.code g.pc = .ok (.invokevirtual index, 3))
    (hpre : ∀ vm₁, s.WarmedH vm₁ → Pre ⟨T.setVm vm₁, locs, cells, slots⟩ (Value.ref b :: argsL).toArray) :
    ∃ (v : Option Value) (vm₁ : Vm) (B : Pt), s.WarmedH vm₁ ∧ Stand p l e R s m args below meth c B.U B.locs B.cells B.slots ∧ Post ⟨T.setVm vm₁, locs, cells, slots⟩ (Value.ref b :: argsL).toArray v B ∧
      ∀ target, Steps p.tables e below (B.U.setTop { g with pc := g.pc + 3, stack := v.toList ++ rest }) target → Steps p.tables e below (T.setTop g) target := by
  obtain ⟨mk, methM, hnamed, hmethM, hstM, habM⟩ := Cond.instanceMethod_spec hinst
  obtain ⟨m8, methM', cM, hn8, hmethM', -, -, -, -, -, -, hsigM⟩ := Cond.codeWith_spec hcode
  cases Option.some.inj (hn8.symm.trans hnamed)
  cases hmethM.symm.trans hmethM'
  obtain ⟨c2, r2, m2, q1, q2, q3, q4, kP, hkP, hkPi⟩ := Cond.selects_spec hsel
  cases hcls.symm.trans q1
  cases (State.methodFound?_of_named hnamed hy).symm.trans q2
  cases hnamed.symm.trans q3
  have hselP : selectMethod e.platform s.vm cellB.cls mk = .method mk := by rw [Launch.admits_selectMethod X.admits]; exact q4
  obtain ⟨vm₁, X₁, hstep₁⟩ := X.invokevirtual hexec hown hlink hnamed hmethM hstM hkP hkPi hy (a := b) (cell := cellB) hcell
    (fun z h => by rw [h] at hobj; cases hobj) hselP hmethM habM hkP hkPi (g := g) hg (argsL := argsL) (rest := rest) (hlen _ hsigM) hstack hdg
  obtain ⟨v, B, X', hpost, hsteps⟩ := hK m meth c ⟨T.setVm vm₁, locs, cells, slots⟩ { g with stack := rest } (.invokevirtual index) mk (Value.ref b :: argsL).toArray X₁ hg hsize hdg hW (X₁.named hnamed) (hpre vm₁ X₁.warmed)
  exact ⟨v, vm₁, B, X₁.warmed, X', hpost, fun target h => hstep₁ _ fun acts => by rw [doInvoke_state]; exact hsteps.trans h⟩
abbrev vx_CVW (R : Room) (s : State) (args : Array Value) (own C : String) (index : Nat) (y : MethodName) (bytes : ByteArray) (maxL : Nat) (ret : Option FieldType) (hh : List (Nat × Nat × Nat × Nat)) (ws : List Cond) (rm : Room) (mc ms n : Nat) : Prop :=
  (rm.cells = mc ∧ rm.slots = ms ∧ rm.frames + 1 ≤ R.frames ∧ 8 + (maxL + 11) + rm.locals ≤ R.locals ∧ (∀ w ∈ ws, ∀ (a' : Array Value) (U : State), s.WarmedH U.vm → w.before a' U = true) ∧ Cond.codeWith y bytes maxL ret hh ∈ ws) ∧
  (Cond.codeWith y bytes maxL ret hh).before args s = true ∧ (Cond.initialized y.cls).before args s = true ∧ (y.cls ≠ "java/lang/invoke/MethodHandle" ∧ y.cls ≠ "java/lang/invoke/VarHandle") ∧
  (∀ sig, parseMethodDescriptor y.desc = some sig → n = sig.parameters.length) ∧ (Cond.methodLink own index y).before args s = true ∧ (Cond.instanceMethod y).before args s = true ∧ (Cond.selects C y y).before args s = true
theorem vx_cwVW {own C : String} {index maxL mc ms : Nat} {y : MethodName} {bytes : ByteArray} {ret : Option FieldType} {hh : List (Nat × Nat × Nat × Nat)} {Ts ws ws' : List Cond} {rm : Room} (n : Nat) (ht : ∀ w ∈ Ts, w.before args s = true) (hT : GoodIn Ts (wsV own index C y ws)) (hw : ws = Cond.codeWith y bytes maxL ret hh :: ws') (hrc : rm.cells = mc) (hrs : rm.slots = ms)
    (hd : y.cls = C ∧ y.cls ≠ "java/lang/invoke/MethodHandle" ∧ y.cls ≠ "java/lang/invoke/VarHandle" ∧ (parseMethodDescriptor y.desc).map (fun d => d.parameters.length) = some n) (hR : rm.frames + 1 ≤ R.frames ∧ 8 + (maxL + 11) + rm.locals ≤ R.locals) :
    vx_CVW R s args own C index y bytes maxL ret hh ws rm mc ms n := by
  obtain ⟨hC, hd⟩ := hd
  subst hC
  have ok : ∀ w ∈ wsV own index y.cls y ws, w.before args s = true := fun w h => ht w (hT w h).1
  have hG : GoodIn Ts ws := fun w h => hT w (by unfold wsV; exact List.mem_append_right _ h)
  have hc : Cond.codeWith y bytes maxL ret hh ∈ ws := by rw [hw]; exact List.mem_cons_self
  refine ⟨⟨hrc, hrs, hR.1, hR.2, pay_in ht hG, hc⟩, ht _ (hG _ hc).1, ok _ (by simp [wsV]), ⟨hd.1, hd.2.1⟩, fun sig h => ?_, ok _ (by simp [wsV]), ok _ (by simp [wsV]), ok _ (by simp [wsV])⟩
  have h2 := hd.2.2
  rw [h] at h2
  exact (Option.some.inj h2).symm
theorem vx_runVW {y : MethodName} {bytes cc : ByteArray} {maxL nL mc ms n index : Nat} {ret : Option FieldType} {hh : List (Nat × Nat × Nat × Nat)} {ws : List Cond} {rm : Room} {Pc : Array Value → State → Prop} {Qc : Array Value → State → Outcome → State → Prop} {free : Addr → Prop} {Ts : List Cond} {own C : String} {b : Addr} {As rest : List Value} {g : JFrame}
    (S : CallFix p m c cc nL s args Ts own) (hM : Met l y ws rm Pc Qc mc ms free) (cw : vx_CVW R s args own C index y bytes maxL ret hh ws rm mc ms n) (hp : PreV s H C b Pc As)
    (hg : g.method = m) (hn : As.length = n) (hsize : g.locals.size = nL) (hstack : g.stack = As.reverse ++ .ref b :: rest) (hW : 2 * g.monitorRoom + (rest.map fun v => v.category).sum ≤ 8) (hdg : decode cc g.pc = .ok (.invokevirtual index, 3)) (hf : cells + mc ≤ R.cells ∧ slots + ms ≤ R.slots) :
    va_Run p l e R s m args below meth c H locs cells slots mc ms g rest (Qc (Value.ref b :: As).toArray) free := by
  obtain ⟨⟨hrc, hrs, hfr, hlo, hws, hcw⟩, hcode, hini, hy, hlen, hl, hin, hse⟩ := cw
  have hK : Back l R p e below s args y 3 8 (PreOf R mc ms Pc) (PostOf Qc mc ms free) := va_backW (hh := hh) (bytes := bytes) (maxL := maxL) (ret := ret) hM hp.1 hrc hrs hfr hlo hws hcw (fun a' U hW => word_at hW (Or.inl (by first | rfl | simp [Cond.onTables, Cond.keeps, Cond.steady])) hini)
  obtain ⟨hx, hb, hml, ho, -⟩ := S
  obtain ⟨-, ⟨cellB, hcB, hoB, hclB⟩, hPc⟩ := hp
  intro T hT X
  obtain ⟨v, vm₁, ⟨U', l2, c2, s2⟩, hW₁, X', ⟨g', mk, t, L, e1, e2, hq, h1, hL, h2, h3⟩, st⟩ := vx_callVW X hx (C := C) (hh := hh) (bytes := bytes) (maxL := maxL) (ret := ret) ho hl hin hse hcode hy hK (by rw [hT]; exact hcB) hoB hclB hg (hsize.trans hml.symm) (argsL := As) (rest := rest) (fun sig h => hn.trans (hlen sig h)) hstack hW (by rw [hb]; exact hdg)
    (fun vm₁ hW₁ => ⟨hf.1, hf.2, hPc (T.setVm vm₁) hT hW₁⟩)
  dsimp only [Pt.U, Pt.locs, Pt.cells, Pt.slots] at X' e1 e2 h1 h2 h3 st
  subst h1; subst h2; subst h3
  exact ⟨v, (T.setVm vm₁).calling g' mk (Value.ref b :: As).toArray, t, U', L, hT, X', hL, e1, e2, hq, st⟩
section
variable {y : MethodName} {bytes cc : ByteArray} {maxL nL mc ms n index : Nat} {ret : Option FieldType} {ws : List Cond} {rm : Room} {Pc : Array Value → State → Prop} {Qc : Array Value → State → Outcome → State → Prop} {XC : String → State → State → Prop} {free : Addr → Prop} {Ts : List Cond} {own C : String} {b : Addr} {As rest : List Value} {g : JFrame}
theorem vx_runVX {hh : List (Nat × Nat × Nat × Nat)} (S : CallFix p m c cc nL s args Ts own) (hM : vx_Met l y ws rm Pc Qc XC mc ms free) (cw : vx_CVW R s args own C index y bytes maxL ret hh ws rm mc ms n) (hp : PreV s H C b Pc As)
    (hg : g.method = m) (hn : As.length = n) (hsize : g.locals.size = nL) (hstack : g.stack = As.reverse ++ .ref b :: rest) (hW : 2 * g.monitorRoom + (rest.map fun v => v.category).sum ≤ 8) (hdg : decode cc g.pc = .ok (.invokevirtual index, 3)) (hf : cells + mc ≤ R.cells ∧ slots + ms ≤ R.slots) :
    vx_Run p l e R s m args below meth c H locs cells slots mc ms g rest (Qc (Value.ref b :: As).toArray) XC free := by
  obtain ⟨⟨hrc, hrs, hfr, hlo, hws, hcw⟩, hcode, hini, hy, hlen, hl, hin, hse⟩ := cw
  have hK : vx_Back l R p e below s args y 3 8 (PreOf R mc ms Pc) (PostOf Qc mc ms free) (vx_Post XC mc ms free) := vx_backW (hh := hh) (bytes := bytes) (maxL := maxL) (ret := ret) hM hp.1 hrc hrs hfr hlo hws hcw (fun a' U hW => word_at hW (Or.inl (by first | rfl | simp [Cond.onTables, Cond.keeps, Cond.steady])) hini)
  obtain ⟨hx, hb, hml, ho, -⟩ := S
  obtain ⟨-, ⟨cellB, hcB, hoB, hclB⟩, hPc⟩ := hp
  intro T hT X
  rcases vx_callVX X hx (C := C) (hh := hh) (bytes := bytes) (maxL := maxL) (ret := ret) ho hl hin hse hcode hy hK (by rw [hT]; exact hcB) hoB hclB hg (hsize.trans hml.symm) (argsL := As) (rest := rest) (fun sig h => hn.trans (hlen sig h)) hstack hW (by rw [hb]; exact hdg)
    (fun vm₁ hW₁ => ⟨hf.1, hf.2, hPc (T.setVm vm₁) hT hW₁⟩) with ⟨v, vm₁, ⟨U', l2, c2, s2⟩, hW₁, X', ⟨g', mk, t, L, e1, e2, hq, h1, hL, h2, h3⟩, st⟩ | ⟨q, vm₁, ⟨U', l2, c2, s2⟩, hW₁, X', ⟨g', mk, t, L, E, ce, e1, e2, hq, hce, hcv, hcl, h1, hL, h2, h3⟩, st⟩
  · dsimp only [Pt.U, Pt.locs, Pt.cells, Pt.slots] at X' e1 e2 h1 h2 h3 st
    subst h1; subst h2; subst h3
    exact Or.inl ⟨v, (T.setVm vm₁).calling g' mk (Value.ref b :: As).toArray, t, U', L, hT, X', hL, e1, e2, hq, st⟩
  · dsimp only [Pt.U, Pt.locs, Pt.cells, Pt.slots] at X' e1 e2 h1 h2 h3 st hcl
    subst h1; subst h2; subst h3
    exact Or.inr ⟨q, (T.setVm vm₁).calling g' mk (Value.ref b :: As).toArray, t, U', L, E, ce, hT, X', hL, e1, e2, hq, hce, hcv, vx_cls hW₁ hcl, st⟩
theorem vx_runSX {hh : List (Nat × Nat × Nat × Nat)} (S : CallFix p m c cc nL s args Ts own) (hM : vx_Met l y ws rm Pc Qc XC mc ms free) (cw : vx_CSW R s args own index y bytes maxL ret hh ws rm mc ms n) (hp : PreS s H Pc As)
    (hg : g.method = m) (hn : As.length = n) (hsize : g.locals.size = nL) (hstack : g.stack = As.reverse ++ rest) (hW : 2 * g.monitorRoom + (rest.map fun v => v.category).sum ≤ 8) (hdg : decode cc g.pc = .ok (.invokestatic index, 3)) (hf : cells + mc ≤ R.cells ∧ slots + ms ≤ R.slots) :
    vx_Run p l e R s m args below meth c H locs cells slots mc ms g rest (Qc As.toArray) XC free := by
  obtain ⟨⟨hrc, hrs, hfr, hlo, hws, hcw⟩, hcode, hini, hy, hlen, hl, hstt⟩ := cw
  have hK : vx_Back l R p e below s args y 3 8 (PreOf R mc ms Pc) (PostOf Qc mc ms free) (vx_Post XC mc ms free) := vx_backW (hh := hh) (bytes := bytes) (maxL := maxL) (ret := ret) hM hp.1 hrc hrs hfr hlo hws hcw (fun a' U hW => word_at hW (Or.inl (by first | rfl | simp [Cond.onTables, Cond.keeps, Cond.steady])) hini)
  obtain ⟨hx, hb, hml, ho, -⟩ := S
  intro T hT X
  rcases vx_callSX X hx (hh := hh) (bytes := bytes) (maxL := maxL) (ret := ret) ho hl hstt hini hcode hy hK hg (hsize.trans hml.symm) (argsL := As) (rest := rest) (fun sig h => hn.trans (hlen sig h)) hstack hW (by rw [hb]; exact hdg)
    (fun vm₁ hW₁ => ⟨hf.1, hf.2, hp.2 (T.setVm vm₁) hT hW₁⟩) with ⟨v, vm₁, ⟨U', l2, c2, s2⟩, hW₁, X', ⟨g', mk, t, L, e1, e2, hq, h1, hL, h2, h3⟩, st⟩ | ⟨q, vm₁, ⟨U', l2, c2, s2⟩, hW₁, X', ⟨g', mk, t, L, E, ce, e1, e2, hq, hce, hcv, hcl, h1, hL, h2, h3⟩, st⟩
  · dsimp only [Pt.U, Pt.locs, Pt.cells, Pt.slots] at X' e1 e2 h1 h2 h3 st
    subst h1; subst h2; subst h3
    exact Or.inl ⟨v, (T.setVm vm₁).calling g' mk As.toArray, t, U', L, hT, X', hL, e1, e2, hq, st⟩
  · dsimp only [Pt.U, Pt.locs, Pt.cells, Pt.slots] at X' e1 e2 h1 h2 h3 st hcl
    subst h1; subst h2; subst h3
    exact Or.inr ⟨q, (T.setVm vm₁).calling g' mk As.toArray, t, U', L, E, ce, hT, X', hL, e1, e2, hq, hce, hcv, vx_cls hW₁ hcl, st⟩
end
end VXH
theorem vx_ofWH {l : Launch} {y : MethodName} {ws ws' : List Cond} {rm : Room} {Pc : Array Value → State → Prop} {Qc : Array Value → State → Outcome → State → Prop} {XC : String → State → State → Prop} {mc ms : Nat} {free : Addr → Prop} {cc : ByteArray} {maxL : Nat} {ret : Option FieldType} {hh : List (Nat × Nat × Nat × Nat)}
    (hy : plainName y.cls = true) (hw : ws = Cond.codeWith y cc maxL ret hh :: ws')
    (body : ∀ p e s m args below meth c s₁, BodyLoose p l y (headSpec ws rm) cc maxL ret e s m args below meth c s₁ → c.maxLocals = maxL → Pc args s →
      W p l e (headSpec ws rm).room s m args below meth c s.heap [] 0 0 (vx_MQ below Qc XC args s mc ms free) (entryFrame m args maxL)) : vx_Met l y ws rm Pc Qc XC mc ms free := by
  refine MetFree.of_bodyS (code := cc) (maxLocals := maxL) (ret := ret) hy ?_ ?_
  · intro args s m h hn
    obtain ⟨m9, meth, c, hn9, h1, h2, h3, h4, -, h5, h6, -⟩ := Cond.codeWith_spec (atoms_spec (ws := ws) h _ (by rw [hw]; exact List.mem_cons_self))
    cases hn.symm.trans hn9
    exact ⟨meth, c, h1, h2, h3, h4, h5, h6⟩
  · intro p e s m args below meth c s₁ B hml hP _
    have hh0 : s₁.heap = s.heap := by rw [B.state]; rfl
    obtain ⟨t, a1, o, b1, b2, b3⟩ := body p e s m args below meth c s₁ B hml hP s₁ hh0 (Stand.of_body B)
    exact ⟨t, o, a1, b1, b2, b3⟩
/-! ===== END ===== -/
end
section
def RX0 : String := "CoreLeases$Cores"
def TX0 : u_T := fun k => match k with
  | 0 => ("CoreLeases$Cores", "ones", "J", false)
  | 1 => ("CoreLeases$Cores", "strength", "[I", true)
  | 2 => ("CoreLeases$Cores", "tenantOf", "[I", true)
  | 3 => ("CoreLeases$Cores", "leaseEnd", "[I", true)
  | 4 => ("CoreLeases$Cores", "insurerOf", "[I", true)
  | 5 => ("CoreLeases$Cores", "policyEnd", "[I", true)
  | _ => ("CoreLeases$Cores", "lost", "[I", true)
def tyX0 : Nat → FieldType := fun k => match k with
  | 0 => .long
  | 1 => .array .int
  | 2 => .array .int
  | 3 => .array .int
  | 4 => .array .int
  | 5 => .array .int
  | _ => .array .int
abbrev wsX00 : List Cond := u_ws RX0 TX0 7
theorem nmX0 : ∀ a, a < 7 → ∀ b, b < 7 → a ≠ b → (TX0 a).2.1 ≠ (TX0 b).2.1 := by decide +kernel
theorem tyX0_ok : ∀ k, k < 7 → parseFieldDescriptor (TX0 k).2.2.1 = some (tyX0 k) := by decide +kernel
abbrev cX0_init : ByteArray := prog_2_method_1_code
def yX0_init : MethodName := ⟨RX0, "<init>", "()V"⟩
abbrev cX0_become : ByteArray := prog_2_method_2_code
def yX0_become : MethodName := ⟨RX0, "become", "(LCoreLeases$Cores;)V"⟩
abbrev cX0_isOne : ByteArray := prog_2_method_3_code
def yX0_isOne : MethodName := ⟨RX0, "isOne", "(I)Z"⟩
abbrev cX0_bitOf : ByteArray := prog_2_method_4_code
def yX0_bitOf : MethodName := ⟨RX0, "bitOf", "(I)I"⟩
abbrev cX0_putBit : ByteArray := prog_2_method_5_code
def yX0_putBit : MethodName := ⟨RX0, "putBit", "(IZ)V"⟩
abbrev cX0_isLeased : ByteArray := prog_2_method_6_code
def yX0_isLeased : MethodName := ⟨RX0, "isLeased", "(I)Z"⟩
abbrev cX0_isLeasedTo : ByteArray := prog_2_method_7_code
def yX0_isLeasedTo : MethodName := ⟨RX0, "isLeasedTo", "(II)Z"⟩
abbrev cX0_hasPolicy : ByteArray := prog_2_method_8_code
def yX0_hasPolicy : MethodName := ⟨RX0, "hasPolicy", "(I)Z"⟩
abbrev cX0_endPolicy : ByteArray := prog_2_method_9_code
def yX0_endPolicy : MethodName := ⟨RX0, "endPolicy", "(I)V"⟩
abbrev cX0_endLease : ByteArray := prog_2_method_10_code
def yX0_endLease : MethodName := ⟨RX0, "endLease", "(I)V"⟩
abbrev cX0_leasesOf : ByteArray := prog_2_method_11_code
def yX0_leasesOf : MethodName := ⟨RX0, "leasesOf", "(I)J"⟩
abbrev cX0_insured : ByteArray := prog_2_method_12_code
def yX0_insured : MethodName := ⟨RX0, "insured", "()J"⟩
abbrev cX0_leasedTo : ByteArray := prog_2_method_13_code
def yX0_leasedTo : MethodName := ⟨RX0, "leasedTo", "(I)I"⟩
abbrev cX0_insuredOf : ByteArray := prog_2_method_14_code
def yX0_insuredOf : MethodName := ⟨RX0, "insuredOf", "(I)I"⟩
abbrev cX0_leasedInAll : ByteArray := prog_2_method_15_code
def yX0_leasedInAll : MethodName := ⟨RX0, "leasedInAll", "()I"⟩
abbrev cX0_insuredInAll : ByteArray := prog_2_method_16_code
def yX0_insuredInAll : MethodName := ⟨RX0, "insuredInAll", "()I"⟩
abbrev cX0_insuredBy : ByteArray := prog_2_method_17_code
def yX0_insuredBy : MethodName := ⟨RX0, "insuredBy", "(I)I"⟩
abbrev cX0_onesBelow : ByteArray := prog_2_method_18_code
def yX0_onesBelow : MethodName := ⟨RX0, "onesBelow", "(I)J"⟩
abbrev cX0_nextWeakest : ByteArray := prog_2_method_19_code
def yX0_nextWeakest : MethodName := ⟨RX0, "nextWeakest", "(I)I"⟩
abbrev cX0_isWeaker : ByteArray := prog_2_method_20_code
def yX0_isWeaker : MethodName := ⟨RX0, "isWeaker", "(II)Z"⟩
def RX1 : String := "CoreLeases$Debts"
def TX1 : u_T := fun k => match k with
  | 0 => ("CoreLeases$Debts", "size", "I", false)
  | 1 => ("CoreLeases$Debts", "order", "[I", true)
  | _ => ("CoreLeases$Debts", "due", "[I", true)
def tyX1 : Nat → FieldType := fun k => match k with
  | 0 => .int
  | 1 => .array .int
  | _ => .array .int
abbrev wsX10 : List Cond := u_ws RX1 TX1 3
theorem nmX1 : ∀ a, a < 3 → ∀ b, b < 3 → a ≠ b → (TX1 a).2.1 ≠ (TX1 b).2.1 := by decide +kernel
theorem tyX1_ok : ∀ k, k < 3 → parseFieldDescriptor (TX1 k).2.2.1 = some (tyX1 k) := by decide +kernel
abbrev cX1_init : ByteArray := prog_3_method_1_code
def yX1_init : MethodName := ⟨RX1, "<init>", "()V"⟩
abbrev cX1_become : ByteArray := prog_3_method_2_code
def yX1_become : MethodName := ⟨RX1, "become", "(LCoreLeases$Debts;)V"⟩
abbrev cX1_isOwed : ByteArray := prog_3_method_3_code
def yX1_isOwed : MethodName := ⟨RX1, "isOwed", "(I)Z"⟩
abbrev cX1_dueOf : ByteArray := prog_3_method_4_code
def yX1_dueOf : MethodName := ⟨RX1, "dueOf", "(I)I"⟩
abbrev cX1_firstCore : ByteArray := prog_3_method_5_code
def yX1_firstCore : MethodName := ⟨RX1, "firstCore", "()I"⟩
abbrev cX1_enter : ByteArray := prog_3_method_6_code
def yX1_enter : MethodName := ⟨RX1, "enter", "(II)V"⟩
abbrev cX1_strike : ByteArray := prog_3_method_7_code
def yX1_strike : MethodName := ⟨RX1, "strike", "(I)V"⟩
def RX2 : String := "CoreLeases$Insurers"
def TX2 : u_T := fun k => match k with
  | 0 => ("CoreLeases$Insurers", "size", "I", false)
  | 1 => ("CoreLeases$Insurers", "fund", "[I", true)
  | 2 => ("CoreLeases$Insurers", "rate", "[I", true)
  | 3 => ("CoreLeases$Insurers", "cover", "[I", true)
  | 4 => ("CoreLeases$Insurers", "premiums", "[I", true)
  | _ => ("CoreLeases$Insurers", "claimsPaid", "[I", true)
def tyX2 : Nat → FieldType := fun k => match k with
  | 0 => .int
  | 1 => .array .int
  | 2 => .array .int
  | 3 => .array .int
  | 4 => .array .int
  | _ => .array .int
abbrev wsX20 : List Cond := u_ws RX2 TX2 6
theorem nmX2 : ∀ a, a < 6 → ∀ b, b < 6 → a ≠ b → (TX2 a).2.1 ≠ (TX2 b).2.1 := by decide +kernel
theorem tyX2_ok : ∀ k, k < 6 → parseFieldDescriptor (TX2 k).2.2.1 = some (tyX2 k) := by decide +kernel
abbrev cX2_init : ByteArray := prog_4_method_1_code
def yX2_init : MethodName := ⟨RX2, "<init>", "()V"⟩
abbrev cX2_become : ByteArray := prog_4_method_2_code
def yX2_become : MethodName := ⟨RX2, "become", "(LCoreLeases$Insurers;)V"⟩
abbrev cX2_has : ByteArray := prog_4_method_3_code
def yX2_has : MethodName := ⟨RX2, "has", "(I)Z"⟩
abbrev cX2_enter : ByteArray := prog_4_method_4_code
def yX2_enter : MethodName := ⟨RX2, "enter", "(III)I"⟩
def RX3 : String := "CoreLeases$Plane"
def TX3 : u_T := fun k => match k with
  | 0 => ("CoreLeases$Plane", "time", "I", false)
  | 1 => ("CoreLeases$Plane", "heat", "I", false)
  | 2 => ("CoreLeases$Plane", "house", "I", false)
  | 3 => ("CoreLeases$Plane", "settings", "[I", true)
  | 4 => ("CoreLeases$Plane", "tallies", "[I", true)
  | 5 => ("CoreLeases$Plane", "cores", "LCoreLeases$Cores;", true)
  | 6 => ("CoreLeases$Plane", "debts", "LCoreLeases$Debts;", true)
  | 7 => ("CoreLeases$Plane", "tenants", "LCoreLeases$Tenants;", true)
  | 8 => ("CoreLeases$Plane", "insurers", "LCoreLeases$Insurers;", true)
  | 9 => ("CoreLeases$Plane", "claims", "[I", true)
  | _ => ("CoreLeases$Plane", "waiting", "I", false)
def tyX3 : Nat → FieldType := fun k => match k with
  | 0 => .int
  | 1 => .int
  | 2 => .int
  | 3 => .array .int
  | 4 => .array .int
  | 5 => .object "CoreLeases$Cores"
  | 6 => .object "CoreLeases$Debts"
  | 7 => .object "CoreLeases$Tenants"
  | 8 => .object "CoreLeases$Insurers"
  | 9 => .array .int
  | _ => .int
abbrev wsX30 : List Cond := u_ws RX3 TX3 11
theorem nmX3 : ∀ a, a < 11 → ∀ b, b < 11 → a ≠ b → (TX3 a).2.1 ≠ (TX3 b).2.1 := by decide +kernel
theorem tyX3_ok : ∀ k, k < 11 → parseFieldDescriptor (TX3 k).2.2.1 = some (tyX3 k) := by decide +kernel
abbrev cX3_init : ByteArray := prog_5_method_1_code
def yX3_init : MethodName := ⟨RX3, "<init>", "()V"⟩
abbrev cX3_become : ByteArray := prog_5_method_2_code
def yX3_become : MethodName := ⟨RX3, "become", "(LCoreLeases$Plane;)V"⟩
abbrev cX3_rentFor : ByteArray := prog_5_method_3_code
def yX3_rentFor : MethodName := ⟨RX3, "rentFor", "(I)I"⟩
abbrev cX3_leaseLeft : ByteArray := prog_5_method_4_code
def yX3_leaseLeft : MethodName := ⟨RX3, "leaseLeft", "(I)I"⟩
abbrev cX3_policyLeft : ByteArray := prog_5_method_5_code
def yX3_policyLeft : MethodName := ⟨RX3, "policyLeft", "(I)I"⟩
abbrev cX3_leaseOut : ByteArray := prog_5_method_6_code
def yX3_leaseOut : MethodName := ⟨RX3, "leaseOut", "(III)V"⟩
abbrev cX3_premiumFor : ByteArray := prog_5_method_7_code
def yX3_premiumFor : MethodName := ⟨RX3, "premiumFor", "(IIII)I"⟩
abbrev cX3_makePolicy : ByteArray := prog_5_method_8_code
def yX3_makePolicy : MethodName := ⟨RX3, "makePolicy", "(IIIII)V"⟩
abbrev cX3_replaceCore : ByteArray := prog_5_method_9_code
def yX3_replaceCore : MethodName := ⟨RX3, "replaceCore", "(I)V"⟩
abbrev cX3_loseBit : ByteArray := prog_5_method_10_code
def yX3_loseBit : MethodName := ⟨RX3, "loseBit", "(II)V"⟩
abbrev cX3_enterClaim : ByteArray := prog_5_method_11_code
def yX3_enterClaim : MethodName := ⟨RX3, "enterClaim", "(II)V"⟩
abbrev cX3_payClaims : ByteArray := prog_5_method_12_code
def yX3_payClaims : MethodName := ⟨RX3, "payClaims", "(I)V"⟩
abbrev cX3_waitingOf : ByteArray := prog_5_method_13_code
def yX3_waitingOf : MethodName := ⟨RX3, "waitingOf", "(I)I"⟩
abbrev cX3_waitingOn : ByteArray := prog_5_method_14_code
def yX3_waitingOn : MethodName := ⟨RX3, "waitingOn", "(I)I"⟩
abbrev cX3_canBeRead : ByteArray := prog_5_method_15_code
def yX3_canBeRead : MethodName := ⟨RX3, "canBeRead", "(I)Z"⟩
abbrev cX3_fragile : ByteArray := prog_5_method_16_code
def yX3_fragile : MethodName := ⟨RX3, "fragile", "()J"⟩
abbrev cX3_strengthBehindPulse : ByteArray := prog_5_method_17_code
def yX3_strengthBehindPulse : MethodName := ⟨RX3, "strengthBehindPulse", "(I)I"⟩
abbrev cX3_heatBehind : ByteArray := prog_5_method_18_code
def yX3_heatBehind : MethodName := ⟨RX3, "heatBehind", "(I)I"⟩
abbrev cX3_pulse : ByteArray := prog_5_method_19_code
def yX3_pulse : MethodName := ⟨RX3, "pulse", "(II)V"⟩
abbrev cX3_holdsOne : ByteArray := prog_5_method_20_code
def yX3_holdsOne : MethodName := ⟨RX3, "holdsOne", "(I)Z"⟩
abbrev cX3_writeBit : ByteArray := prog_5_method_21_code
def yX3_writeBit : MethodName := ⟨RX3, "writeBit", "(IZ)V"⟩
abbrev cX3_readBit : ByteArray := prog_5_method_22_code
def yX3_readBit : MethodName := ⟨RX3, "readBit", "(I)I"⟩
abbrev cX3_writeFirstBack : ByteArray := prog_5_method_23_code
def yX3_writeFirstBack : MethodName := ⟨RX3, "writeFirstBack", "()I"⟩
abbrev cX3_letPass : ByteArray := prog_5_method_24_code
def yX3_letPass : MethodName := ⟨RX3, "letPass", "(I)V"⟩
abbrev cX3_tick : ByteArray := prog_5_method_25_code
def yX3_tick : MethodName := ⟨RX3, "tick", "()V"⟩
abbrev cX3_loseLateBits : ByteArray := prog_5_method_26_code
def yX3_loseLateBits : MethodName := ⟨RX3, "loseLateBits", "()V"⟩
abbrev cX3_endLeaseOf : ByteArray := prog_5_method_27_code
def yX3_endLeaseOf : MethodName := ⟨RX3, "endLeaseOf", "(I)V"⟩
def RX4 : String := "CoreLeases$Saves"
def TX4 : u_T := fun k => match k with
  | 0 => ("CoreLeases$Saves", "size", "I", false)
  | _ => ("CoreLeases$Saves", "planes", "[LCoreLeases$Plane;", true)
def tyX4 : Nat → FieldType := fun k => match k with
  | 0 => .int
  | _ => .array (.object "CoreLeases$Plane")
abbrev wsX40 : List Cond := u_ws RX4 TX4 2
theorem nmX4 : ∀ a, a < 2 → ∀ b, b < 2 → a ≠ b → (TX4 a).2.1 ≠ (TX4 b).2.1 := by decide +kernel
theorem tyX4_ok : ∀ k, k < 2 → parseFieldDescriptor (TX4 k).2.2.1 = some (tyX4 k) := by decide +kernel
abbrev cX4_init : ByteArray := prog_6_method_1_code
def yX4_init : MethodName := ⟨RX4, "<init>", "()V"⟩
abbrev cX4_keep : ByteArray := prog_6_method_2_code
def yX4_keep : MethodName := ⟨RX4, "keep", "(LCoreLeases$Plane;)V"⟩
abbrev cX4_dropOldest : ByteArray := prog_6_method_3_code
def yX4_dropOldest : MethodName := ⟨RX4, "dropOldest", "()V"⟩
abbrev cX4_restore : ByteArray := prog_6_method_4_code
def yX4_restore : MethodName := ⟨RX4, "restore", "(LCoreLeases$Plane;)V"⟩
def RX5 : String := "CoreLeases$Tenants"
def TX5 : u_T := fun k => match k with
  | 0 => ("CoreLeases$Tenants", "size", "I", false)
  | 1 => ("CoreLeases$Tenants", "money", "[I", true)
  | 2 => ("CoreLeases$Tenants", "lost", "[I", true)
  | _ => ("CoreLeases$Tenants", "paid", "[I", true)
def tyX5 : Nat → FieldType := fun k => match k with
  | 0 => .int
  | 1 => .array .int
  | 2 => .array .int
  | _ => .array .int
abbrev wsX50 : List Cond := u_ws RX5 TX5 4
theorem nmX5 : ∀ a, a < 4 → ∀ b, b < 4 → a ≠ b → (TX5 a).2.1 ≠ (TX5 b).2.1 := by decide +kernel
theorem tyX5_ok : ∀ k, k < 4 → parseFieldDescriptor (TX5 k).2.2.1 = some (tyX5 k) := by decide +kernel
abbrev cX5_init : ByteArray := prog_7_method_1_code
def yX5_init : MethodName := ⟨RX5, "<init>", "()V"⟩
abbrev cX5_become : ByteArray := prog_7_method_2_code
def yX5_become : MethodName := ⟨RX5, "become", "(LCoreLeases$Tenants;)V"⟩
abbrev cX5_has : ByteArray := prog_7_method_3_code
def yX5_has : MethodName := ⟨RX5, "has", "(I)Z"⟩
abbrev cX5_enter : ByteArray := prog_7_method_4_code
def yX5_enter : MethodName := ⟨RX5, "enter", "(I)I"⟩
def RX6 : String := "CoreLeases$Text"
def TX6 : u_T := fun k => match k with
  | 0 => ("CoreLeases$Text", "length", "I", false)
  | _ => ("CoreLeases$Text", "codes", "[I", true)
def tyX6 : Nat → FieldType := fun k => match k with
  | 0 => .int
  | _ => .array .int
abbrev wsX60 : List Cond := u_ws RX6 TX6 2
theorem nmX6 : ∀ a, a < 2 → ∀ b, b < 2 → a ≠ b → (TX6 a).2.1 ≠ (TX6 b).2.1 := by decide +kernel
theorem tyX6_ok : ∀ k, k < 2 → parseFieldDescriptor (TX6 k).2.2.1 = some (tyX6 k) := by decide +kernel
abbrev cX6_init : ByteArray := prog_8_method_1_code
def yX6_init : MethodName := ⟨RX6, "<init>", "()V"⟩
abbrev cX6_put : ByteArray := prog_8_method_2_code
def yX6_put : MethodName := ⟨RX6, "put", "(I)V"⟩
abbrev cX6_codeAt : ByteArray := prog_8_method_3_code
def yX6_codeAt : MethodName := ⟨RX6, "codeAt", "(I)I"⟩
abbrev cX6_digitAt : ByteArray := prog_8_method_4_code
def yX6_digitAt : MethodName := ⟨RX6, "digitAt", "(I)I"⟩
abbrev cX6_coreAt : ByteArray := prog_8_method_5_code
def yX6_coreAt : MethodName := ⟨RX6, "coreAt", "(I)I"⟩
abbrev cX6_stepLength : ByteArray := prog_8_method_6_code
def yX6_stepLength : MethodName := ⟨RX6, "stepLength", "(I)I"⟩
abbrev cX6_errorPlace : ByteArray := prog_8_method_7_code
def yX6_errorPlace : MethodName := ⟨RX6, "errorPlace", "()I"⟩
abbrev cX6_isProgram : ByteArray := prog_8_method_8_code
def yX6_isProgram : MethodName := ⟨RX6, "isProgram", "()Z"⟩
abbrev cX6_wantedBehind : ByteArray := prog_8_method_9_code
def yX6_wantedBehind : MethodName := ⟨RX6, "wantedBehind", "(II)I"⟩
abbrev cX6_wantedInStep : ByteArray := prog_8_method_10_code
def yX6_wantedInStep : MethodName := ⟨RX6, "wantedInStep", "(I)I"⟩
def RX7 : String := "CoreLeases"
def TX7 : u_T := fun k => match k with
  | 0 => ("CoreLeases", "now", "LCoreLeases$Plane;", true)
  | 1 => ("CoreLeases", "trial", "LCoreLeases$Plane;", true)
  | 2 => ("CoreLeases", "saves", "LCoreLeases$Saves;", true)
  | _ => ("CoreLeases", "text", "LCoreLeases$Text;", true)
def tyX7 : Nat → FieldType := fun k => match k with
  | 0 => .object "CoreLeases$Plane"
  | 1 => .object "CoreLeases$Plane"
  | 2 => .object "CoreLeases$Saves"
  | _ => .object "CoreLeases$Text"
abbrev wsX70 : List Cond := u_ws RX7 TX7 4
theorem nmX7 : ∀ a, a < 4 → ∀ b, b < 4 → a ≠ b → (TX7 a).2.1 ≠ (TX7 b).2.1 := by decide +kernel
theorem tyX7_ok : ∀ k, k < 4 → parseFieldDescriptor (TX7 k).2.2.1 = some (tyX7 k) := by decide +kernel
abbrev cX7_init : ByteArray := prog_1_method_1_code
def yX7_init : MethodName := ⟨RX7, "<init>", "()V"⟩
abbrev cX7_addTenant : ByteArray := prog_1_method_2_code
def yX7_addTenant : MethodName := ⟨RX7, "addTenant", "(I)I"⟩
abbrev cX7_addInsurer : ByteArray := prog_1_method_3_code
def yX7_addInsurer : MethodName := ⟨RX7, "addInsurer", "(III)I"⟩
abbrev cX7_set : ByteArray := prog_1_method_4_code
def yX7_set : MethodName := ⟨RX7, "set", "(II)I"⟩
abbrev cX7_lease : ByteArray := prog_1_method_5_code
def yX7_lease : MethodName := ⟨RX7, "lease", "(III)I"⟩
abbrev cX7_insure : ByteArray := prog_1_method_6_code
def yX7_insure : MethodName := ⟨RX7, "insure", "(III)I"⟩
abbrev cX7_renew : ByteArray := prog_1_method_7_code
def yX7_renew : MethodName := ⟨RX7, "renew", "(I)I"⟩
abbrev cX7_write : ByteArray := prog_1_method_8_code
def yX7_write : MethodName := ⟨RX7, "write", "(IZ)I"⟩
abbrev cX7_read : ByteArray := prog_1_method_9_code
def yX7_read : MethodName := ⟨RX7, "read", "(I)I"⟩
abbrev cX7_writeBack : ByteArray := prog_1_method_10_code
def yX7_writeBack : MethodName := ⟨RX7, "writeBack", "()I"⟩
abbrev cX7_pass : ByteArray := prog_1_method_11_code
def yX7_pass : MethodName := ⟨RX7, "pass", "(I)I"⟩
abbrev cX7_append : ByteArray := prog_1_method_12_code
def yX7_append : MethodName := ⟨RX7, "append", "(I)I"⟩
abbrev cX7_clearBuffer : ByteArray := prog_1_method_13_code
def yX7_clearBuffer : MethodName := ⟨RX7, "clearBuffer", "()I"⟩
abbrev cX7_firstError : ByteArray := prog_1_method_14_code
def yX7_firstError : MethodName := ⟨RX7, "firstError", "()I"⟩
abbrev cX7_run : ByteArray := prog_1_method_15_code
def yX7_run : MethodName := ⟨RX7, "run", "(I)I"⟩
abbrev cX7_undo : ByteArray := prog_1_method_16_code
def yX7_undo : MethodName := ⟨RX7, "undo", "()I"⟩
abbrev cX7_core : ByteArray := prog_1_method_17_code
def yX7_core : MethodName := ⟨RX7, "core", "(II)I"⟩
abbrev cX7_tenant : ByteArray := prog_1_method_18_code
def yX7_tenant : MethodName := ⟨RX7, "tenant", "(II)I"⟩
abbrev cX7_insurer : ByteArray := prog_1_method_19_code
def yX7_insurer : MethodName := ⟨RX7, "insurer", "(II)I"⟩
abbrev cX7_owed : ByteArray := prog_1_method_20_code
def yX7_owed : MethodName := ⟨RX7, "owed", "(II)I"⟩
abbrev cX7_weakest : ByteArray := prog_1_method_21_code
def yX7_weakest : MethodName := ⟨RX7, "weakest", "(I)I"⟩
abbrev cX7_count : ByteArray := prog_1_method_22_code
def yX7_count : MethodName := ⟨RX7, "count", "(I)I"⟩
abbrev cX7_setting : ByteArray := prog_1_method_23_code
def yX7_setting : MethodName := ⟨RX7, "setting", "(I)I"⟩
abbrev cX7_premium : ByteArray := prog_1_method_24_code
def yX7_premium : MethodName := ⟨RX7, "premium", "(III)I"⟩
abbrev cX7_cheapest : ByteArray := prog_1_method_25_code
def yX7_cheapest : MethodName := ⟨RX7, "cheapest", "(III)I"⟩
abbrev cX7_waitFor : ByteArray := prog_1_method_26_code
def yX7_waitFor : MethodName := ⟨RX7, "waitFor", "(IIII)I"⟩
abbrev cX7_ifRead : ByteArray := prog_1_method_27_code
def yX7_ifRead : MethodName := ⟨RX7, "ifRead", "(II)I"⟩
abbrev cX7_gentlest : ByteArray := prog_1_method_28_code
def yX7_gentlest : MethodName := ⟨RX7, "gentlest", "()I"⟩
abbrev cX7_savable : ByteArray := prog_1_method_29_code
def yX7_savable : MethodName := ⟨RX7, "savable", "(I)I"⟩
abbrev cX7_atRisk : ByteArray := prog_1_method_30_code
def yX7_atRisk : MethodName := ⟨RX7, "atRisk", "(I)I"⟩
abbrev cX7_backShare : ByteArray := prog_1_method_31_code
def yX7_backShare : MethodName := ⟨RX7, "backShare", "()D"⟩
abbrev cX7_digest : ByteArray := prog_1_method_32_code
def yX7_digest : MethodName := ⟨RX7, "digest", "()J"⟩
abbrev cX7_mixed : ByteArray := prog_1_method_33_code
def yX7_mixed : MethodName := ⟨RX7, "mixed", "(JJ)J"⟩
abbrev cX7_withCores : ByteArray := prog_1_method_34_code
def yX7_withCores : MethodName := ⟨RX7, "withCores", "(J)J"⟩
abbrev cX7_withTenants : ByteArray := prog_1_method_35_code
def yX7_withTenants : MethodName := ⟨RX7, "withTenants", "(J)J"⟩
abbrev cX7_withInsurers : ByteArray := prog_1_method_36_code
def yX7_withInsurers : MethodName := ⟨RX7, "withInsurers", "(J)J"⟩
abbrev cX7_withDebts : ByteArray := prog_1_method_37_code
def yX7_withDebts : MethodName := ⟨RX7, "withDebts", "(J)J"⟩
abbrev cX7_withText : ByteArray := prog_1_method_38_code
def yX7_withText : MethodName := ⟨RX7, "withText", "(J)J"⟩
abbrev cX7_bitsOfShare : ByteArray := prog_1_method_39_code
def yX7_bitsOfShare : MethodName := ⟨RX7, "bitsOfShare", "(D)J"⟩
abbrev cX7_canDoStep : ByteArray := prog_1_method_40_code
def yX7_canDoStep : MethodName := ⟨RX7, "canDoStep", "(II)Z"⟩
abbrev cX7_doStep : ByteArray := prog_1_method_41_code
def yX7_doStep : MethodName := ⟨RX7, "doStep", "(I)V"⟩
abbrev cX7_within : ByteArray := prog_1_method_42_code
def yX7_within : MethodName := ⟨RX7, "within", "(III)Z"⟩
abbrev cX7_isCore : ByteArray := prog_1_method_43_code
def yX7_isCore : MethodName := ⟨RX7, "isCore", "(I)Z"⟩
abbrev cX7_requireCore : ByteArray := prog_1_method_44_code
def yX7_requireCore : MethodName := ⟨RX7, "requireCore", "(I)V"⟩
abbrev cX7_requireTenant : ByteArray := prog_1_method_45_code
def yX7_requireTenant : MethodName := ⟨RX7, "requireTenant", "(I)V"⟩
abbrev cX7_requireInsurer : ByteArray := prog_1_method_46_code
def yX7_requireInsurer : MethodName := ⟨RX7, "requireInsurer", "(I)V"⟩
abbrev cX7_requireSetting : ByteArray := prog_1_method_47_code
def yX7_requireSetting : MethodName := ⟨RX7, "requireSetting", "(I)V"⟩
abbrev cX7_requireArgument : ByteArray := prog_1_method_48_code
def yX7_requireArgument : MethodName := ⟨RX7, "requireArgument", "(Z)V"⟩
abbrev cX7_requireState : ByteArray := prog_1_method_49_code
def yX7_requireState : MethodName := ⟨RX7, "requireState", "(Z)V"⟩
abbrev cX7_maskOf : ByteArray := prog_1_method_50_code
def yX7_maskOf : MethodName := ⟨RX7, "maskOf", "(I)J"⟩
abbrev cX7_linesOf : ByteArray := prog_1_method_51_code
def yX7_linesOf : MethodName := ⟨RX7, "linesOf", "(I)J"⟩
abbrev cX7_copyRow : ByteArray := prog_1_method_52_code
def yX7_copyRow : MethodName := ⟨RX7, "copyRow", "([I[I)V"⟩
def RX8 : String := "CoreLeasesModel"
def TX8 : u_T := fun k => match k with
  | 0 => ("CoreLeasesModel", "z", "[I", true)
  | 1 => ("CoreLeasesModel", "aside", "[I", true)
  | 2 => ("CoreLeasesModel", "rows", "[I", true)
  | 3 => ("CoreLeasesModel", "text", "[I", true)
  | 4 => ("CoreLeasesModel", "kinds", "[I", true)
  | 5 => ("CoreLeasesModel", "cores", "[I", true)
  | 6 => ("CoreLeasesModel", "values", "[I", true)
  | 7 => ("CoreLeasesModel", "order", "[I", true)
  | 8 => ("CoreLeasesModel", "entries", "I", false)
  | 9 => ("CoreLeasesModel", "state", "I", false)
  | 10 => ("CoreLeasesModel", "saved", "I", false)
  | 11 => ("CoreLeasesModel", "length", "I", false)
  | 12 => ("CoreLeasesModel", "thrown", "I", false)
  | _ => ("CoreLeasesModel", "h", "J", false)
def tyX8 : Nat → FieldType := fun k => match k with
  | 0 => .array .int
  | 1 => .array .int
  | 2 => .array .int
  | 3 => .array .int
  | 4 => .array .int
  | 5 => .array .int
  | 6 => .array .int
  | 7 => .array .int
  | 8 => .int
  | 9 => .int
  | 10 => .int
  | 11 => .int
  | 12 => .int
  | _ => .long
abbrev wsX80 : List Cond := u_ws RX8 TX8 14
theorem nmX8 : ∀ a, a < 14 → ∀ b, b < 14 → a ≠ b → (TX8 a).2.1 ≠ (TX8 b).2.1 := by decide +kernel
theorem tyX8_ok : ∀ k, k < 14 → parseFieldDescriptor (TX8 k).2.2.1 = some (tyX8 k) := by decide +kernel
abbrev cX8_init : ByteArray := prog_10_method_1_code
def yX8_init : MethodName := ⟨RX8, "<init>", "()V"⟩
abbrev cX8_thrown : ByteArray := prog_10_method_2_code
def yX8_thrown : MethodName := ⟨RX8, "thrown", "()I"⟩
abbrev cX8_fails : ByteArray := prog_10_method_3_code
def yX8_fails : MethodName := ⟨RX8, "fails", "(I)I"⟩
abbrev cX8_within : ByteArray := prog_10_method_4_code
def yX8_within : MethodName := ⟨RX8, "within", "(III)Z"⟩
abbrev cX8_less : ByteArray := prog_10_method_5_code
def yX8_less : MethodName := ⟨RX8, "less", "(II)I"⟩
abbrev cX8_notBelow : ByteArray := prog_10_method_6_code
def yX8_notBelow : MethodName := ⟨RX8, "notBelow", "(I)I"⟩
abbrev cX8_isCore : ByteArray := prog_10_method_7_code
def yX8_isCore : MethodName := ⟨RX8, "isCore", "(I)Z"⟩
abbrev cX8_isTenant : ByteArray := prog_10_method_8_code
def yX8_isTenant : MethodName := ⟨RX8, "isTenant", "(I)Z"⟩
abbrev cX8_isInsurer : ByteArray := prog_10_method_9_code
def yX8_isInsurer : MethodName := ⟨RX8, "isInsurer", "(I)Z"⟩
abbrev cX8_of : ByteArray := prog_10_method_10_code
def yX8_of : MethodName := ⟨RX8, "of", "(II)I"⟩
abbrev cX8_lay : ByteArray := prog_10_method_11_code
def yX8_lay : MethodName := ⟨RX8, "lay", "(III)V"⟩
abbrev cX8_ofTenant : ByteArray := prog_10_method_12_code
def yX8_ofTenant : MethodName := ⟨RX8, "ofTenant", "(II)I"⟩
abbrev cX8_ofInsurer : ByteArray := prog_10_method_13_code
def yX8_ofInsurer : MethodName := ⟨RX8, "ofInsurer", "(II)I"⟩
abbrev cX8_rule : ByteArray := prog_10_method_14_code
def yX8_rule : MethodName := ⟨RX8, "rule", "(I)I"⟩
abbrev cX8_save : ByteArray := prog_10_method_15_code
def yX8_save : MethodName := ⟨RX8, "save", "()V"⟩
abbrev cX8_keep : ByteArray := prog_10_method_16_code
def yX8_keep : MethodName := ⟨RX8, "keep", "()V"⟩
abbrev cX8_bring : ByteArray := prog_10_method_17_code
def yX8_bring : MethodName := ⟨RX8, "bring", "()V"⟩
abbrev cX8_addTenant : ByteArray := prog_10_method_18_code
def yX8_addTenant : MethodName := ⟨RX8, "addTenant", "(I)I"⟩
abbrev cX8_addInsurer : ByteArray := prog_10_method_19_code
def yX8_addInsurer : MethodName := ⟨RX8, "addInsurer", "(III)I"⟩
abbrev cX8_mostOf : ByteArray := prog_10_method_20_code
def yX8_mostOf : MethodName := ⟨RX8, "mostOf", "(I)I"⟩
abbrev cX8_set : ByteArray := prog_10_method_21_code
def yX8_set : MethodName := ⟨RX8, "set", "(II)I"⟩
abbrev cX8_areTicks : ByteArray := prog_10_method_22_code
def yX8_areTicks : MethodName := ⟨RX8, "areTicks", "(I)Z"⟩
abbrev cX8_isLeased : ByteArray := prog_10_method_23_code
def yX8_isLeased : MethodName := ⟨RX8, "isLeased", "(I)Z"⟩
abbrev cX8_isOwed : ByteArray := prog_10_method_24_code
def yX8_isOwed : MethodName := ⟨RX8, "isOwed", "(I)Z"⟩
abbrev cX8_lease : ByteArray := prog_10_method_25_code
def yX8_lease : MethodName := ⟨RX8, "lease", "(III)I"⟩
abbrev cX8_premiumBy : ByteArray := prog_10_method_26_code
def yX8_premiumBy : MethodName := ⟨RX8, "premiumBy", "(IIII)I"⟩
abbrev cX8_premiumNow : ByteArray := prog_10_method_27_code
def yX8_premiumNow : MethodName := ⟨RX8, "premiumNow", "(III)I"⟩
abbrev cX8_pay : ByteArray := prog_10_method_28_code
def yX8_pay : MethodName := ⟨RX8, "pay", "(I)V"⟩
abbrev cX8_insure : ByteArray := prog_10_method_29_code
def yX8_insure : MethodName := ⟨RX8, "insure", "(III)I"⟩
abbrev cX8_renew : ByteArray := prog_10_method_30_code
def yX8_renew : MethodName := ⟨RX8, "renew", "(I)I"⟩
abbrev cX8_loses : ByteArray := prog_10_method_31_code
def yX8_loses : MethodName := ⟨RX8, "loses", "(I)V"⟩
abbrev cX8_areInLine : ByteArray := prog_10_method_32_code
def yX8_areInLine : MethodName := ⟨RX8, "areInLine", "(II)Z"⟩
abbrev cX8_isWeak : ByteArray := prog_10_method_33_code
def yX8_isWeak : MethodName := ⟨RX8, "isWeak", "(I)Z"⟩
abbrev cX8_worn : ByteArray := prog_10_method_34_code
def yX8_worn : MethodName := ⟨RX8, "worn", "(I)I"⟩
abbrev cX8_heated : ByteArray := prog_10_method_35_code
def yX8_heated : MethodName := ⟨RX8, "heated", "(I)I"⟩
abbrev cX8_pulse : ByteArray := prog_10_method_36_code
def yX8_pulse : MethodName := ⟨RX8, "pulse", "(II)V"⟩
abbrev cX8_writes : ByteArray := prog_10_method_37_code
def yX8_writes : MethodName := ⟨RX8, "writes", "(II)I"⟩
abbrev cX8_write : ByteArray := prog_10_method_38_code
def yX8_write : MethodName := ⟨RX8, "write", "(IZ)I"⟩
abbrev cX8_canRead : ByteArray := prog_10_method_39_code
def yX8_canRead : MethodName := ⟨RX8, "canRead", "(I)Z"⟩
abbrev cX8_reads : ByteArray := prog_10_method_40_code
def yX8_reads : MethodName := ⟨RX8, "reads", "(I)I"⟩
abbrev cX8_read : ByteArray := prog_10_method_41_code
def yX8_read : MethodName := ⟨RX8, "read", "(I)I"⟩
abbrev cX8_comesAhead : ByteArray := prog_10_method_42_code
def yX8_comesAhead : MethodName := ⟨RX8, "comesAhead", "(II)Z"⟩
abbrev cX8_layOwed : ByteArray := prog_10_method_43_code
def yX8_layOwed : MethodName := ⟨RX8, "layOwed", "()I"⟩
abbrev cX8_owedMany : ByteArray := prog_10_method_44_code
def yX8_owedMany : MethodName := ⟨RX8, "owedMany", "()I"⟩
abbrev cX8_writesBack : ByteArray := prog_10_method_45_code
def yX8_writesBack : MethodName := ⟨RX8, "writesBack", "()I"⟩
abbrev cX8_writeBack : ByteArray := prog_10_method_46_code
def yX8_writeBack : MethodName := ⟨RX8, "writeBack", "()I"⟩
abbrev cX8_endPolicies : ByteArray := prog_10_method_47_code
def yX8_endPolicies : MethodName := ⟨RX8, "endPolicies", "()V"⟩
abbrev cX8_endLeases : ByteArray := prog_10_method_48_code
def yX8_endLeases : MethodName := ⟨RX8, "endLeases", "()V"⟩
abbrev cX8_tick : ByteArray := prog_10_method_49_code
def yX8_tick : MethodName := ⟨RX8, "tick", "()V"⟩
abbrev cX8_pass : ByteArray := prog_10_method_50_code
def yX8_pass : MethodName := ⟨RX8, "pass", "(I)I"⟩
abbrev cX8_append : ByteArray := prog_10_method_51_code
def yX8_append : MethodName := ⟨RX8, "append", "(I)I"⟩
abbrev cX8_clearBuffer : ByteArray := prog_10_method_52_code
def yX8_clearBuffer : MethodName := ⟨RX8, "clearBuffer", "()I"⟩
abbrev cX8_goes : ByteArray := prog_10_method_53_code
def yX8_goes : MethodName := ⟨RX8, "goes", "(ZI)Z"⟩
abbrev cX8_ends : ByteArray := prog_10_method_54_code
def yX8_ends : MethodName := ⟨RX8, "ends", "(Z)Z"⟩
abbrev cX8_begins : ByteArray := prog_10_method_55_code
def yX8_begins : MethodName := ⟨RX8, "begins", "(I)Z"⟩
abbrev cX8_takes : ByteArray := prog_10_method_56_code
def yX8_takes : MethodName := ⟨RX8, "takes", "(I)Z"⟩
abbrev cX8_scan : ByteArray := prog_10_method_57_code
def yX8_scan : MethodName := ⟨RX8, "scan", "()I"⟩
abbrev cX8_firstError : ByteArray := prog_10_method_58_code
def yX8_firstError : MethodName := ⟨RX8, "firstError", "()I"⟩
abbrev cX8_mayDo : ByteArray := prog_10_method_59_code
def yX8_mayDo : MethodName := ⟨RX8, "mayDo", "(II)Z"⟩
abbrev cX8_does : ByteArray := prog_10_method_60_code
def yX8_does : MethodName := ⟨RX8, "does", "(I)V"⟩
abbrev cX8_run : ByteArray := prog_10_method_61_code
def yX8_run : MethodName := ⟨RX8, "run", "(I)I"⟩
abbrev cX8_undo : ByteArray := prog_10_method_62_code
def yX8_undo : MethodName := ⟨RX8, "undo", "()I"⟩
abbrev cX8_coreNow : ByteArray := prog_10_method_63_code
def yX8_coreNow : MethodName := ⟨RX8, "coreNow", "(II)I"⟩
abbrev cX8_core : ByteArray := prog_10_method_64_code
def yX8_core : MethodName := ⟨RX8, "core", "(II)I"⟩
abbrev cX8_coresOf : ByteArray := prog_10_method_65_code
def yX8_coresOf : MethodName := ⟨RX8, "coresOf", "(IZ)I"⟩
abbrev cX8_waitsOf : ByteArray := prog_10_method_66_code
def yX8_waitsOf : MethodName := ⟨RX8, "waitsOf", "(I)I"⟩
abbrev cX8_tenantNow : ByteArray := prog_10_method_67_code
def yX8_tenantNow : MethodName := ⟨RX8, "tenantNow", "(II)I"⟩
abbrev cX8_tenant : ByteArray := prog_10_method_68_code
def yX8_tenant : MethodName := ⟨RX8, "tenant", "(II)I"⟩
abbrev cX8_policiesOf : ByteArray := prog_10_method_69_code
def yX8_policiesOf : MethodName := ⟨RX8, "policiesOf", "(I)I"⟩
abbrev cX8_insurerNow : ByteArray := prog_10_method_70_code
def yX8_insurerNow : MethodName := ⟨RX8, "insurerNow", "(II)I"⟩
abbrev cX8_insurer : ByteArray := prog_10_method_71_code
def yX8_insurer : MethodName := ⟨RX8, "insurer", "(II)I"⟩
abbrev cX8_owed : ByteArray := prog_10_method_72_code
def yX8_owed : MethodName := ⟨RX8, "owed", "(II)I"⟩
abbrev cX8_weakestAt : ByteArray := prog_10_method_73_code
def yX8_weakestAt : MethodName := ⟨RX8, "weakestAt", "(I)I"⟩
abbrev cX8_weakest : ByteArray := prog_10_method_74_code
def yX8_weakest : MethodName := ⟨RX8, "weakest", "(I)I"⟩
abbrev cX8_coresWith : ByteArray := prog_10_method_75_code
def yX8_coresWith : MethodName := ⟨RX8, "coresWith", "(I)I"⟩
abbrev cX8_counted : ByteArray := prog_10_method_76_code
def yX8_counted : MethodName := ⟨RX8, "counted", "(I)I"⟩
abbrev cX8_count : ByteArray := prog_10_method_77_code
def yX8_count : MethodName := ⟨RX8, "count", "(I)I"⟩
abbrev cX8_setting : ByteArray := prog_10_method_78_code
def yX8_setting : MethodName := ⟨RX8, "setting", "(I)I"⟩
abbrev cX8_premium : ByteArray := prog_10_method_79_code
def yX8_premium : MethodName := ⟨RX8, "premium", "(III)I"⟩
abbrev cX8_cheapestNow : ByteArray := prog_10_method_80_code
def yX8_cheapestNow : MethodName := ⟨RX8, "cheapestNow", "(III)I"⟩
abbrev cX8_cheapest : ByteArray := prog_10_method_81_code
def yX8_cheapest : MethodName := ⟨RX8, "cheapest", "(III)I"⟩
abbrev cX8_waitNow : ByteArray := prog_10_method_82_code
def yX8_waitNow : MethodName := ⟨RX8, "waitNow", "(IIII)I"⟩
abbrev cX8_waitFor : ByteArray := prog_10_method_83_code
def yX8_waitFor : MethodName := ⟨RX8, "waitFor", "(IIII)I"⟩
abbrev cX8_disturbs : ByteArray := prog_10_method_84_code
def yX8_disturbs : MethodName := ⟨RX8, "disturbs", "(II)I"⟩
abbrev cX8_readNow : ByteArray := prog_10_method_85_code
def yX8_readNow : MethodName := ⟨RX8, "readNow", "(II)I"⟩
abbrev cX8_ifRead : ByteArray := prog_10_method_86_code
def yX8_ifRead : MethodName := ⟨RX8, "ifRead", "(II)I"⟩
abbrev cX8_isGentler : ByteArray := prog_10_method_87_code
def yX8_isGentler : MethodName := ⟨RX8, "isGentler", "(II)Z"⟩
abbrev cX8_gentlestNow : ByteArray := prog_10_method_88_code
def yX8_gentlestNow : MethodName := ⟨RX8, "gentlestNow", "()I"⟩
abbrev cX8_gentlest : ByteArray := prog_10_method_89_code
def yX8_gentlest : MethodName := ⟨RX8, "gentlest", "()I"⟩
abbrev cX8_savableNow : ByteArray := prog_10_method_90_code
def yX8_savableNow : MethodName := ⟨RX8, "savableNow", "(I)I"⟩
abbrev cX8_savable : ByteArray := prog_10_method_91_code
def yX8_savable : MethodName := ⟨RX8, "savable", "(I)I"⟩
abbrev cX8_riskNow : ByteArray := prog_10_method_92_code
def yX8_riskNow : MethodName := ⟨RX8, "riskNow", "(I)I"⟩
abbrev cX8_atRisk : ByteArray := prog_10_method_93_code
def yX8_atRisk : MethodName := ⟨RX8, "atRisk", "(I)I"⟩
abbrev cX8_backNow : ByteArray := prog_10_method_94_code
def yX8_backNow : MethodName := ⟨RX8, "backNow", "()D"⟩
abbrev cX8_backShare : ByteArray := prog_10_method_95_code
def yX8_backShare : MethodName := ⟨RX8, "backShare", "()D"⟩
abbrev cX8_mix : ByteArray := prog_10_method_96_code
def yX8_mix : MethodName := ⟨RX8, "mix", "(J)V"⟩
abbrev cX8_mixPeople : ByteArray := prog_10_method_97_code
def yX8_mixPeople : MethodName := ⟨RX8, "mixPeople", "()V"⟩
abbrev cX8_mixAhead : ByteArray := prog_10_method_98_code
def yX8_mixAhead : MethodName := ⟨RX8, "mixAhead", "()V"⟩
abbrev cX8_digest : ByteArray := prog_10_method_99_code
def yX8_digest : MethodName := ⟨RX8, "digest", "()J"⟩
def RJx145de : String := "java/io/Serializable"
def TJx145de : u_T := fun k => match k with
  | _ => ("", "", "", false)
def tyJx145de : Nat → FieldType := fun k => match k with
  | _ => .int
abbrev wsJx145de0 : List Cond := u_ws RJx145de TJx145de 0
theorem nmJx145de : ∀ a, a < 0 → ∀ b, b < 0 → a ≠ b → (TJx145de a).2.1 ≠ (TJx145de b).2.1 := by decide +kernel
theorem tyJx145de_ok : ∀ k, k < 0 → parseFieldDescriptor (TJx145de k).2.2.1 = some (tyJx145de k) := by decide +kernel
def RJxb160c : String := "java/lang/Comparable"
def TJxb160c : u_T := fun k => match k with
  | _ => ("", "", "", false)
def tyJxb160c : Nat → FieldType := fun k => match k with
  | _ => .int
abbrev wsJxb160c0 : List Cond := u_ws RJxb160c TJxb160c 0
theorem nmJxb160c : ∀ a, a < 0 → ∀ b, b < 0 → a ≠ b → (TJxb160c a).2.1 ≠ (TJxb160c b).2.1 := by decide +kernel
theorem tyJxb160c_ok : ∀ k, k < 0 → parseFieldDescriptor (TJxb160c k).2.2.1 = some (tyJxb160c k) := by decide +kernel
def RJxe99ae : String := "java/lang/Double"
def TJxe99ae : u_T := fun k => match k with
  | _ => ("", "", "", false)
def tyJxe99ae : Nat → FieldType := fun k => match k with
  | _ => .int
abbrev wsJxe99ae0 : List Cond := u_ws RJxe99ae TJxe99ae 0
theorem nmJxe99ae : ∀ a, a < 0 → ∀ b, b < 0 → a ≠ b → (TJxe99ae a).2.1 ≠ (TJxe99ae b).2.1 := by decide +kernel
theorem tyJxe99ae_ok : ∀ k, k < 0 → parseFieldDescriptor (TJxe99ae k).2.2.1 = some (tyJxe99ae k) := by decide +kernel
abbrev cJxe99ae_isNaN_b9ae7 : ByteArray := prog_11_method_6_code
def yJxe99ae_isNaN_b9ae7 : MethodName := ⟨RJxe99ae, "isNaN", "(D)Z"⟩
abbrev cJxe99ae_doubleToLongBits_ccdee : ByteArray := prog_11_method_23_code
def yJxe99ae_doubleToLongBits_ccdee : MethodName := ⟨RJxe99ae, "doubleToLongBits", "(D)J"⟩
def RJ13 : String := "java/lang/Long"
def TJ13 : u_T := fun k => match k with
  | _ => ("", "", "", false)
def tyJ13 : Nat → FieldType := fun k => match k with
  | _ => .int
abbrev wsJ130 : List Cond := u_ws RJ13 TJ13 0
theorem nmJ13 : ∀ a, a < 0 → ∀ b, b < 0 → a ≠ b → (TJ13 a).2.1 ≠ (TJ13 b).2.1 := by decide +kernel
theorem tyJ13_ok : ∀ k, k < 0 → parseFieldDescriptor (TJ13 k).2.2.1 = some (tyJ13 k) := by decide +kernel
abbrev cJ13_bitCount_95d88 : ByteArray := prog_16_method_50_code
def yJ13_bitCount_95d88 : MethodName := ⟨RJ13, "bitCount", "(J)I"⟩
def RJ9 : String := "java/lang/Math"
def TJ9 : u_T := fun k => match k with
  | _ => ("", "", "", false)
def tyJ9 : Nat → FieldType := fun k => match k with
  | _ => .int
abbrev wsJ90 : List Cond := u_ws RJ9 TJ9 0
theorem nmJ9 : ∀ a, a < 0 → ∀ b, b < 0 → a ≠ b → (TJ9 a).2.1 ≠ (TJ9 b).2.1 := by decide +kernel
theorem tyJ9_ok : ∀ k, k < 0 → parseFieldDescriptor (TJ9 k).2.2.1 = some (tyJ9 k) := by decide +kernel
abbrev cJ9_max_7cf53 : ByteArray := prog_17_method_65_code
def yJ9_max_7cf53 : MethodName := ⟨RJ9, "max", "(II)I"⟩
abbrev cJ9_min_7cf53 : ByteArray := prog_17_method_69_code
def yJ9_min_7cf53 : MethodName := ⟨RJ9, "min", "(II)I"⟩
def RJxd2413 : String := "java/lang/Number"
def TJxd2413 : u_T := fun k => match k with
  | _ => ("", "", "", false)
def tyJxd2413 : Nat → FieldType := fun k => match k with
  | _ => .int
abbrev wsJxd24130 : List Cond := u_ws RJxd2413 TJxd2413 0
theorem nmJxd2413 : ∀ a, a < 0 → ∀ b, b < 0 → a ≠ b → (TJxd2413 a).2.1 ≠ (TJxd2413 b).2.1 := by decide +kernel
theorem tyJxd2413_ok : ∀ k, k < 0 → parseFieldDescriptor (TJxd2413 k).2.2.1 = some (tyJxd2413 k) := by decide +kernel
def RJ0 : String := "java/lang/String"
def TJ0 : u_T := fun k => match k with
  | _ => ("", "", "", false)
def tyJ0 : Nat → FieldType := fun k => match k with
  | _ => .int
abbrev wsJ00 : List Cond := u_ws RJ0 TJ0 0
theorem nmJ0 : ∀ a, a < 0 → ∀ b, b < 0 → a ≠ b → (TJ0 a).2.1 ≠ (TJ0 b).2.1 := by decide +kernel
theorem tyJ0_ok : ∀ k, k < 0 → parseFieldDescriptor (TJ0 k).2.2.1 = some (tyJ0 k) := by decide +kernel
def RJ10 : String := "java/lang/System"
def TJ10 : u_T := fun k => match k with
  | _ => ("", "", "", false)
def tyJ10 : Nat → FieldType := fun k => match k with
  | _ => .int
abbrev wsJ100 : List Cond := u_ws RJ10 TJ10 0
theorem nmJ10 : ∀ a, a < 0 → ∀ b, b < 0 → a ≠ b → (TJ10 a).2.1 ≠ (TJ10 b).2.1 := by decide +kernel
theorem tyJ10_ok : ∀ k, k < 0 → parseFieldDescriptor (TJ10 k).2.2.1 = some (tyJ10 k) := by decide +kernel
def RJxfd54e : String := "java/lang/constant/Constable"
def TJxfd54e : u_T := fun k => match k with
  | _ => ("", "", "", false)
def tyJxfd54e : Nat → FieldType := fun k => match k with
  | _ => .int
abbrev wsJxfd54e0 : List Cond := u_ws RJxfd54e TJxfd54e 0
theorem nmJxfd54e : ∀ a, a < 0 → ∀ b, b < 0 → a ≠ b → (TJxfd54e a).2.1 ≠ (TJxfd54e b).2.1 := by decide +kernel
theorem tyJxfd54e_ok : ∀ k, k < 0 → parseFieldDescriptor (TJxfd54e k).2.2.1 = some (tyJxfd54e k) := by decide +kernel
def RJx3cf43 : String := "java/lang/constant/ConstantDesc"
def TJx3cf43 : u_T := fun k => match k with
  | _ => ("", "", "", false)
def tyJx3cf43 : Nat → FieldType := fun k => match k with
  | _ => .int
abbrev wsJx3cf430 : List Cond := u_ws RJx3cf43 TJx3cf43 0
theorem nmJx3cf43 : ∀ a, a < 0 → ∀ b, b < 0 → a ≠ b → (TJx3cf43 a).2.1 ≠ (TJx3cf43 b).2.1 := by decide +kernel
theorem tyJx3cf43_ok : ∀ k, k < 0 → parseFieldDescriptor (TJx3cf43 k).2.2.1 = some (tyJx3cf43 k) := by decide +kernel
def RJ7 : String := "java/util/Arrays"
def TJ7 : u_T := fun k => match k with
  | _ => ("", "", "", false)
def tyJ7 : Nat → FieldType := fun k => match k with
  | _ => .int
abbrev wsJ70 : List Cond := u_ws RJ7 TJ7 0
theorem nmJ7 : ∀ a, a < 0 → ∀ b, b < 0 → a ≠ b → (TJ7 a).2.1 ≠ (TJ7 b).2.1 := by decide +kernel
theorem tyJ7_ok : ∀ k, k < 0 → parseFieldDescriptor (TJ7 k).2.2.1 = some (tyJ7 k) := by decide +kernel
abbrev cJ7_fill_53178 : ByteArray := prog_23_method_103_code
def yJ7_fill_53178 : MethodName := ⟨RJ7, "fill", "([II)V"⟩
def RL : String := "CoreLeasesLaw"
abbrev cL_addTenant : ByteArray := method_3_code
def yL_addTenant : MethodName := ⟨RL, "addTenant", "(LCoreLeases;I[J)I"⟩
abbrev cL_addInsurer : ByteArray := method_4_code
def yL_addInsurer : MethodName := ⟨RL, "addInsurer", "(LCoreLeases;III[J)I"⟩
abbrev cL_set : ByteArray := method_5_code
def yL_set : MethodName := ⟨RL, "set", "(LCoreLeases;II[J)I"⟩
abbrev cL_lease : ByteArray := method_6_code
def yL_lease : MethodName := ⟨RL, "lease", "(LCoreLeases;III[J)I"⟩
abbrev cL_insure : ByteArray := method_7_code
def yL_insure : MethodName := ⟨RL, "insure", "(LCoreLeases;III[J)I"⟩
abbrev cL_renew : ByteArray := method_8_code
def yL_renew : MethodName := ⟨RL, "renew", "(LCoreLeases;I[J)I"⟩
abbrev cL_write : ByteArray := method_9_code
def yL_write : MethodName := ⟨RL, "write", "(LCoreLeases;IZ[J)I"⟩
abbrev cL_read : ByteArray := method_10_code
def yL_read : MethodName := ⟨RL, "read", "(LCoreLeases;I[J)I"⟩
abbrev cL_writeBack : ByteArray := method_11_code
def yL_writeBack : MethodName := ⟨RL, "writeBack", "(LCoreLeases;[J)I"⟩
abbrev cL_pass : ByteArray := method_12_code
def yL_pass : MethodName := ⟨RL, "pass", "(LCoreLeases;I[J)I"⟩
abbrev cL_append : ByteArray := method_13_code
def yL_append : MethodName := ⟨RL, "append", "(LCoreLeases;I[J)I"⟩
abbrev cL_run : ByteArray := method_14_code
def yL_run : MethodName := ⟨RL, "run", "(LCoreLeases;I[J)I"⟩
abbrev cL_undo : ByteArray := method_15_code
def yL_undo : MethodName := ⟨RL, "undo", "(LCoreLeases;[J)I"⟩
abbrev cL_core : ByteArray := method_16_code
def yL_core : MethodName := ⟨RL, "core", "(LCoreLeases;II[J)I"⟩
abbrev cL_tenant : ByteArray := method_17_code
def yL_tenant : MethodName := ⟨RL, "tenant", "(LCoreLeases;II[J)I"⟩
abbrev cL_insurer : ByteArray := method_18_code
def yL_insurer : MethodName := ⟨RL, "insurer", "(LCoreLeases;II[J)I"⟩
abbrev cL_owed : ByteArray := method_19_code
def yL_owed : MethodName := ⟨RL, "owed", "(LCoreLeases;II[J)I"⟩
abbrev cL_weakest : ByteArray := method_20_code
def yL_weakest : MethodName := ⟨RL, "weakest", "(LCoreLeases;I[J)I"⟩
abbrev cL_count : ByteArray := method_21_code
def yL_count : MethodName := ⟨RL, "count", "(LCoreLeases;I[J)I"⟩
abbrev cL_setting : ByteArray := method_22_code
def yL_setting : MethodName := ⟨RL, "setting", "(LCoreLeases;I[J)I"⟩
abbrev cL_premium : ByteArray := method_23_code
def yL_premium : MethodName := ⟨RL, "premium", "(LCoreLeases;III[J)I"⟩
abbrev cL_cheapest : ByteArray := method_24_code
def yL_cheapest : MethodName := ⟨RL, "cheapest", "(LCoreLeases;III[J)I"⟩
abbrev cL_waitFor : ByteArray := method_25_code
def yL_waitFor : MethodName := ⟨RL, "waitFor", "(LCoreLeases;IIII[J)I"⟩
abbrev cL_ifRead : ByteArray := method_26_code
def yL_ifRead : MethodName := ⟨RL, "ifRead", "(LCoreLeases;II[J)I"⟩
abbrev cL_savable : ByteArray := method_27_code
def yL_savable : MethodName := ⟨RL, "savable", "(LCoreLeases;I[J)I"⟩
abbrev cL_atRisk : ByteArray := method_28_code
def yL_atRisk : MethodName := ⟨RL, "atRisk", "(LCoreLeases;I[J)I"⟩
abbrev cL_law : ByteArray := code
def yL_law : MethodName := ⟨RL, "law", "([I)Z"⟩
abbrev vwCl : List vw_C := [(RX0, TX0, 7), (RX1, TX1, 3), (RX2, TX2, 6), (RX3, TX3, 11), (RX4, TX4, 2), (RX5, TX5, 4), (RX6, TX6, 2), (RX7, TX7, 4), (RX8, TX8, 14)]
end
section
theorem dX0_init_0 : decode cX0_init 0 = .ok (.aload_n 0, 1) := by decide +kernel
theorem dX0_init_1 : decode cX0_init 1 = .ok (.invokespecial 3, 3) := by decide +kernel
theorem dX0_init_4 : decode cX0_init 4 = .ok (.aload_n 0, 1) := by decide +kernel
theorem dX0_init_5 : decode cX0_init 5 = .ok (.lconst 0, 1) := by decide +kernel
theorem dX0_init_6 : decode cX0_init 6 = .ok (.putfield 9, 3) := by decide +kernel
theorem dX0_init_9 : decode cX0_init 9 = .ok (.aload_n 0, 1) := by decide +kernel
theorem dX0_init_10 : decode cX0_init 10 = .ok (.bipush 64, 2) := by decide +kernel
theorem dX0_init_12 : decode cX0_init 12 = .ok (.newarray .int, 2) := by decide +kernel
theorem dX0_init_14 : decode cX0_init 14 = .ok (.putfield 15, 3) := by decide +kernel
theorem dX0_init_17 : decode cX0_init 17 = .ok (.aload_n 0, 1) := by decide +kernel
theorem dX0_init_18 : decode cX0_init 18 = .ok (.bipush 64, 2) := by decide +kernel
theorem dX0_init_20 : decode cX0_init 20 = .ok (.newarray .int, 2) := by decide +kernel
theorem dX0_init_22 : decode cX0_init 22 = .ok (.putfield 19, 3) := by decide +kernel
theorem dX0_init_25 : decode cX0_init 25 = .ok (.aload_n 0, 1) := by decide +kernel
theorem dX0_init_26 : decode cX0_init 26 = .ok (.bipush 64, 2) := by decide +kernel
theorem dX0_init_28 : decode cX0_init 28 = .ok (.newarray .int, 2) := by decide +kernel
theorem dX0_init_30 : decode cX0_init 30 = .ok (.putfield 22, 3) := by decide +kernel
theorem dX0_init_33 : decode cX0_init 33 = .ok (.aload_n 0, 1) := by decide +kernel
theorem dX0_init_34 : decode cX0_init 34 = .ok (.bipush 64, 2) := by decide +kernel
theorem dX0_init_36 : decode cX0_init 36 = .ok (.newarray .int, 2) := by decide +kernel
theorem dX0_init_38 : decode cX0_init 38 = .ok (.putfield 25, 3) := by decide +kernel
theorem dX0_init_41 : decode cX0_init 41 = .ok (.aload_n 0, 1) := by decide +kernel
theorem dX0_init_42 : decode cX0_init 42 = .ok (.bipush 64, 2) := by decide +kernel
theorem dX0_init_44 : decode cX0_init 44 = .ok (.newarray .int, 2) := by decide +kernel
theorem dX0_init_46 : decode cX0_init 46 = .ok (.putfield 28, 3) := by decide +kernel
theorem dX0_init_49 : decode cX0_init 49 = .ok (.aload_n 0, 1) := by decide +kernel
theorem dX0_init_50 : decode cX0_init 50 = .ok (.bipush 64, 2) := by decide +kernel
theorem dX0_init_52 : decode cX0_init 52 = .ok (.newarray .int, 2) := by decide +kernel
theorem dX0_init_54 : decode cX0_init 54 = .ok (.putfield 31, 3) := by decide +kernel
theorem dX0_init_57 : decode cX0_init 57 = .ok (.aload_n 0, 1) := by decide +kernel
theorem dX0_init_58 : decode cX0_init 58 = .ok (.getfield 15, 3) := by decide +kernel
theorem dX0_init_61 : decode cX0_init 61 = .ok (.bipush 100, 2) := by decide +kernel
theorem dX0_init_63 : decode cX0_init 63 = .ok (.invokestatic 34, 3) := by decide +kernel
theorem dX0_init_66 : decode cX0_init 66 = .ok (.aload_n 0, 1) := by decide +kernel
theorem dX0_init_67 : decode cX0_init 67 = .ok (.getfield 19, 3) := by decide +kernel
theorem dX0_init_70 : decode cX0_init 70 = .ok (.iconst (-1), 1) := by decide +kernel
theorem dX0_init_71 : decode cX0_init 71 = .ok (.invokestatic 34, 3) := by decide +kernel
theorem dX0_init_74 : decode cX0_init 74 = .ok (.aload_n 0, 1) := by decide +kernel
theorem dX0_init_75 : decode cX0_init 75 = .ok (.getfield 25, 3) := by decide +kernel
theorem dX0_init_78 : decode cX0_init 78 = .ok (.iconst (-1), 1) := by decide +kernel
theorem dX0_init_79 : decode cX0_init 79 = .ok (.invokestatic 34, 3) := by decide +kernel
theorem dX0_init_82 : decode cX0_init 82 = .ok (.return_, 1) := by decide +kernel
theorem dX0_become_0 : decode cX0_become 0 = .ok (.aload_n 0, 1) := by decide +kernel
theorem dX0_become_1 : decode cX0_become 1 = .ok (.aload_n 1, 1) := by decide +kernel
theorem dX0_become_2 : decode cX0_become 2 = .ok (.getfield 9, 3) := by decide +kernel
theorem dX0_become_5 : decode cX0_become 5 = .ok (.putfield 9, 3) := by decide +kernel
theorem dX0_become_8 : decode cX0_become 8 = .ok (.aload_n 1, 1) := by decide +kernel
theorem dX0_become_9 : decode cX0_become 9 = .ok (.getfield 15, 3) := by decide +kernel
theorem dX0_become_12 : decode cX0_become 12 = .ok (.aload_n 0, 1) := by decide +kernel
theorem dX0_become_13 : decode cX0_become 13 = .ok (.getfield 15, 3) := by decide +kernel
theorem dX0_become_16 : decode cX0_become 16 = .ok (.invokestatic 40, 3) := by decide +kernel
theorem dX0_become_19 : decode cX0_become 19 = .ok (.aload_n 1, 1) := by decide +kernel
theorem dX0_become_20 : decode cX0_become 20 = .ok (.getfield 19, 3) := by decide +kernel
theorem dX0_become_23 : decode cX0_become 23 = .ok (.aload_n 0, 1) := by decide +kernel
theorem dX0_become_24 : decode cX0_become 24 = .ok (.getfield 19, 3) := by decide +kernel
theorem dX0_become_27 : decode cX0_become 27 = .ok (.invokestatic 40, 3) := by decide +kernel
theorem dX0_become_30 : decode cX0_become 30 = .ok (.aload_n 1, 1) := by decide +kernel
theorem dX0_become_31 : decode cX0_become 31 = .ok (.getfield 22, 3) := by decide +kernel
theorem dX0_become_34 : decode cX0_become 34 = .ok (.aload_n 0, 1) := by decide +kernel
theorem dX0_become_35 : decode cX0_become 35 = .ok (.getfield 22, 3) := by decide +kernel
theorem dX0_become_38 : decode cX0_become 38 = .ok (.invokestatic 40, 3) := by decide +kernel
theorem dX0_become_41 : decode cX0_become 41 = .ok (.aload_n 1, 1) := by decide +kernel
theorem dX0_become_42 : decode cX0_become 42 = .ok (.getfield 25, 3) := by decide +kernel
theorem dX0_become_45 : decode cX0_become 45 = .ok (.aload_n 0, 1) := by decide +kernel
theorem dX0_become_46 : decode cX0_become 46 = .ok (.getfield 25, 3) := by decide +kernel
theorem dX0_become_49 : decode cX0_become 49 = .ok (.invokestatic 40, 3) := by decide +kernel
theorem dX0_become_52 : decode cX0_become 52 = .ok (.aload_n 1, 1) := by decide +kernel
theorem dX0_become_53 : decode cX0_become 53 = .ok (.getfield 28, 3) := by decide +kernel
theorem dX0_become_56 : decode cX0_become 56 = .ok (.aload_n 0, 1) := by decide +kernel
theorem dX0_become_57 : decode cX0_become 57 = .ok (.getfield 28, 3) := by decide +kernel
theorem dX0_become_60 : decode cX0_become 60 = .ok (.invokestatic 40, 3) := by decide +kernel
theorem dX0_become_63 : decode cX0_become 63 = .ok (.aload_n 1, 1) := by decide +kernel
theorem dX0_become_64 : decode cX0_become 64 = .ok (.getfield 31, 3) := by decide +kernel
theorem dX0_become_67 : decode cX0_become 67 = .ok (.aload_n 0, 1) := by decide +kernel
theorem dX0_become_68 : decode cX0_become 68 = .ok (.getfield 31, 3) := by decide +kernel
theorem dX0_become_71 : decode cX0_become 71 = .ok (.invokestatic 40, 3) := by decide +kernel
theorem dX0_become_74 : decode cX0_become 74 = .ok (.return_, 1) := by decide +kernel
theorem dX0_isOne_0 : decode cX0_isOne 0 = .ok (.aload_n 0, 1) := by decide +kernel
theorem dX0_isOne_1 : decode cX0_isOne 1 = .ok (.getfield 9, 3) := by decide +kernel
theorem dX0_isOne_4 : decode cX0_isOne 4 = .ok (.iload_n 1, 1) := by decide +kernel
theorem dX0_isOne_5 : decode cX0_isOne 5 = .ok (.invokestatic 44, 3) := by decide +kernel
theorem dX0_isOne_8 : decode cX0_isOne 8 = .ok (.land, 1) := by decide +kernel
theorem dX0_isOne_9 : decode cX0_isOne 9 = .ok (.lconst 0, 1) := by decide +kernel
theorem dX0_isOne_10 : decode cX0_isOne 10 = .ok (.lcmp, 1) := by decide +kernel
theorem dX0_isOne_11 : decode cX0_isOne 11 = .ok (.ifCond .eq 7, 3) := by decide +kernel
theorem dX0_isOne_14 : decode cX0_isOne 14 = .ok (.iconst 1, 1) := by decide +kernel
theorem dX0_isOne_15 : decode cX0_isOne 15 = .ok (.goto 4, 3) := by decide +kernel
theorem dX0_isOne_18 : decode cX0_isOne 18 = .ok (.iconst 0, 1) := by decide +kernel
theorem dX0_isOne_19 : decode cX0_isOne 19 = .ok (.ireturn, 1) := by decide +kernel
theorem dX0_bitOf_0 : decode cX0_bitOf 0 = .ok (.aload_n 0, 1) := by decide +kernel
theorem dX0_bitOf_1 : decode cX0_bitOf 1 = .ok (.iload_n 1, 1) := by decide +kernel
theorem dX0_bitOf_2 : decode cX0_bitOf 2 = .ok (.invokevirtual 48, 3) := by decide +kernel
theorem dX0_bitOf_5 : decode cX0_bitOf 5 = .ok (.ifCond .eq 7, 3) := by decide +kernel
theorem dX0_bitOf_8 : decode cX0_bitOf 8 = .ok (.iconst 1, 1) := by decide +kernel
theorem dX0_bitOf_9 : decode cX0_bitOf 9 = .ok (.goto 4, 3) := by decide +kernel
theorem dX0_bitOf_12 : decode cX0_bitOf 12 = .ok (.iconst 0, 1) := by decide +kernel
theorem dX0_bitOf_13 : decode cX0_bitOf 13 = .ok (.ireturn, 1) := by decide +kernel
theorem dX0_putBit_0 : decode cX0_putBit 0 = .ok (.aload_n 0, 1) := by decide +kernel
theorem dX0_putBit_1 : decode cX0_putBit 1 = .ok (.iload_n 2, 1) := by decide +kernel
theorem dX0_putBit_2 : decode cX0_putBit 2 = .ok (.ifCond .eq 15, 3) := by decide +kernel
theorem dX0_putBit_5 : decode cX0_putBit 5 = .ok (.aload_n 0, 1) := by decide +kernel
theorem dX0_putBit_6 : decode cX0_putBit 6 = .ok (.getfield 9, 3) := by decide +kernel
theorem dX0_putBit_9 : decode cX0_putBit 9 = .ok (.iload_n 1, 1) := by decide +kernel
theorem dX0_putBit_10 : decode cX0_putBit 10 = .ok (.invokestatic 44, 3) := by decide +kernel
theorem dX0_putBit_13 : decode cX0_putBit 13 = .ok (.lor, 1) := by decide +kernel
theorem dX0_putBit_14 : decode cX0_putBit 14 = .ok (.goto 16, 3) := by decide +kernel
theorem dX0_putBit_17 : decode cX0_putBit 17 = .ok (.aload_n 0, 1) := by decide +kernel
theorem dX0_putBit_18 : decode cX0_putBit 18 = .ok (.getfield 9, 3) := by decide +kernel
theorem dX0_putBit_21 : decode cX0_putBit 21 = .ok (.iload_n 1, 1) := by decide +kernel
theorem dX0_putBit_22 : decode cX0_putBit 22 = .ok (.invokestatic 44, 3) := by decide +kernel
theorem dX0_putBit_25 : decode cX0_putBit 25 = .ok (.ldc2_w 52, 3) := by decide +kernel
theorem dX0_putBit_28 : decode cX0_putBit 28 = .ok (.lxor, 1) := by decide +kernel
theorem dX0_putBit_29 : decode cX0_putBit 29 = .ok (.land, 1) := by decide +kernel
theorem dX0_putBit_30 : decode cX0_putBit 30 = .ok (.putfield 9, 3) := by decide +kernel
theorem dX0_putBit_33 : decode cX0_putBit 33 = .ok (.return_, 1) := by decide +kernel
theorem dX0_isLeased_0 : decode cX0_isLeased 0 = .ok (.aload_n 0, 1) := by decide +kernel
theorem dX0_isLeased_1 : decode cX0_isLeased 1 = .ok (.getfield 19, 3) := by decide +kernel
theorem dX0_isLeased_4 : decode cX0_isLeased 4 = .ok (.iload_n 1, 1) := by decide +kernel
theorem dX0_isLeased_5 : decode cX0_isLeased 5 = .ok (.iaload, 1) := by decide +kernel
theorem dX0_isLeased_6 : decode cX0_isLeased 6 = .ok (.iconst (-1), 1) := by decide +kernel
theorem dX0_isLeased_7 : decode cX0_isLeased 7 = .ok (.if_icmp .eq 7, 3) := by decide +kernel
theorem dX0_isLeased_10 : decode cX0_isLeased 10 = .ok (.iconst 1, 1) := by decide +kernel
theorem dX0_isLeased_11 : decode cX0_isLeased 11 = .ok (.goto 4, 3) := by decide +kernel
theorem dX0_isLeased_14 : decode cX0_isLeased 14 = .ok (.iconst 0, 1) := by decide +kernel
theorem dX0_isLeased_15 : decode cX0_isLeased 15 = .ok (.ireturn, 1) := by decide +kernel
theorem dX0_isLeasedTo_0 : decode cX0_isLeasedTo 0 = .ok (.iload_n 1, 1) := by decide +kernel
theorem dX0_isLeasedTo_1 : decode cX0_isLeasedTo 1 = .ok (.invokestatic 54, 3) := by decide +kernel
theorem dX0_isLeasedTo_4 : decode cX0_isLeasedTo 4 = .ok (.ifCond .eq 17, 3) := by decide +kernel
theorem dX0_isLeasedTo_7 : decode cX0_isLeasedTo 7 = .ok (.aload_n 0, 1) := by decide +kernel
theorem dX0_isLeasedTo_8 : decode cX0_isLeasedTo 8 = .ok (.getfield 19, 3) := by decide +kernel
theorem dX0_isLeasedTo_11 : decode cX0_isLeasedTo 11 = .ok (.iload_n 1, 1) := by decide +kernel
theorem dX0_isLeasedTo_12 : decode cX0_isLeasedTo 12 = .ok (.iaload, 1) := by decide +kernel
theorem dX0_isLeasedTo_13 : decode cX0_isLeasedTo 13 = .ok (.iload_n 2, 1) := by decide +kernel
theorem dX0_isLeasedTo_14 : decode cX0_isLeasedTo 14 = .ok (.if_icmp .ne 7, 3) := by decide +kernel
theorem dX0_isLeasedTo_17 : decode cX0_isLeasedTo 17 = .ok (.iconst 1, 1) := by decide +kernel
theorem dX0_isLeasedTo_18 : decode cX0_isLeasedTo 18 = .ok (.goto 4, 3) := by decide +kernel
theorem dX0_isLeasedTo_21 : decode cX0_isLeasedTo 21 = .ok (.iconst 0, 1) := by decide +kernel
theorem dX0_isLeasedTo_22 : decode cX0_isLeasedTo 22 = .ok (.ireturn, 1) := by decide +kernel
theorem dX0_hasPolicy_0 : decode cX0_hasPolicy 0 = .ok (.aload_n 0, 1) := by decide +kernel
theorem dX0_hasPolicy_1 : decode cX0_hasPolicy 1 = .ok (.getfield 25, 3) := by decide +kernel
theorem dX0_hasPolicy_4 : decode cX0_hasPolicy 4 = .ok (.iload_n 1, 1) := by decide +kernel
theorem dX0_hasPolicy_5 : decode cX0_hasPolicy 5 = .ok (.iaload, 1) := by decide +kernel
theorem dX0_hasPolicy_6 : decode cX0_hasPolicy 6 = .ok (.iconst (-1), 1) := by decide +kernel
theorem dX0_hasPolicy_7 : decode cX0_hasPolicy 7 = .ok (.if_icmp .eq 7, 3) := by decide +kernel
theorem dX0_hasPolicy_10 : decode cX0_hasPolicy 10 = .ok (.iconst 1, 1) := by decide +kernel
theorem dX0_hasPolicy_11 : decode cX0_hasPolicy 11 = .ok (.goto 4, 3) := by decide +kernel
theorem dX0_hasPolicy_14 : decode cX0_hasPolicy 14 = .ok (.iconst 0, 1) := by decide +kernel
theorem dX0_hasPolicy_15 : decode cX0_hasPolicy 15 = .ok (.ireturn, 1) := by decide +kernel
theorem dX0_endPolicy_0 : decode cX0_endPolicy 0 = .ok (.aload_n 0, 1) := by decide +kernel
theorem dX0_endPolicy_1 : decode cX0_endPolicy 1 = .ok (.getfield 25, 3) := by decide +kernel
theorem dX0_endPolicy_4 : decode cX0_endPolicy 4 = .ok (.iload_n 1, 1) := by decide +kernel
theorem dX0_endPolicy_5 : decode cX0_endPolicy 5 = .ok (.iconst (-1), 1) := by decide +kernel
theorem dX0_endPolicy_6 : decode cX0_endPolicy 6 = .ok (.iastore, 1) := by decide +kernel
theorem dX0_endPolicy_7 : decode cX0_endPolicy 7 = .ok (.return_, 1) := by decide +kernel
theorem dX0_endLease_0 : decode cX0_endLease 0 = .ok (.aload_n 0, 1) := by decide +kernel
theorem dX0_endLease_1 : decode cX0_endLease 1 = .ok (.getfield 19, 3) := by decide +kernel
theorem dX0_endLease_4 : decode cX0_endLease 4 = .ok (.iload_n 1, 1) := by decide +kernel
theorem dX0_endLease_5 : decode cX0_endLease 5 = .ok (.iconst (-1), 1) := by decide +kernel
theorem dX0_endLease_6 : decode cX0_endLease 6 = .ok (.iastore, 1) := by decide +kernel
theorem dX0_endLease_7 : decode cX0_endLease 7 = .ok (.aload_n 0, 1) := by decide +kernel
theorem dX0_endLease_8 : decode cX0_endLease 8 = .ok (.iload_n 1, 1) := by decide +kernel
theorem dX0_endLease_9 : decode cX0_endLease 9 = .ok (.invokevirtual 57, 3) := by decide +kernel
theorem dX0_endLease_12 : decode cX0_endLease 12 = .ok (.return_, 1) := by decide +kernel
theorem dX0_leasesOf_0 : decode cX0_leasesOf 0 = .ok (.lconst 0, 1) := by decide +kernel
theorem dX0_leasesOf_1 : decode cX0_leasesOf 1 = .ok (.lstore_n 2, 1) := by decide +kernel
theorem dX0_leasesOf_2 : decode cX0_leasesOf 2 = .ok (.iconst 0, 1) := by decide +kernel
theorem dX0_leasesOf_3 : decode cX0_leasesOf 3 = .ok (.istore 4, 2) := by decide +kernel
theorem dX0_leasesOf_5 : decode cX0_leasesOf 5 = .ok (.iload 4, 2) := by decide +kernel
theorem dX0_leasesOf_7 : decode cX0_leasesOf 7 = .ok (.bipush 64, 2) := by decide +kernel
theorem dX0_leasesOf_9 : decode cX0_leasesOf 9 = .ok (.if_icmp .ge 28, 3) := by decide +kernel
theorem dX0_leasesOf_12 : decode cX0_leasesOf 12 = .ok (.aload_n 0, 1) := by decide +kernel
theorem dX0_leasesOf_13 : decode cX0_leasesOf 13 = .ok (.getfield 19, 3) := by decide +kernel
theorem dX0_leasesOf_16 : decode cX0_leasesOf 16 = .ok (.iload 4, 2) := by decide +kernel
theorem dX0_leasesOf_18 : decode cX0_leasesOf 18 = .ok (.iaload, 1) := by decide +kernel
theorem dX0_leasesOf_19 : decode cX0_leasesOf 19 = .ok (.iload_n 1, 1) := by decide +kernel
theorem dX0_leasesOf_20 : decode cX0_leasesOf 20 = .ok (.if_icmp .ne 11, 3) := by decide +kernel
theorem dX0_leasesOf_23 : decode cX0_leasesOf 23 = .ok (.lload_n 2, 1) := by decide +kernel
theorem dX0_leasesOf_24 : decode cX0_leasesOf 24 = .ok (.iload 4, 2) := by decide +kernel
theorem dX0_leasesOf_26 : decode cX0_leasesOf 26 = .ok (.invokestatic 44, 3) := by decide +kernel
theorem dX0_leasesOf_29 : decode cX0_leasesOf 29 = .ok (.lor, 1) := by decide +kernel
theorem dX0_leasesOf_30 : decode cX0_leasesOf 30 = .ok (.lstore_n 2, 1) := by decide +kernel
theorem dX0_leasesOf_31 : decode cX0_leasesOf 31 = .ok (.iinc 4 1, 3) := by decide +kernel
theorem dX0_leasesOf_34 : decode cX0_leasesOf 34 = .ok (.goto (-29), 3) := by decide +kernel
theorem dX0_leasesOf_37 : decode cX0_leasesOf 37 = .ok (.lload_n 2, 1) := by decide +kernel
theorem dX0_leasesOf_38 : decode cX0_leasesOf 38 = .ok (.lreturn, 1) := by decide +kernel
theorem dX0_insured_0 : decode cX0_insured 0 = .ok (.lconst 0, 1) := by decide +kernel
theorem dX0_insured_1 : decode cX0_insured 1 = .ok (.lstore_n 1, 1) := by decide +kernel
theorem dX0_insured_2 : decode cX0_insured 2 = .ok (.iconst 0, 1) := by decide +kernel
theorem dX0_insured_3 : decode cX0_insured 3 = .ok (.istore_n 3, 1) := by decide +kernel
theorem dX0_insured_4 : decode cX0_insured 4 = .ok (.iload_n 3, 1) := by decide +kernel
theorem dX0_insured_5 : decode cX0_insured 5 = .ok (.bipush 64, 2) := by decide +kernel
theorem dX0_insured_7 : decode cX0_insured 7 = .ok (.if_icmp .ge 24, 3) := by decide +kernel
theorem dX0_insured_10 : decode cX0_insured 10 = .ok (.aload_n 0, 1) := by decide +kernel
theorem dX0_insured_11 : decode cX0_insured 11 = .ok (.iload_n 3, 1) := by decide +kernel
theorem dX0_insured_12 : decode cX0_insured 12 = .ok (.invokevirtual 61, 3) := by decide +kernel
theorem dX0_insured_15 : decode cX0_insured 15 = .ok (.ifCond .eq 10, 3) := by decide +kernel
theorem dX0_insured_18 : decode cX0_insured 18 = .ok (.lload_n 1, 1) := by decide +kernel
theorem dX0_insured_19 : decode cX0_insured 19 = .ok (.iload_n 3, 1) := by decide +kernel
theorem dX0_insured_20 : decode cX0_insured 20 = .ok (.invokestatic 44, 3) := by decide +kernel
theorem dX0_insured_23 : decode cX0_insured 23 = .ok (.lor, 1) := by decide +kernel
theorem dX0_insured_24 : decode cX0_insured 24 = .ok (.lstore_n 1, 1) := by decide +kernel
theorem dX0_insured_25 : decode cX0_insured 25 = .ok (.iinc 3 1, 3) := by decide +kernel
theorem dX0_insured_28 : decode cX0_insured 28 = .ok (.goto (-24), 3) := by decide +kernel
theorem dX0_insured_31 : decode cX0_insured 31 = .ok (.lload_n 1, 1) := by decide +kernel
theorem dX0_insured_32 : decode cX0_insured 32 = .ok (.lreturn, 1) := by decide +kernel
theorem dX0_leasedTo_0 : decode cX0_leasedTo 0 = .ok (.aload_n 0, 1) := by decide +kernel
theorem dX0_leasedTo_1 : decode cX0_leasedTo 1 = .ok (.iload_n 1, 1) := by decide +kernel
theorem dX0_leasedTo_2 : decode cX0_leasedTo 2 = .ok (.invokevirtual 64, 3) := by decide +kernel
theorem dX0_leasedTo_5 : decode cX0_leasedTo 5 = .ok (.invokestatic 67, 3) := by decide +kernel
theorem dX0_leasedTo_8 : decode cX0_leasedTo 8 = .ok (.ireturn, 1) := by decide +kernel
theorem dX0_insuredOf_0 : decode cX0_insuredOf 0 = .ok (.aload_n 0, 1) := by decide +kernel
theorem dX0_insuredOf_1 : decode cX0_insuredOf 1 = .ok (.iload_n 1, 1) := by decide +kernel
theorem dX0_insuredOf_2 : decode cX0_insuredOf 2 = .ok (.invokevirtual 64, 3) := by decide +kernel
theorem dX0_insuredOf_5 : decode cX0_insuredOf 5 = .ok (.aload_n 0, 1) := by decide +kernel
theorem dX0_insuredOf_6 : decode cX0_insuredOf 6 = .ok (.invokevirtual 73, 3) := by decide +kernel
theorem dX0_insuredOf_9 : decode cX0_insuredOf 9 = .ok (.land, 1) := by decide +kernel
theorem dX0_insuredOf_10 : decode cX0_insuredOf 10 = .ok (.invokestatic 67, 3) := by decide +kernel
theorem dX0_insuredOf_13 : decode cX0_insuredOf 13 = .ok (.ireturn, 1) := by decide +kernel
theorem dX0_leasedInAll_0 : decode cX0_leasedInAll 0 = .ok (.bipush 64, 2) := by decide +kernel
theorem dX0_leasedInAll_2 : decode cX0_leasedInAll 2 = .ok (.aload_n 0, 1) := by decide +kernel
theorem dX0_leasedInAll_3 : decode cX0_leasedInAll 3 = .ok (.iconst (-1), 1) := by decide +kernel
theorem dX0_leasedInAll_4 : decode cX0_leasedInAll 4 = .ok (.invokevirtual 77, 3) := by decide +kernel
theorem dX0_leasedInAll_7 : decode cX0_leasedInAll 7 = .ok (.isub, 1) := by decide +kernel
theorem dX0_leasedInAll_8 : decode cX0_leasedInAll 8 = .ok (.ireturn, 1) := by decide +kernel
theorem dX0_insuredInAll_0 : decode cX0_insuredInAll 0 = .ok (.aload_n 0, 1) := by decide +kernel
theorem dX0_insuredInAll_1 : decode cX0_insuredInAll 1 = .ok (.invokevirtual 73, 3) := by decide +kernel
theorem dX0_insuredInAll_4 : decode cX0_insuredInAll 4 = .ok (.invokestatic 67, 3) := by decide +kernel
theorem dX0_insuredInAll_7 : decode cX0_insuredInAll 7 = .ok (.ireturn, 1) := by decide +kernel
theorem dX0_insuredBy_0 : decode cX0_insuredBy 0 = .ok (.iconst 0, 1) := by decide +kernel
theorem dX0_insuredBy_1 : decode cX0_insuredBy 1 = .ok (.istore_n 2, 1) := by decide +kernel
theorem dX0_insuredBy_2 : decode cX0_insuredBy 2 = .ok (.iconst 0, 1) := by decide +kernel
theorem dX0_insuredBy_3 : decode cX0_insuredBy 3 = .ok (.istore_n 3, 1) := by decide +kernel
theorem dX0_insuredBy_4 : decode cX0_insuredBy 4 = .ok (.iload_n 3, 1) := by decide +kernel
theorem dX0_insuredBy_5 : decode cX0_insuredBy 5 = .ok (.bipush 64, 2) := by decide +kernel
theorem dX0_insuredBy_7 : decode cX0_insuredBy 7 = .ok (.if_icmp .ge 22, 3) := by decide +kernel
theorem dX0_insuredBy_10 : decode cX0_insuredBy 10 = .ok (.aload_n 0, 1) := by decide +kernel
theorem dX0_insuredBy_11 : decode cX0_insuredBy 11 = .ok (.getfield 25, 3) := by decide +kernel
theorem dX0_insuredBy_14 : decode cX0_insuredBy 14 = .ok (.iload_n 3, 1) := by decide +kernel
theorem dX0_insuredBy_15 : decode cX0_insuredBy 15 = .ok (.iaload, 1) := by decide +kernel
theorem dX0_insuredBy_16 : decode cX0_insuredBy 16 = .ok (.iload_n 1, 1) := by decide +kernel
theorem dX0_insuredBy_17 : decode cX0_insuredBy 17 = .ok (.if_icmp .ne 6, 3) := by decide +kernel
theorem dX0_insuredBy_20 : decode cX0_insuredBy 20 = .ok (.iinc 2 1, 3) := by decide +kernel
theorem dX0_insuredBy_23 : decode cX0_insuredBy 23 = .ok (.iinc 3 1, 3) := by decide +kernel
theorem dX0_insuredBy_26 : decode cX0_insuredBy 26 = .ok (.goto (-22), 3) := by decide +kernel
theorem dX0_insuredBy_29 : decode cX0_insuredBy 29 = .ok (.iload_n 2, 1) := by decide +kernel
theorem dX0_insuredBy_30 : decode cX0_insuredBy 30 = .ok (.ireturn, 1) := by decide +kernel
theorem dX0_onesBelow_0 : decode cX0_onesBelow 0 = .ok (.lconst 0, 1) := by decide +kernel
theorem dX0_onesBelow_1 : decode cX0_onesBelow 1 = .ok (.lstore_n 2, 1) := by decide +kernel
theorem dX0_onesBelow_2 : decode cX0_onesBelow 2 = .ok (.iconst 0, 1) := by decide +kernel
theorem dX0_onesBelow_3 : decode cX0_onesBelow 3 = .ok (.istore 4, 2) := by decide +kernel
theorem dX0_onesBelow_5 : decode cX0_onesBelow 5 = .ok (.iload 4, 2) := by decide +kernel
theorem dX0_onesBelow_7 : decode cX0_onesBelow 7 = .ok (.bipush 64, 2) := by decide +kernel
theorem dX0_onesBelow_9 : decode cX0_onesBelow 9 = .ok (.if_icmp .ge 37, 3) := by decide +kernel
theorem dX0_onesBelow_12 : decode cX0_onesBelow 12 = .ok (.aload_n 0, 1) := by decide +kernel
theorem dX0_onesBelow_13 : decode cX0_onesBelow 13 = .ok (.getfield 15, 3) := by decide +kernel
theorem dX0_onesBelow_16 : decode cX0_onesBelow 16 = .ok (.iload 4, 2) := by decide +kernel
theorem dX0_onesBelow_18 : decode cX0_onesBelow 18 = .ok (.iaload, 1) := by decide +kernel
theorem dX0_onesBelow_19 : decode cX0_onesBelow 19 = .ok (.iload_n 1, 1) := by decide +kernel
theorem dX0_onesBelow_20 : decode cX0_onesBelow 20 = .ok (.if_icmp .ge 20, 3) := by decide +kernel
theorem dX0_onesBelow_23 : decode cX0_onesBelow 23 = .ok (.aload_n 0, 1) := by decide +kernel
theorem dX0_onesBelow_24 : decode cX0_onesBelow 24 = .ok (.iload 4, 2) := by decide +kernel
theorem dX0_onesBelow_26 : decode cX0_onesBelow 26 = .ok (.invokevirtual 48, 3) := by decide +kernel
theorem dX0_onesBelow_29 : decode cX0_onesBelow 29 = .ok (.ifCond .eq 11, 3) := by decide +kernel
theorem dX0_onesBelow_32 : decode cX0_onesBelow 32 = .ok (.lload_n 2, 1) := by decide +kernel
theorem dX0_onesBelow_33 : decode cX0_onesBelow 33 = .ok (.iload 4, 2) := by decide +kernel
theorem dX0_onesBelow_35 : decode cX0_onesBelow 35 = .ok (.invokestatic 44, 3) := by decide +kernel
theorem dX0_onesBelow_38 : decode cX0_onesBelow 38 = .ok (.lor, 1) := by decide +kernel
theorem dX0_onesBelow_39 : decode cX0_onesBelow 39 = .ok (.lstore_n 2, 1) := by decide +kernel
theorem dX0_onesBelow_40 : decode cX0_onesBelow 40 = .ok (.iinc 4 1, 3) := by decide +kernel
theorem dX0_onesBelow_43 : decode cX0_onesBelow 43 = .ok (.goto (-38), 3) := by decide +kernel
theorem dX0_onesBelow_46 : decode cX0_onesBelow 46 = .ok (.lload_n 2, 1) := by decide +kernel
theorem dX0_onesBelow_47 : decode cX0_onesBelow 47 = .ok (.lreturn, 1) := by decide +kernel
theorem dX0_nextWeakest_0 : decode cX0_nextWeakest 0 = .ok (.iconst (-1), 1) := by decide +kernel
theorem dX0_nextWeakest_1 : decode cX0_nextWeakest 1 = .ok (.istore_n 2, 1) := by decide +kernel
theorem dX0_nextWeakest_2 : decode cX0_nextWeakest 2 = .ok (.iconst 0, 1) := by decide +kernel
theorem dX0_nextWeakest_3 : decode cX0_nextWeakest 3 = .ok (.istore_n 3, 1) := by decide +kernel
theorem dX0_nextWeakest_4 : decode cX0_nextWeakest 4 = .ok (.iload_n 3, 1) := by decide +kernel
theorem dX0_nextWeakest_5 : decode cX0_nextWeakest 5 = .ok (.bipush 64, 2) := by decide +kernel
theorem dX0_nextWeakest_7 : decode cX0_nextWeakest 7 = .ok (.if_icmp .ge 34, 3) := by decide +kernel
theorem dX0_nextWeakest_10 : decode cX0_nextWeakest 10 = .ok (.aload_n 0, 1) := by decide +kernel
theorem dX0_nextWeakest_11 : decode cX0_nextWeakest 11 = .ok (.iload_n 1, 1) := by decide +kernel
theorem dX0_nextWeakest_12 : decode cX0_nextWeakest 12 = .ok (.iload_n 3, 1) := by decide +kernel
theorem dX0_nextWeakest_13 : decode cX0_nextWeakest 13 = .ok (.invokevirtual 81, 3) := by decide +kernel
theorem dX0_nextWeakest_16 : decode cX0_nextWeakest 16 = .ok (.ifCond .eq 19, 3) := by decide +kernel
theorem dX0_nextWeakest_19 : decode cX0_nextWeakest 19 = .ok (.iload_n 2, 1) := by decide +kernel
theorem dX0_nextWeakest_20 : decode cX0_nextWeakest 20 = .ok (.iconst (-1), 1) := by decide +kernel
theorem dX0_nextWeakest_21 : decode cX0_nextWeakest 21 = .ok (.if_icmp .eq 12, 3) := by decide +kernel
theorem dX0_nextWeakest_24 : decode cX0_nextWeakest 24 = .ok (.aload_n 0, 1) := by decide +kernel
theorem dX0_nextWeakest_25 : decode cX0_nextWeakest 25 = .ok (.iload_n 3, 1) := by decide +kernel
theorem dX0_nextWeakest_26 : decode cX0_nextWeakest 26 = .ok (.iload_n 2, 1) := by decide +kernel
theorem dX0_nextWeakest_27 : decode cX0_nextWeakest 27 = .ok (.invokevirtual 81, 3) := by decide +kernel
theorem dX0_nextWeakest_30 : decode cX0_nextWeakest 30 = .ok (.ifCond .eq 5, 3) := by decide +kernel
theorem dX0_nextWeakest_33 : decode cX0_nextWeakest 33 = .ok (.iload_n 3, 1) := by decide +kernel
theorem dX0_nextWeakest_34 : decode cX0_nextWeakest 34 = .ok (.istore_n 2, 1) := by decide +kernel
theorem dX0_nextWeakest_35 : decode cX0_nextWeakest 35 = .ok (.iinc 3 1, 3) := by decide +kernel
theorem dX0_nextWeakest_38 : decode cX0_nextWeakest 38 = .ok (.goto (-34), 3) := by decide +kernel
theorem dX0_nextWeakest_41 : decode cX0_nextWeakest 41 = .ok (.iload_n 2, 1) := by decide +kernel
theorem dX0_nextWeakest_42 : decode cX0_nextWeakest 42 = .ok (.ireturn, 1) := by decide +kernel
theorem dX0_isWeaker_0 : decode cX0_isWeaker 0 = .ok (.iload_n 1, 1) := by decide +kernel
theorem dX0_isWeaker_1 : decode cX0_isWeaker 1 = .ok (.invokestatic 54, 3) := by decide +kernel
theorem dX0_isWeaker_4 : decode cX0_isWeaker 4 = .ok (.ifCond .eq 10, 3) := by decide +kernel
theorem dX0_isWeaker_7 : decode cX0_isWeaker 7 = .ok (.iload_n 2, 1) := by decide +kernel
theorem dX0_isWeaker_8 : decode cX0_isWeaker 8 = .ok (.invokestatic 54, 3) := by decide +kernel
theorem dX0_isWeaker_11 : decode cX0_isWeaker 11 = .ok (.ifCond .ne 14, 3) := by decide +kernel
theorem dX0_isWeaker_14 : decode cX0_isWeaker 14 = .ok (.iload_n 1, 1) := by decide +kernel
theorem dX0_isWeaker_15 : decode cX0_isWeaker 15 = .ok (.iconst (-1), 1) := by decide +kernel
theorem dX0_isWeaker_16 : decode cX0_isWeaker 16 = .ok (.if_icmp .ne 7, 3) := by decide +kernel
theorem dX0_isWeaker_19 : decode cX0_isWeaker 19 = .ok (.iconst 1, 1) := by decide +kernel
theorem dX0_isWeaker_20 : decode cX0_isWeaker 20 = .ok (.goto 4, 3) := by decide +kernel
theorem dX0_isWeaker_23 : decode cX0_isWeaker 23 = .ok (.iconst 0, 1) := by decide +kernel
theorem dX0_isWeaker_24 : decode cX0_isWeaker 24 = .ok (.ireturn, 1) := by decide +kernel
theorem dX0_isWeaker_25 : decode cX0_isWeaker 25 = .ok (.aload_n 0, 1) := by decide +kernel
theorem dX0_isWeaker_26 : decode cX0_isWeaker 26 = .ok (.getfield 15, 3) := by decide +kernel
theorem dX0_isWeaker_29 : decode cX0_isWeaker 29 = .ok (.iload_n 1, 1) := by decide +kernel
theorem dX0_isWeaker_30 : decode cX0_isWeaker 30 = .ok (.iaload, 1) := by decide +kernel
theorem dX0_isWeaker_31 : decode cX0_isWeaker 31 = .ok (.aload_n 0, 1) := by decide +kernel
theorem dX0_isWeaker_32 : decode cX0_isWeaker 32 = .ok (.getfield 15, 3) := by decide +kernel
theorem dX0_isWeaker_35 : decode cX0_isWeaker 35 = .ok (.iload_n 2, 1) := by decide +kernel
theorem dX0_isWeaker_36 : decode cX0_isWeaker 36 = .ok (.iaload, 1) := by decide +kernel
theorem dX0_isWeaker_37 : decode cX0_isWeaker 37 = .ok (.if_icmp .lt 23, 3) := by decide +kernel
theorem dX0_isWeaker_40 : decode cX0_isWeaker 40 = .ok (.aload_n 0, 1) := by decide +kernel
theorem dX0_isWeaker_41 : decode cX0_isWeaker 41 = .ok (.getfield 15, 3) := by decide +kernel
theorem dX0_isWeaker_44 : decode cX0_isWeaker 44 = .ok (.iload_n 1, 1) := by decide +kernel
theorem dX0_isWeaker_45 : decode cX0_isWeaker 45 = .ok (.iaload, 1) := by decide +kernel
theorem dX0_isWeaker_46 : decode cX0_isWeaker 46 = .ok (.aload_n 0, 1) := by decide +kernel
theorem dX0_isWeaker_47 : decode cX0_isWeaker 47 = .ok (.getfield 15, 3) := by decide +kernel
theorem dX0_isWeaker_50 : decode cX0_isWeaker 50 = .ok (.iload_n 2, 1) := by decide +kernel
theorem dX0_isWeaker_51 : decode cX0_isWeaker 51 = .ok (.iaload, 1) := by decide +kernel
theorem dX0_isWeaker_52 : decode cX0_isWeaker 52 = .ok (.if_icmp .ne 12, 3) := by decide +kernel
theorem dX0_isWeaker_55 : decode cX0_isWeaker 55 = .ok (.iload_n 1, 1) := by decide +kernel
theorem dX0_isWeaker_56 : decode cX0_isWeaker 56 = .ok (.iload_n 2, 1) := by decide +kernel
theorem dX0_isWeaker_57 : decode cX0_isWeaker 57 = .ok (.if_icmp .ge 7, 3) := by decide +kernel
theorem dX0_isWeaker_60 : decode cX0_isWeaker 60 = .ok (.iconst 1, 1) := by decide +kernel
theorem dX0_isWeaker_61 : decode cX0_isWeaker 61 = .ok (.goto 4, 3) := by decide +kernel
theorem dX0_isWeaker_64 : decode cX0_isWeaker 64 = .ok (.iconst 0, 1) := by decide +kernel
theorem dX0_isWeaker_65 : decode cX0_isWeaker 65 = .ok (.ireturn, 1) := by decide +kernel
theorem dX1_init_0 : decode cX1_init 0 = .ok (.aload_n 0, 1) := by decide +kernel
theorem dX1_init_1 : decode cX1_init 1 = .ok (.invokespecial 3, 3) := by decide +kernel
theorem dX1_init_4 : decode cX1_init 4 = .ok (.aload_n 0, 1) := by decide +kernel
theorem dX1_init_5 : decode cX1_init 5 = .ok (.iconst 0, 1) := by decide +kernel
theorem dX1_init_6 : decode cX1_init 6 = .ok (.putfield 9, 3) := by decide +kernel
theorem dX1_init_9 : decode cX1_init 9 = .ok (.aload_n 0, 1) := by decide +kernel
theorem dX1_init_10 : decode cX1_init 10 = .ok (.bipush 64, 2) := by decide +kernel
theorem dX1_init_12 : decode cX1_init 12 = .ok (.newarray .int, 2) := by decide +kernel
theorem dX1_init_14 : decode cX1_init 14 = .ok (.putfield 15, 3) := by decide +kernel
theorem dX1_init_17 : decode cX1_init 17 = .ok (.aload_n 0, 1) := by decide +kernel
theorem dX1_init_18 : decode cX1_init 18 = .ok (.bipush 64, 2) := by decide +kernel
theorem dX1_init_20 : decode cX1_init 20 = .ok (.newarray .int, 2) := by decide +kernel
theorem dX1_init_22 : decode cX1_init 22 = .ok (.putfield 19, 3) := by decide +kernel
theorem dX1_init_25 : decode cX1_init 25 = .ok (.aload_n 0, 1) := by decide +kernel
theorem dX1_init_26 : decode cX1_init 26 = .ok (.getfield 19, 3) := by decide +kernel
theorem dX1_init_29 : decode cX1_init 29 = .ok (.iconst (-1), 1) := by decide +kernel
theorem dX1_init_30 : decode cX1_init 30 = .ok (.invokestatic 22, 3) := by decide +kernel
theorem dX1_init_33 : decode cX1_init 33 = .ok (.return_, 1) := by decide +kernel
theorem dX1_become_0 : decode cX1_become 0 = .ok (.aload_n 0, 1) := by decide +kernel
theorem dX1_become_1 : decode cX1_become 1 = .ok (.aload_n 1, 1) := by decide +kernel
theorem dX1_become_2 : decode cX1_become 2 = .ok (.getfield 9, 3) := by decide +kernel
theorem dX1_become_5 : decode cX1_become 5 = .ok (.putfield 9, 3) := by decide +kernel
theorem dX1_become_8 : decode cX1_become 8 = .ok (.aload_n 1, 1) := by decide +kernel
theorem dX1_become_9 : decode cX1_become 9 = .ok (.getfield 15, 3) := by decide +kernel
theorem dX1_become_12 : decode cX1_become 12 = .ok (.aload_n 0, 1) := by decide +kernel
theorem dX1_become_13 : decode cX1_become 13 = .ok (.getfield 15, 3) := by decide +kernel
theorem dX1_become_16 : decode cX1_become 16 = .ok (.invokestatic 28, 3) := by decide +kernel
theorem dX1_become_19 : decode cX1_become 19 = .ok (.aload_n 1, 1) := by decide +kernel
theorem dX1_become_20 : decode cX1_become 20 = .ok (.getfield 19, 3) := by decide +kernel
theorem dX1_become_23 : decode cX1_become 23 = .ok (.aload_n 0, 1) := by decide +kernel
theorem dX1_become_24 : decode cX1_become 24 = .ok (.getfield 19, 3) := by decide +kernel
theorem dX1_become_27 : decode cX1_become 27 = .ok (.invokestatic 28, 3) := by decide +kernel
theorem dX1_become_30 : decode cX1_become 30 = .ok (.return_, 1) := by decide +kernel
theorem dX1_isOwed_0 : decode cX1_isOwed 0 = .ok (.aload_n 0, 1) := by decide +kernel
theorem dX1_isOwed_1 : decode cX1_isOwed 1 = .ok (.getfield 19, 3) := by decide +kernel
theorem dX1_isOwed_4 : decode cX1_isOwed 4 = .ok (.iload_n 1, 1) := by decide +kernel
theorem dX1_isOwed_5 : decode cX1_isOwed 5 = .ok (.iaload, 1) := by decide +kernel
theorem dX1_isOwed_6 : decode cX1_isOwed 6 = .ok (.iconst (-1), 1) := by decide +kernel
theorem dX1_isOwed_7 : decode cX1_isOwed 7 = .ok (.if_icmp .eq 7, 3) := by decide +kernel
theorem dX1_isOwed_10 : decode cX1_isOwed 10 = .ok (.iconst 1, 1) := by decide +kernel
theorem dX1_isOwed_11 : decode cX1_isOwed 11 = .ok (.goto 4, 3) := by decide +kernel
theorem dX1_isOwed_14 : decode cX1_isOwed 14 = .ok (.iconst 0, 1) := by decide +kernel
theorem dX1_isOwed_15 : decode cX1_isOwed 15 = .ok (.ireturn, 1) := by decide +kernel
theorem dX1_dueOf_0 : decode cX1_dueOf 0 = .ok (.iload_n 1, 1) := by decide +kernel
theorem dX1_dueOf_1 : decode cX1_dueOf 1 = .ok (.invokestatic 32, 3) := by decide +kernel
theorem dX1_dueOf_4 : decode cX1_dueOf 4 = .ok (.ifCond .eq 12, 3) := by decide +kernel
theorem dX1_dueOf_7 : decode cX1_dueOf 7 = .ok (.aload_n 0, 1) := by decide +kernel
theorem dX1_dueOf_8 : decode cX1_dueOf 8 = .ok (.getfield 19, 3) := by decide +kernel
theorem dX1_dueOf_11 : decode cX1_dueOf 11 = .ok (.iload_n 1, 1) := by decide +kernel
theorem dX1_dueOf_12 : decode cX1_dueOf 12 = .ok (.iaload, 1) := by decide +kernel
theorem dX1_dueOf_13 : decode cX1_dueOf 13 = .ok (.goto 4, 3) := by decide +kernel
theorem dX1_dueOf_16 : decode cX1_dueOf 16 = .ok (.iconst (-1), 1) := by decide +kernel
theorem dX1_dueOf_17 : decode cX1_dueOf 17 = .ok (.ireturn, 1) := by decide +kernel
theorem dX1_firstCore_0 : decode cX1_firstCore 0 = .ok (.aload_n 0, 1) := by decide +kernel
theorem dX1_firstCore_1 : decode cX1_firstCore 1 = .ok (.getfield 9, 3) := by decide +kernel
theorem dX1_firstCore_4 : decode cX1_firstCore 4 = .ok (.ifCond .le 12, 3) := by decide +kernel
theorem dX1_firstCore_7 : decode cX1_firstCore 7 = .ok (.aload_n 0, 1) := by decide +kernel
theorem dX1_firstCore_8 : decode cX1_firstCore 8 = .ok (.getfield 15, 3) := by decide +kernel
theorem dX1_firstCore_11 : decode cX1_firstCore 11 = .ok (.iconst 0, 1) := by decide +kernel
theorem dX1_firstCore_12 : decode cX1_firstCore 12 = .ok (.iaload, 1) := by decide +kernel
theorem dX1_firstCore_13 : decode cX1_firstCore 13 = .ok (.goto 4, 3) := by decide +kernel
theorem dX1_firstCore_16 : decode cX1_firstCore 16 = .ok (.iconst (-1), 1) := by decide +kernel
theorem dX1_firstCore_17 : decode cX1_firstCore 17 = .ok (.ireturn, 1) := by decide +kernel
theorem dX1_enter_0 : decode cX1_enter 0 = .ok (.aload_n 0, 1) := by decide +kernel
theorem dX1_enter_1 : decode cX1_enter 1 = .ok (.getfield 9, 3) := by decide +kernel
theorem dX1_enter_4 : decode cX1_enter 4 = .ok (.bipush 64, 2) := by decide +kernel
theorem dX1_enter_6 : decode cX1_enter 6 = .ok (.if_icmp .ge 11, 3) := by decide +kernel
theorem dX1_enter_9 : decode cX1_enter 9 = .ok (.aload_n 0, 1) := by decide +kernel
theorem dX1_enter_10 : decode cX1_enter 10 = .ok (.iload_n 1, 1) := by decide +kernel
theorem dX1_enter_11 : decode cX1_enter 11 = .ok (.invokevirtual 36, 3) := by decide +kernel
theorem dX1_enter_14 : decode cX1_enter 14 = .ok (.ifCond .eq 4, 3) := by decide +kernel
theorem dX1_enter_17 : decode cX1_enter 17 = .ok (.return_, 1) := by decide +kernel
theorem dX1_enter_18 : decode cX1_enter 18 = .ok (.aload_n 0, 1) := by decide +kernel
theorem dX1_enter_19 : decode cX1_enter 19 = .ok (.getfield 9, 3) := by decide +kernel
theorem dX1_enter_22 : decode cX1_enter 22 = .ok (.istore_n 3, 1) := by decide +kernel
theorem dX1_enter_23 : decode cX1_enter 23 = .ok (.iload_n 3, 1) := by decide +kernel
theorem dX1_enter_24 : decode cX1_enter 24 = .ok (.ifCond .le 39, 3) := by decide +kernel
theorem dX1_enter_27 : decode cX1_enter 27 = .ok (.aload_n 0, 1) := by decide +kernel
theorem dX1_enter_28 : decode cX1_enter 28 = .ok (.aload_n 0, 1) := by decide +kernel
theorem dX1_enter_29 : decode cX1_enter 29 = .ok (.getfield 15, 3) := by decide +kernel
theorem dX1_enter_32 : decode cX1_enter 32 = .ok (.iload_n 3, 1) := by decide +kernel
theorem dX1_enter_33 : decode cX1_enter 33 = .ok (.iconst 1, 1) := by decide +kernel
theorem dX1_enter_34 : decode cX1_enter 34 = .ok (.isub, 1) := by decide +kernel
theorem dX1_enter_35 : decode cX1_enter 35 = .ok (.iaload, 1) := by decide +kernel
theorem dX1_enter_36 : decode cX1_enter 36 = .ok (.invokevirtual 39, 3) := by decide +kernel
theorem dX1_enter_39 : decode cX1_enter 39 = .ok (.iload_n 2, 1) := by decide +kernel
theorem dX1_enter_40 : decode cX1_enter 40 = .ok (.if_icmp .le 23, 3) := by decide +kernel
theorem dX1_enter_43 : decode cX1_enter 43 = .ok (.aload_n 0, 1) := by decide +kernel
theorem dX1_enter_44 : decode cX1_enter 44 = .ok (.getfield 15, 3) := by decide +kernel
theorem dX1_enter_47 : decode cX1_enter 47 = .ok (.iload_n 3, 1) := by decide +kernel
theorem dX1_enter_48 : decode cX1_enter 48 = .ok (.aload_n 0, 1) := by decide +kernel
theorem dX1_enter_49 : decode cX1_enter 49 = .ok (.getfield 15, 3) := by decide +kernel
theorem dX1_enter_52 : decode cX1_enter 52 = .ok (.iload_n 3, 1) := by decide +kernel
theorem dX1_enter_53 : decode cX1_enter 53 = .ok (.iconst 1, 1) := by decide +kernel
theorem dX1_enter_54 : decode cX1_enter 54 = .ok (.isub, 1) := by decide +kernel
theorem dX1_enter_55 : decode cX1_enter 55 = .ok (.iaload, 1) := by decide +kernel
theorem dX1_enter_56 : decode cX1_enter 56 = .ok (.iastore, 1) := by decide +kernel
theorem dX1_enter_57 : decode cX1_enter 57 = .ok (.iinc 3 (-1), 3) := by decide +kernel
theorem dX1_enter_60 : decode cX1_enter 60 = .ok (.goto (-37), 3) := by decide +kernel
theorem dX1_enter_63 : decode cX1_enter 63 = .ok (.aload_n 0, 1) := by decide +kernel
theorem dX1_enter_64 : decode cX1_enter 64 = .ok (.getfield 15, 3) := by decide +kernel
theorem dX1_enter_67 : decode cX1_enter 67 = .ok (.iload_n 3, 1) := by decide +kernel
theorem dX1_enter_68 : decode cX1_enter 68 = .ok (.iload_n 1, 1) := by decide +kernel
theorem dX1_enter_69 : decode cX1_enter 69 = .ok (.iastore, 1) := by decide +kernel
theorem dX1_enter_70 : decode cX1_enter 70 = .ok (.aload_n 0, 1) := by decide +kernel
theorem dX1_enter_71 : decode cX1_enter 71 = .ok (.getfield 19, 3) := by decide +kernel
theorem dX1_enter_74 : decode cX1_enter 74 = .ok (.iload_n 1, 1) := by decide +kernel
theorem dX1_enter_75 : decode cX1_enter 75 = .ok (.iload_n 2, 1) := by decide +kernel
theorem dX1_enter_76 : decode cX1_enter 76 = .ok (.iastore, 1) := by decide +kernel
theorem dX1_enter_77 : decode cX1_enter 77 = .ok (.aload_n 0, 1) := by decide +kernel
theorem dX1_enter_78 : decode cX1_enter 78 = .ok (.dup, 1) := by decide +kernel
theorem dX1_enter_79 : decode cX1_enter 79 = .ok (.getfield 9, 3) := by decide +kernel
theorem dX1_enter_82 : decode cX1_enter 82 = .ok (.iconst 1, 1) := by decide +kernel
theorem dX1_enter_83 : decode cX1_enter 83 = .ok (.iadd, 1) := by decide +kernel
theorem dX1_enter_84 : decode cX1_enter 84 = .ok (.putfield 9, 3) := by decide +kernel
theorem dX1_enter_87 : decode cX1_enter 87 = .ok (.return_, 1) := by decide +kernel
theorem dX1_strike_0 : decode cX1_strike 0 = .ok (.aload_n 0, 1) := by decide +kernel
theorem dX1_strike_1 : decode cX1_strike 1 = .ok (.iload_n 1, 1) := by decide +kernel
theorem dX1_strike_2 : decode cX1_strike 2 = .ok (.invokevirtual 36, 3) := by decide +kernel
theorem dX1_strike_5 : decode cX1_strike 5 = .ok (.ifCond .ne 4, 3) := by decide +kernel
theorem dX1_strike_8 : decode cX1_strike 8 = .ok (.return_, 1) := by decide +kernel
theorem dX1_strike_9 : decode cX1_strike 9 = .ok (.iconst 0, 1) := by decide +kernel
theorem dX1_strike_10 : decode cX1_strike 10 = .ok (.istore_n 2, 1) := by decide +kernel
theorem dX1_strike_11 : decode cX1_strike 11 = .ok (.iconst 0, 1) := by decide +kernel
theorem dX1_strike_12 : decode cX1_strike 12 = .ok (.istore_n 3, 1) := by decide +kernel
theorem dX1_strike_13 : decode cX1_strike 13 = .ok (.iload_n 3, 1) := by decide +kernel
theorem dX1_strike_14 : decode cX1_strike 14 = .ok (.aload_n 0, 1) := by decide +kernel
theorem dX1_strike_15 : decode cX1_strike 15 = .ok (.getfield 9, 3) := by decide +kernel
theorem dX1_strike_18 : decode cX1_strike 18 = .ok (.if_icmp .ge 34, 3) := by decide +kernel
theorem dX1_strike_21 : decode cX1_strike 21 = .ok (.aload_n 0, 1) := by decide +kernel
theorem dX1_strike_22 : decode cX1_strike 22 = .ok (.getfield 15, 3) := by decide +kernel
theorem dX1_strike_25 : decode cX1_strike 25 = .ok (.iload_n 3, 1) := by decide +kernel
theorem dX1_strike_26 : decode cX1_strike 26 = .ok (.iaload, 1) := by decide +kernel
theorem dX1_strike_27 : decode cX1_strike 27 = .ok (.iload_n 1, 1) := by decide +kernel
theorem dX1_strike_28 : decode cX1_strike 28 = .ok (.if_icmp .eq 18, 3) := by decide +kernel
theorem dX1_strike_31 : decode cX1_strike 31 = .ok (.aload_n 0, 1) := by decide +kernel
theorem dX1_strike_32 : decode cX1_strike 32 = .ok (.getfield 15, 3) := by decide +kernel
theorem dX1_strike_35 : decode cX1_strike 35 = .ok (.iload_n 2, 1) := by decide +kernel
theorem dX1_strike_36 : decode cX1_strike 36 = .ok (.aload_n 0, 1) := by decide +kernel
theorem dX1_strike_37 : decode cX1_strike 37 = .ok (.getfield 15, 3) := by decide +kernel
theorem dX1_strike_40 : decode cX1_strike 40 = .ok (.iload_n 3, 1) := by decide +kernel
theorem dX1_strike_41 : decode cX1_strike 41 = .ok (.iaload, 1) := by decide +kernel
theorem dX1_strike_42 : decode cX1_strike 42 = .ok (.iastore, 1) := by decide +kernel
theorem dX1_strike_43 : decode cX1_strike 43 = .ok (.iinc 2 1, 3) := by decide +kernel
theorem dX1_strike_46 : decode cX1_strike 46 = .ok (.iinc 3 1, 3) := by decide +kernel
theorem dX1_strike_49 : decode cX1_strike 49 = .ok (.goto (-36), 3) := by decide +kernel
theorem dX1_strike_52 : decode cX1_strike 52 = .ok (.aload_n 0, 1) := by decide +kernel
theorem dX1_strike_53 : decode cX1_strike 53 = .ok (.getfield 19, 3) := by decide +kernel
theorem dX1_strike_56 : decode cX1_strike 56 = .ok (.iload_n 1, 1) := by decide +kernel
theorem dX1_strike_57 : decode cX1_strike 57 = .ok (.iconst (-1), 1) := by decide +kernel
theorem dX1_strike_58 : decode cX1_strike 58 = .ok (.iastore, 1) := by decide +kernel
theorem dX1_strike_59 : decode cX1_strike 59 = .ok (.aload_n 0, 1) := by decide +kernel
theorem dX1_strike_60 : decode cX1_strike 60 = .ok (.iload_n 2, 1) := by decide +kernel
theorem dX1_strike_61 : decode cX1_strike 61 = .ok (.putfield 9, 3) := by decide +kernel
theorem dX1_strike_64 : decode cX1_strike 64 = .ok (.return_, 1) := by decide +kernel
theorem dX2_init_0 : decode cX2_init 0 = .ok (.aload_n 0, 1) := by decide +kernel
theorem dX2_init_1 : decode cX2_init 1 = .ok (.invokespecial 3, 3) := by decide +kernel
theorem dX2_init_4 : decode cX2_init 4 = .ok (.aload_n 0, 1) := by decide +kernel
theorem dX2_init_5 : decode cX2_init 5 = .ok (.iconst 0, 1) := by decide +kernel
theorem dX2_init_6 : decode cX2_init 6 = .ok (.putfield 9, 3) := by decide +kernel
theorem dX2_init_9 : decode cX2_init 9 = .ok (.aload_n 0, 1) := by decide +kernel
theorem dX2_init_10 : decode cX2_init 10 = .ok (.iconst 3, 1) := by decide +kernel
theorem dX2_init_11 : decode cX2_init 11 = .ok (.newarray .int, 2) := by decide +kernel
theorem dX2_init_13 : decode cX2_init 13 = .ok (.putfield 15, 3) := by decide +kernel
theorem dX2_init_16 : decode cX2_init 16 = .ok (.aload_n 0, 1) := by decide +kernel
theorem dX2_init_17 : decode cX2_init 17 = .ok (.iconst 3, 1) := by decide +kernel
theorem dX2_init_18 : decode cX2_init 18 = .ok (.newarray .int, 2) := by decide +kernel
theorem dX2_init_20 : decode cX2_init 20 = .ok (.putfield 19, 3) := by decide +kernel
theorem dX2_init_23 : decode cX2_init 23 = .ok (.aload_n 0, 1) := by decide +kernel
theorem dX2_init_24 : decode cX2_init 24 = .ok (.iconst 3, 1) := by decide +kernel
theorem dX2_init_25 : decode cX2_init 25 = .ok (.newarray .int, 2) := by decide +kernel
theorem dX2_init_27 : decode cX2_init 27 = .ok (.putfield 22, 3) := by decide +kernel
theorem dX2_init_30 : decode cX2_init 30 = .ok (.aload_n 0, 1) := by decide +kernel
theorem dX2_init_31 : decode cX2_init 31 = .ok (.iconst 3, 1) := by decide +kernel
theorem dX2_init_32 : decode cX2_init 32 = .ok (.newarray .int, 2) := by decide +kernel
theorem dX2_init_34 : decode cX2_init 34 = .ok (.putfield 25, 3) := by decide +kernel
theorem dX2_init_37 : decode cX2_init 37 = .ok (.aload_n 0, 1) := by decide +kernel
theorem dX2_init_38 : decode cX2_init 38 = .ok (.iconst 3, 1) := by decide +kernel
theorem dX2_init_39 : decode cX2_init 39 = .ok (.newarray .int, 2) := by decide +kernel
theorem dX2_init_41 : decode cX2_init 41 = .ok (.putfield 28, 3) := by decide +kernel
theorem dX2_init_44 : decode cX2_init 44 = .ok (.return_, 1) := by decide +kernel
theorem dX2_become_0 : decode cX2_become 0 = .ok (.aload_n 0, 1) := by decide +kernel
theorem dX2_become_1 : decode cX2_become 1 = .ok (.aload_n 1, 1) := by decide +kernel
theorem dX2_become_2 : decode cX2_become 2 = .ok (.getfield 9, 3) := by decide +kernel
theorem dX2_become_5 : decode cX2_become 5 = .ok (.putfield 9, 3) := by decide +kernel
theorem dX2_become_8 : decode cX2_become 8 = .ok (.aload_n 1, 1) := by decide +kernel
theorem dX2_become_9 : decode cX2_become 9 = .ok (.getfield 15, 3) := by decide +kernel
theorem dX2_become_12 : decode cX2_become 12 = .ok (.aload_n 0, 1) := by decide +kernel
theorem dX2_become_13 : decode cX2_become 13 = .ok (.getfield 15, 3) := by decide +kernel
theorem dX2_become_16 : decode cX2_become 16 = .ok (.invokestatic 31, 3) := by decide +kernel
theorem dX2_become_19 : decode cX2_become 19 = .ok (.aload_n 1, 1) := by decide +kernel
theorem dX2_become_20 : decode cX2_become 20 = .ok (.getfield 19, 3) := by decide +kernel
theorem dX2_become_23 : decode cX2_become 23 = .ok (.aload_n 0, 1) := by decide +kernel
theorem dX2_become_24 : decode cX2_become 24 = .ok (.getfield 19, 3) := by decide +kernel
theorem dX2_become_27 : decode cX2_become 27 = .ok (.invokestatic 31, 3) := by decide +kernel
theorem dX2_become_30 : decode cX2_become 30 = .ok (.aload_n 1, 1) := by decide +kernel
theorem dX2_become_31 : decode cX2_become 31 = .ok (.getfield 22, 3) := by decide +kernel
theorem dX2_become_34 : decode cX2_become 34 = .ok (.aload_n 0, 1) := by decide +kernel
theorem dX2_become_35 : decode cX2_become 35 = .ok (.getfield 22, 3) := by decide +kernel
theorem dX2_become_38 : decode cX2_become 38 = .ok (.invokestatic 31, 3) := by decide +kernel
theorem dX2_become_41 : decode cX2_become 41 = .ok (.aload_n 1, 1) := by decide +kernel
theorem dX2_become_42 : decode cX2_become 42 = .ok (.getfield 25, 3) := by decide +kernel
theorem dX2_become_45 : decode cX2_become 45 = .ok (.aload_n 0, 1) := by decide +kernel
theorem dX2_become_46 : decode cX2_become 46 = .ok (.getfield 25, 3) := by decide +kernel
theorem dX2_become_49 : decode cX2_become 49 = .ok (.invokestatic 31, 3) := by decide +kernel
theorem dX2_become_52 : decode cX2_become 52 = .ok (.aload_n 1, 1) := by decide +kernel
theorem dX2_become_53 : decode cX2_become 53 = .ok (.getfield 28, 3) := by decide +kernel
theorem dX2_become_56 : decode cX2_become 56 = .ok (.aload_n 0, 1) := by decide +kernel
theorem dX2_become_57 : decode cX2_become 57 = .ok (.getfield 28, 3) := by decide +kernel
theorem dX2_become_60 : decode cX2_become 60 = .ok (.invokestatic 31, 3) := by decide +kernel
theorem dX2_become_63 : decode cX2_become 63 = .ok (.return_, 1) := by decide +kernel
theorem dX2_has_0 : decode cX2_has 0 = .ok (.iconst 0, 1) := by decide +kernel
theorem dX2_has_1 : decode cX2_has 1 = .ok (.iload_n 1, 1) := by decide +kernel
theorem dX2_has_2 : decode cX2_has 2 = .ok (.if_icmp .gt 15, 3) := by decide +kernel
theorem dX2_has_5 : decode cX2_has 5 = .ok (.iload_n 1, 1) := by decide +kernel
theorem dX2_has_6 : decode cX2_has 6 = .ok (.aload_n 0, 1) := by decide +kernel
theorem dX2_has_7 : decode cX2_has 7 = .ok (.getfield 9, 3) := by decide +kernel
theorem dX2_has_10 : decode cX2_has 10 = .ok (.if_icmp .ge 7, 3) := by decide +kernel
theorem dX2_has_13 : decode cX2_has 13 = .ok (.iconst 1, 1) := by decide +kernel
theorem dX2_has_14 : decode cX2_has 14 = .ok (.goto 4, 3) := by decide +kernel
theorem dX2_has_17 : decode cX2_has 17 = .ok (.iconst 0, 1) := by decide +kernel
theorem dX2_has_18 : decode cX2_has 18 = .ok (.ireturn, 1) := by decide +kernel
theorem dX2_enter_0 : decode cX2_enter 0 = .ok (.aload_n 0, 1) := by decide +kernel
theorem dX2_enter_1 : decode cX2_enter 1 = .ok (.getfield 9, 3) := by decide +kernel
theorem dX2_enter_4 : decode cX2_enter 4 = .ok (.iconst 3, 1) := by decide +kernel
theorem dX2_enter_5 : decode cX2_enter 5 = .ok (.if_icmp .lt 5, 3) := by decide +kernel
theorem dX2_enter_8 : decode cX2_enter 8 = .ok (.iconst (-1), 1) := by decide +kernel
theorem dX2_enter_9 : decode cX2_enter 9 = .ok (.ireturn, 1) := by decide +kernel
theorem dX2_enter_10 : decode cX2_enter 10 = .ok (.aload_n 0, 1) := by decide +kernel
theorem dX2_enter_11 : decode cX2_enter 11 = .ok (.getfield 15, 3) := by decide +kernel
theorem dX2_enter_14 : decode cX2_enter 14 = .ok (.aload_n 0, 1) := by decide +kernel
theorem dX2_enter_15 : decode cX2_enter 15 = .ok (.getfield 9, 3) := by decide +kernel
theorem dX2_enter_18 : decode cX2_enter 18 = .ok (.iload_n 1, 1) := by decide +kernel
theorem dX2_enter_19 : decode cX2_enter 19 = .ok (.iastore, 1) := by decide +kernel
theorem dX2_enter_20 : decode cX2_enter 20 = .ok (.aload_n 0, 1) := by decide +kernel
theorem dX2_enter_21 : decode cX2_enter 21 = .ok (.getfield 19, 3) := by decide +kernel
theorem dX2_enter_24 : decode cX2_enter 24 = .ok (.aload_n 0, 1) := by decide +kernel
theorem dX2_enter_25 : decode cX2_enter 25 = .ok (.getfield 9, 3) := by decide +kernel
theorem dX2_enter_28 : decode cX2_enter 28 = .ok (.iload_n 2, 1) := by decide +kernel
theorem dX2_enter_29 : decode cX2_enter 29 = .ok (.iastore, 1) := by decide +kernel
theorem dX2_enter_30 : decode cX2_enter 30 = .ok (.aload_n 0, 1) := by decide +kernel
theorem dX2_enter_31 : decode cX2_enter 31 = .ok (.getfield 22, 3) := by decide +kernel
theorem dX2_enter_34 : decode cX2_enter 34 = .ok (.aload_n 0, 1) := by decide +kernel
theorem dX2_enter_35 : decode cX2_enter 35 = .ok (.getfield 9, 3) := by decide +kernel
theorem dX2_enter_38 : decode cX2_enter 38 = .ok (.iload_n 3, 1) := by decide +kernel
theorem dX2_enter_39 : decode cX2_enter 39 = .ok (.iastore, 1) := by decide +kernel
theorem dX2_enter_40 : decode cX2_enter 40 = .ok (.aload_n 0, 1) := by decide +kernel
theorem dX2_enter_41 : decode cX2_enter 41 = .ok (.dup, 1) := by decide +kernel
theorem dX2_enter_42 : decode cX2_enter 42 = .ok (.getfield 9, 3) := by decide +kernel
theorem dX2_enter_45 : decode cX2_enter 45 = .ok (.iconst 1, 1) := by decide +kernel
theorem dX2_enter_46 : decode cX2_enter 46 = .ok (.iadd, 1) := by decide +kernel
theorem dX2_enter_47 : decode cX2_enter 47 = .ok (.putfield 9, 3) := by decide +kernel
theorem dX2_enter_50 : decode cX2_enter 50 = .ok (.aload_n 0, 1) := by decide +kernel
theorem dX2_enter_51 : decode cX2_enter 51 = .ok (.getfield 9, 3) := by decide +kernel
theorem dX2_enter_54 : decode cX2_enter 54 = .ok (.iconst 1, 1) := by decide +kernel
theorem dX2_enter_55 : decode cX2_enter 55 = .ok (.isub, 1) := by decide +kernel
theorem dX2_enter_56 : decode cX2_enter 56 = .ok (.ireturn, 1) := by decide +kernel
theorem dX3_init_0 : decode cX3_init 0 = .ok (.aload_n 0, 1) := by decide +kernel
theorem dX3_init_1 : decode cX3_init 1 = .ok (.invokespecial 3, 3) := by decide +kernel
theorem dX3_init_4 : decode cX3_init 4 = .ok (.aload_n 0, 1) := by decide +kernel
theorem dX3_init_5 : decode cX3_init 5 = .ok (.iconst 0, 1) := by decide +kernel
theorem dX3_init_6 : decode cX3_init 6 = .ok (.putfield 9, 3) := by decide +kernel
theorem dX3_init_9 : decode cX3_init 9 = .ok (.aload_n 0, 1) := by decide +kernel
theorem dX3_init_10 : decode cX3_init 10 = .ok (.iconst 0, 1) := by decide +kernel
theorem dX3_init_11 : decode cX3_init 11 = .ok (.putfield 15, 3) := by decide +kernel
theorem dX3_init_14 : decode cX3_init 14 = .ok (.aload_n 0, 1) := by decide +kernel
theorem dX3_init_15 : decode cX3_init 15 = .ok (.iconst 0, 1) := by decide +kernel
theorem dX3_init_16 : decode cX3_init 16 = .ok (.putfield 18, 3) := by decide +kernel
theorem dX3_init_19 : decode cX3_init 19 = .ok (.aload_n 0, 1) := by decide +kernel
theorem dX3_init_20 : decode cX3_init 20 = .ok (.bipush 8, 2) := by decide +kernel
theorem dX3_init_22 : decode cX3_init 22 = .ok (.newarray .int, 2) := by decide +kernel
theorem dX3_init_24 : decode cX3_init 24 = .ok (.putfield 21, 3) := by decide +kernel
theorem dX3_init_27 : decode cX3_init 27 = .ok (.aload_n 0, 1) := by decide +kernel
theorem dX3_init_28 : decode cX3_init 28 = .ok (.bipush 19, 2) := by decide +kernel
theorem dX3_init_30 : decode cX3_init 30 = .ok (.newarray .int, 2) := by decide +kernel
theorem dX3_init_32 : decode cX3_init 32 = .ok (.putfield 25, 3) := by decide +kernel
theorem dX3_init_35 : decode cX3_init 35 = .ok (.aload_n 0, 1) := by decide +kernel
theorem dX3_init_36 : decode cX3_init 36 = .ok (.new 28, 3) := by decide +kernel
theorem dX3_init_39 : decode cX3_init 39 = .ok (.dup, 1) := by decide +kernel
theorem dX3_init_40 : decode cX3_init 40 = .ok (.invokespecial 30, 3) := by decide +kernel
theorem dX3_init_43 : decode cX3_init 43 = .ok (.putfield 31, 3) := by decide +kernel
theorem dX3_init_46 : decode cX3_init 46 = .ok (.aload_n 0, 1) := by decide +kernel
theorem dX3_init_47 : decode cX3_init 47 = .ok (.new 35, 3) := by decide +kernel
theorem dX3_init_50 : decode cX3_init 50 = .ok (.dup, 1) := by decide +kernel
theorem dX3_init_51 : decode cX3_init 51 = .ok (.invokespecial 37, 3) := by decide +kernel
theorem dX3_init_54 : decode cX3_init 54 = .ok (.putfield 38, 3) := by decide +kernel
theorem dX3_init_57 : decode cX3_init 57 = .ok (.aload_n 0, 1) := by decide +kernel
theorem dX3_init_58 : decode cX3_init 58 = .ok (.new 42, 3) := by decide +kernel
theorem dX3_init_61 : decode cX3_init 61 = .ok (.dup, 1) := by decide +kernel
theorem dX3_init_62 : decode cX3_init 62 = .ok (.invokespecial 44, 3) := by decide +kernel
theorem dX3_init_65 : decode cX3_init 65 = .ok (.putfield 45, 3) := by decide +kernel
theorem dX3_init_68 : decode cX3_init 68 = .ok (.aload_n 0, 1) := by decide +kernel
theorem dX3_init_69 : decode cX3_init 69 = .ok (.new 49, 3) := by decide +kernel
theorem dX3_init_72 : decode cX3_init 72 = .ok (.dup, 1) := by decide +kernel
theorem dX3_init_73 : decode cX3_init 73 = .ok (.invokespecial 51, 3) := by decide +kernel
theorem dX3_init_76 : decode cX3_init 76 = .ok (.putfield 52, 3) := by decide +kernel
theorem dX3_init_79 : decode cX3_init 79 = .ok (.aload_n 0, 1) := by decide +kernel
theorem dX3_init_80 : decode cX3_init 80 = .ok (.sipush 512, 3) := by decide +kernel
theorem dX3_init_83 : decode cX3_init 83 = .ok (.newarray .int, 2) := by decide +kernel
theorem dX3_init_85 : decode cX3_init 85 = .ok (.putfield 56, 3) := by decide +kernel
theorem dX3_init_88 : decode cX3_init 88 = .ok (.aload_n 0, 1) := by decide +kernel
theorem dX3_init_89 : decode cX3_init 89 = .ok (.iconst 0, 1) := by decide +kernel
theorem dX3_init_90 : decode cX3_init 90 = .ok (.putfield 59, 3) := by decide +kernel
theorem dX3_init_93 : decode cX3_init 93 = .ok (.getstatic 62, 3) := by decide +kernel
theorem dX3_init_96 : decode cX3_init 96 = .ok (.aload_n 0, 1) := by decide +kernel
theorem dX3_init_97 : decode cX3_init 97 = .ok (.getfield 21, 3) := by decide +kernel
theorem dX3_init_100 : decode cX3_init 100 = .ok (.invokestatic 65, 3) := by decide +kernel
theorem dX3_init_103 : decode cX3_init 103 = .ok (.return_, 1) := by decide +kernel
theorem dX3_become_0 : decode cX3_become 0 = .ok (.aload_n 0, 1) := by decide +kernel
theorem dX3_become_1 : decode cX3_become 1 = .ok (.aload_n 1, 1) := by decide +kernel
theorem dX3_become_2 : decode cX3_become 2 = .ok (.getfield 9, 3) := by decide +kernel
theorem dX3_become_5 : decode cX3_become 5 = .ok (.putfield 9, 3) := by decide +kernel
theorem dX3_become_8 : decode cX3_become 8 = .ok (.aload_n 0, 1) := by decide +kernel
theorem dX3_become_9 : decode cX3_become 9 = .ok (.aload_n 1, 1) := by decide +kernel
theorem dX3_become_10 : decode cX3_become 10 = .ok (.getfield 15, 3) := by decide +kernel
theorem dX3_become_13 : decode cX3_become 13 = .ok (.putfield 15, 3) := by decide +kernel
theorem dX3_become_16 : decode cX3_become 16 = .ok (.aload_n 0, 1) := by decide +kernel
theorem dX3_become_17 : decode cX3_become 17 = .ok (.aload_n 1, 1) := by decide +kernel
theorem dX3_become_18 : decode cX3_become 18 = .ok (.getfield 18, 3) := by decide +kernel
theorem dX3_become_21 : decode cX3_become 21 = .ok (.putfield 18, 3) := by decide +kernel
theorem dX3_become_24 : decode cX3_become 24 = .ok (.aload_n 1, 1) := by decide +kernel
theorem dX3_become_25 : decode cX3_become 25 = .ok (.getfield 21, 3) := by decide +kernel
theorem dX3_become_28 : decode cX3_become 28 = .ok (.aload_n 0, 1) := by decide +kernel
theorem dX3_become_29 : decode cX3_become 29 = .ok (.getfield 21, 3) := by decide +kernel
theorem dX3_become_32 : decode cX3_become 32 = .ok (.invokestatic 65, 3) := by decide +kernel
theorem dX3_become_35 : decode cX3_become 35 = .ok (.aload_n 1, 1) := by decide +kernel
theorem dX3_become_36 : decode cX3_become 36 = .ok (.getfield 25, 3) := by decide +kernel
theorem dX3_become_39 : decode cX3_become 39 = .ok (.aload_n 0, 1) := by decide +kernel
theorem dX3_become_40 : decode cX3_become 40 = .ok (.getfield 25, 3) := by decide +kernel
theorem dX3_become_43 : decode cX3_become 43 = .ok (.invokestatic 65, 3) := by decide +kernel
theorem dX3_become_46 : decode cX3_become 46 = .ok (.aload_n 0, 1) := by decide +kernel
theorem dX3_become_47 : decode cX3_become 47 = .ok (.getfield 31, 3) := by decide +kernel
theorem dX3_become_50 : decode cX3_become 50 = .ok (.aload_n 1, 1) := by decide +kernel
theorem dX3_become_51 : decode cX3_become 51 = .ok (.getfield 31, 3) := by decide +kernel
theorem dX3_become_54 : decode cX3_become 54 = .ok (.invokevirtual 69, 3) := by decide +kernel
theorem dX3_become_57 : decode cX3_become 57 = .ok (.aload_n 0, 1) := by decide +kernel
theorem dX3_become_58 : decode cX3_become 58 = .ok (.getfield 38, 3) := by decide +kernel
theorem dX3_become_61 : decode cX3_become 61 = .ok (.aload_n 1, 1) := by decide +kernel
theorem dX3_become_62 : decode cX3_become 62 = .ok (.getfield 38, 3) := by decide +kernel
theorem dX3_become_65 : decode cX3_become 65 = .ok (.invokevirtual 73, 3) := by decide +kernel
theorem dX3_become_68 : decode cX3_become 68 = .ok (.aload_n 0, 1) := by decide +kernel
theorem dX3_become_69 : decode cX3_become 69 = .ok (.getfield 45, 3) := by decide +kernel
theorem dX3_become_72 : decode cX3_become 72 = .ok (.aload_n 1, 1) := by decide +kernel
theorem dX3_become_73 : decode cX3_become 73 = .ok (.getfield 45, 3) := by decide +kernel
theorem dX3_become_76 : decode cX3_become 76 = .ok (.invokevirtual 76, 3) := by decide +kernel
theorem dX3_become_79 : decode cX3_become 79 = .ok (.aload_n 0, 1) := by decide +kernel
theorem dX3_become_80 : decode cX3_become 80 = .ok (.getfield 52, 3) := by decide +kernel
theorem dX3_become_83 : decode cX3_become 83 = .ok (.aload_n 1, 1) := by decide +kernel
theorem dX3_become_84 : decode cX3_become 84 = .ok (.getfield 52, 3) := by decide +kernel
theorem dX3_become_87 : decode cX3_become 87 = .ok (.invokevirtual 79, 3) := by decide +kernel
theorem dX3_become_90 : decode cX3_become 90 = .ok (.aload_n 0, 1) := by decide +kernel
theorem dX3_become_91 : decode cX3_become 91 = .ok (.aload_n 1, 1) := by decide +kernel
theorem dX3_become_92 : decode cX3_become 92 = .ok (.getfield 59, 3) := by decide +kernel
theorem dX3_become_95 : decode cX3_become 95 = .ok (.putfield 59, 3) := by decide +kernel
theorem dX3_become_98 : decode cX3_become 98 = .ok (.iconst 0, 1) := by decide +kernel
theorem dX3_become_99 : decode cX3_become 99 = .ok (.istore_n 2, 1) := by decide +kernel
theorem dX3_become_100 : decode cX3_become 100 = .ok (.iload_n 2, 1) := by decide +kernel
theorem dX3_become_101 : decode cX3_become 101 = .ok (.aload_n 0, 1) := by decide +kernel
theorem dX3_become_102 : decode cX3_become 102 = .ok (.getfield 59, 3) := by decide +kernel
theorem dX3_become_105 : decode cX3_become 105 = .ok (.if_icmp .ge 21, 3) := by decide +kernel
theorem dX3_become_108 : decode cX3_become 108 = .ok (.aload_n 0, 1) := by decide +kernel
theorem dX3_become_109 : decode cX3_become 109 = .ok (.getfield 56, 3) := by decide +kernel
theorem dX3_become_112 : decode cX3_become 112 = .ok (.iload_n 2, 1) := by decide +kernel
theorem dX3_become_113 : decode cX3_become 113 = .ok (.aload_n 1, 1) := by decide +kernel
theorem dX3_become_114 : decode cX3_become 114 = .ok (.getfield 56, 3) := by decide +kernel
theorem dX3_become_117 : decode cX3_become 117 = .ok (.iload_n 2, 1) := by decide +kernel
theorem dX3_become_118 : decode cX3_become 118 = .ok (.iaload, 1) := by decide +kernel
theorem dX3_become_119 : decode cX3_become 119 = .ok (.iastore, 1) := by decide +kernel
theorem dX3_become_120 : decode cX3_become 120 = .ok (.iinc 2 1, 3) := by decide +kernel
theorem dX3_become_123 : decode cX3_become 123 = .ok (.goto (-23), 3) := by decide +kernel
theorem dX3_become_126 : decode cX3_become 126 = .ok (.return_, 1) := by decide +kernel
theorem dX3_rentFor_0 : decode cX3_rentFor 0 = .ok (.aload_n 0, 1) := by decide +kernel
theorem dX3_rentFor_1 : decode cX3_rentFor 1 = .ok (.getfield 21, 3) := by decide +kernel
theorem dX3_rentFor_4 : decode cX3_rentFor 4 = .ok (.iconst 0, 1) := by decide +kernel
theorem dX3_rentFor_5 : decode cX3_rentFor 5 = .ok (.iaload, 1) := by decide +kernel
theorem dX3_rentFor_6 : decode cX3_rentFor 6 = .ok (.iload_n 1, 1) := by decide +kernel
theorem dX3_rentFor_7 : decode cX3_rentFor 7 = .ok (.imul, 1) := by decide +kernel
theorem dX3_rentFor_8 : decode cX3_rentFor 8 = .ok (.ireturn, 1) := by decide +kernel
theorem dX3_leaseLeft_0 : decode cX3_leaseLeft 0 = .ok (.aload_n 0, 1) := by decide +kernel
theorem dX3_leaseLeft_1 : decode cX3_leaseLeft 1 = .ok (.getfield 31, 3) := by decide +kernel
theorem dX3_leaseLeft_4 : decode cX3_leaseLeft 4 = .ok (.iload_n 1, 1) := by decide +kernel
theorem dX3_leaseLeft_5 : decode cX3_leaseLeft 5 = .ok (.invokevirtual 82, 3) := by decide +kernel
theorem dX3_leaseLeft_8 : decode cX3_leaseLeft 8 = .ok (.ifCond .eq 20, 3) := by decide +kernel
theorem dX3_leaseLeft_11 : decode cX3_leaseLeft 11 = .ok (.aload_n 0, 1) := by decide +kernel
theorem dX3_leaseLeft_12 : decode cX3_leaseLeft 12 = .ok (.getfield 31, 3) := by decide +kernel
theorem dX3_leaseLeft_15 : decode cX3_leaseLeft 15 = .ok (.getfield 86, 3) := by decide +kernel
theorem dX3_leaseLeft_18 : decode cX3_leaseLeft 18 = .ok (.iload_n 1, 1) := by decide +kernel
theorem dX3_leaseLeft_19 : decode cX3_leaseLeft 19 = .ok (.iaload, 1) := by decide +kernel
theorem dX3_leaseLeft_20 : decode cX3_leaseLeft 20 = .ok (.aload_n 0, 1) := by decide +kernel
theorem dX3_leaseLeft_21 : decode cX3_leaseLeft 21 = .ok (.getfield 9, 3) := by decide +kernel
theorem dX3_leaseLeft_24 : decode cX3_leaseLeft 24 = .ok (.isub, 1) := by decide +kernel
theorem dX3_leaseLeft_25 : decode cX3_leaseLeft 25 = .ok (.goto 4, 3) := by decide +kernel
theorem dX3_leaseLeft_28 : decode cX3_leaseLeft 28 = .ok (.iconst 0, 1) := by decide +kernel
theorem dX3_leaseLeft_29 : decode cX3_leaseLeft 29 = .ok (.ireturn, 1) := by decide +kernel
theorem dX3_policyLeft_0 : decode cX3_policyLeft 0 = .ok (.aload_n 0, 1) := by decide +kernel
theorem dX3_policyLeft_1 : decode cX3_policyLeft 1 = .ok (.getfield 31, 3) := by decide +kernel
theorem dX3_policyLeft_4 : decode cX3_policyLeft 4 = .ok (.iload_n 1, 1) := by decide +kernel
theorem dX3_policyLeft_5 : decode cX3_policyLeft 5 = .ok (.invokevirtual 89, 3) := by decide +kernel
theorem dX3_policyLeft_8 : decode cX3_policyLeft 8 = .ok (.ifCond .eq 20, 3) := by decide +kernel
theorem dX3_policyLeft_11 : decode cX3_policyLeft 11 = .ok (.aload_n 0, 1) := by decide +kernel
theorem dX3_policyLeft_12 : decode cX3_policyLeft 12 = .ok (.getfield 31, 3) := by decide +kernel
theorem dX3_policyLeft_15 : decode cX3_policyLeft 15 = .ok (.getfield 92, 3) := by decide +kernel
theorem dX3_policyLeft_18 : decode cX3_policyLeft 18 = .ok (.iload_n 1, 1) := by decide +kernel
theorem dX3_policyLeft_19 : decode cX3_policyLeft 19 = .ok (.iaload, 1) := by decide +kernel
theorem dX3_policyLeft_20 : decode cX3_policyLeft 20 = .ok (.aload_n 0, 1) := by decide +kernel
theorem dX3_policyLeft_21 : decode cX3_policyLeft 21 = .ok (.getfield 9, 3) := by decide +kernel
theorem dX3_policyLeft_24 : decode cX3_policyLeft 24 = .ok (.isub, 1) := by decide +kernel
theorem dX3_policyLeft_25 : decode cX3_policyLeft 25 = .ok (.goto 4, 3) := by decide +kernel
theorem dX3_policyLeft_28 : decode cX3_policyLeft 28 = .ok (.iconst 0, 1) := by decide +kernel
theorem dX3_policyLeft_29 : decode cX3_policyLeft 29 = .ok (.ireturn, 1) := by decide +kernel
theorem dX3_leaseOut_0 : decode cX3_leaseOut 0 = .ok (.aload_n 0, 1) := by decide +kernel
theorem dX3_leaseOut_1 : decode cX3_leaseOut 1 = .ok (.iload_n 3, 1) := by decide +kernel
theorem dX3_leaseOut_2 : decode cX3_leaseOut 2 = .ok (.invokevirtual 95, 3) := by decide +kernel
theorem dX3_leaseOut_5 : decode cX3_leaseOut 5 = .ok (.istore 4, 2) := by decide +kernel
theorem dX3_leaseOut_7 : decode cX3_leaseOut 7 = .ok (.aload_n 0, 1) := by decide +kernel
theorem dX3_leaseOut_8 : decode cX3_leaseOut 8 = .ok (.getfield 45, 3) := by decide +kernel
theorem dX3_leaseOut_11 : decode cX3_leaseOut 11 = .ok (.getfield 99, 3) := by decide +kernel
theorem dX3_leaseOut_14 : decode cX3_leaseOut 14 = .ok (.iload_n 2, 1) := by decide +kernel
theorem dX3_leaseOut_15 : decode cX3_leaseOut 15 = .ok (.dup2, 1) := by decide +kernel
theorem dX3_leaseOut_16 : decode cX3_leaseOut 16 = .ok (.iaload, 1) := by decide +kernel
theorem dX3_leaseOut_17 : decode cX3_leaseOut 17 = .ok (.iload 4, 2) := by decide +kernel
theorem dX3_leaseOut_19 : decode cX3_leaseOut 19 = .ok (.isub, 1) := by decide +kernel
theorem dX3_leaseOut_20 : decode cX3_leaseOut 20 = .ok (.iastore, 1) := by decide +kernel
theorem dX3_leaseOut_21 : decode cX3_leaseOut 21 = .ok (.aload_n 0, 1) := by decide +kernel
theorem dX3_leaseOut_22 : decode cX3_leaseOut 22 = .ok (.dup, 1) := by decide +kernel
theorem dX3_leaseOut_23 : decode cX3_leaseOut 23 = .ok (.getfield 18, 3) := by decide +kernel
theorem dX3_leaseOut_26 : decode cX3_leaseOut 26 = .ok (.iload 4, 2) := by decide +kernel
theorem dX3_leaseOut_28 : decode cX3_leaseOut 28 = .ok (.iadd, 1) := by decide +kernel
theorem dX3_leaseOut_29 : decode cX3_leaseOut 29 = .ok (.putfield 18, 3) := by decide +kernel
theorem dX3_leaseOut_32 : decode cX3_leaseOut 32 = .ok (.aload_n 0, 1) := by decide +kernel
theorem dX3_leaseOut_33 : decode cX3_leaseOut 33 = .ok (.getfield 31, 3) := by decide +kernel
theorem dX3_leaseOut_36 : decode cX3_leaseOut 36 = .ok (.getfield 102, 3) := by decide +kernel
theorem dX3_leaseOut_39 : decode cX3_leaseOut 39 = .ok (.iload_n 1, 1) := by decide +kernel
theorem dX3_leaseOut_40 : decode cX3_leaseOut 40 = .ok (.iload_n 2, 1) := by decide +kernel
theorem dX3_leaseOut_41 : decode cX3_leaseOut 41 = .ok (.iastore, 1) := by decide +kernel
theorem dX3_leaseOut_42 : decode cX3_leaseOut 42 = .ok (.aload_n 0, 1) := by decide +kernel
theorem dX3_leaseOut_43 : decode cX3_leaseOut 43 = .ok (.getfield 31, 3) := by decide +kernel
theorem dX3_leaseOut_46 : decode cX3_leaseOut 46 = .ok (.getfield 86, 3) := by decide +kernel
theorem dX3_leaseOut_49 : decode cX3_leaseOut 49 = .ok (.iload_n 1, 1) := by decide +kernel
theorem dX3_leaseOut_50 : decode cX3_leaseOut 50 = .ok (.aload_n 0, 1) := by decide +kernel
theorem dX3_leaseOut_51 : decode cX3_leaseOut 51 = .ok (.getfield 9, 3) := by decide +kernel
theorem dX3_leaseOut_54 : decode cX3_leaseOut 54 = .ok (.iload_n 3, 1) := by decide +kernel
theorem dX3_leaseOut_55 : decode cX3_leaseOut 55 = .ok (.iadd, 1) := by decide +kernel
theorem dX3_leaseOut_56 : decode cX3_leaseOut 56 = .ok (.iastore, 1) := by decide +kernel
theorem dX3_leaseOut_57 : decode cX3_leaseOut 57 = .ok (.return_, 1) := by decide +kernel
theorem dX3_premiumFor_0 : decode cX3_premiumFor 0 = .ok (.bipush 10, 2) := by decide +kernel
theorem dX3_premiumFor_2 : decode cX3_premiumFor 2 = .ok (.iload 4, 2) := by decide +kernel
theorem dX3_premiumFor_4 : decode cX3_premiumFor 4 = .ok (.iadd, 1) := by decide +kernel
theorem dX3_premiumFor_5 : decode cX3_premiumFor 5 = .ok (.bipush 100, 2) := by decide +kernel
theorem dX3_premiumFor_7 : decode cX3_premiumFor 7 = .ok (.iadd, 1) := by decide +kernel
theorem dX3_premiumFor_8 : decode cX3_premiumFor 8 = .ok (.aload_n 0, 1) := by decide +kernel
theorem dX3_premiumFor_9 : decode cX3_premiumFor 9 = .ok (.getfield 31, 3) := by decide +kernel
theorem dX3_premiumFor_12 : decode cX3_premiumFor 12 = .ok (.getfield 105, 3) := by decide +kernel
theorem dX3_premiumFor_15 : decode cX3_premiumFor 15 = .ok (.iload_n 1, 1) := by decide +kernel
theorem dX3_premiumFor_16 : decode cX3_premiumFor 16 = .ok (.iaload, 1) := by decide +kernel
theorem dX3_premiumFor_17 : decode cX3_premiumFor 17 = .ok (.isub, 1) := by decide +kernel
theorem dX3_premiumFor_18 : decode cX3_premiumFor 18 = .ok (.istore 5, 2) := by decide +kernel
theorem dX3_premiumFor_20 : decode cX3_premiumFor 20 = .ok (.iload 5, 2) := by decide +kernel
theorem dX3_premiumFor_22 : decode cX3_premiumFor 22 = .ok (.iload_n 3, 1) := by decide +kernel
theorem dX3_premiumFor_23 : decode cX3_premiumFor 23 = .ok (.imul, 1) := by decide +kernel
theorem dX3_premiumFor_24 : decode cX3_premiumFor 24 = .ok (.aload_n 0, 1) := by decide +kernel
theorem dX3_premiumFor_25 : decode cX3_premiumFor 25 = .ok (.getfield 52, 3) := by decide +kernel
theorem dX3_premiumFor_28 : decode cX3_premiumFor 28 = .ok (.getfield 108, 3) := by decide +kernel
theorem dX3_premiumFor_31 : decode cX3_premiumFor 31 = .ok (.iload_n 2, 1) := by decide +kernel
theorem dX3_premiumFor_32 : decode cX3_premiumFor 32 = .ok (.iaload, 1) := by decide +kernel
theorem dX3_premiumFor_33 : decode cX3_premiumFor 33 = .ok (.imul, 1) := by decide +kernel
theorem dX3_premiumFor_34 : decode cX3_premiumFor 34 = .ok (.sipush 1000, 3) := by decide +kernel
theorem dX3_premiumFor_37 : decode cX3_premiumFor 37 = .ok (.idiv, 1) := by decide +kernel
theorem dX3_premiumFor_38 : decode cX3_premiumFor 38 = .ok (.iconst 1, 1) := by decide +kernel
theorem dX3_premiumFor_39 : decode cX3_premiumFor 39 = .ok (.iadd, 1) := by decide +kernel
theorem dX3_premiumFor_40 : decode cX3_premiumFor 40 = .ok (.ireturn, 1) := by decide +kernel
theorem dX3_makePolicy_0 : decode cX3_makePolicy 0 = .ok (.aload_n 0, 1) := by decide +kernel
theorem dX3_makePolicy_1 : decode cX3_makePolicy 1 = .ok (.getfield 45, 3) := by decide +kernel
theorem dX3_makePolicy_4 : decode cX3_makePolicy 4 = .ok (.getfield 99, 3) := by decide +kernel
theorem dX3_makePolicy_7 : decode cX3_makePolicy 7 = .ok (.iload 4, 2) := by decide +kernel
theorem dX3_makePolicy_9 : decode cX3_makePolicy 9 = .ok (.dup2, 1) := by decide +kernel
theorem dX3_makePolicy_10 : decode cX3_makePolicy 10 = .ok (.iaload, 1) := by decide +kernel
theorem dX3_makePolicy_11 : decode cX3_makePolicy 11 = .ok (.iload 5, 2) := by decide +kernel
theorem dX3_makePolicy_13 : decode cX3_makePolicy 13 = .ok (.isub, 1) := by decide +kernel
theorem dX3_makePolicy_14 : decode cX3_makePolicy 14 = .ok (.iastore, 1) := by decide +kernel
theorem dX3_makePolicy_15 : decode cX3_makePolicy 15 = .ok (.aload_n 0, 1) := by decide +kernel
theorem dX3_makePolicy_16 : decode cX3_makePolicy 16 = .ok (.getfield 52, 3) := by decide +kernel
theorem dX3_makePolicy_19 : decode cX3_makePolicy 19 = .ok (.getfield 111, 3) := by decide +kernel
theorem dX3_makePolicy_22 : decode cX3_makePolicy 22 = .ok (.iload_n 2, 1) := by decide +kernel
theorem dX3_makePolicy_23 : decode cX3_makePolicy 23 = .ok (.dup2, 1) := by decide +kernel
theorem dX3_makePolicy_24 : decode cX3_makePolicy 24 = .ok (.iaload, 1) := by decide +kernel
theorem dX3_makePolicy_25 : decode cX3_makePolicy 25 = .ok (.iload 5, 2) := by decide +kernel
theorem dX3_makePolicy_27 : decode cX3_makePolicy 27 = .ok (.iadd, 1) := by decide +kernel
theorem dX3_makePolicy_28 : decode cX3_makePolicy 28 = .ok (.iastore, 1) := by decide +kernel
theorem dX3_makePolicy_29 : decode cX3_makePolicy 29 = .ok (.aload_n 0, 1) := by decide +kernel
theorem dX3_makePolicy_30 : decode cX3_makePolicy 30 = .ok (.getfield 52, 3) := by decide +kernel
theorem dX3_makePolicy_33 : decode cX3_makePolicy 33 = .ok (.getfield 114, 3) := by decide +kernel
theorem dX3_makePolicy_36 : decode cX3_makePolicy 36 = .ok (.iload_n 2, 1) := by decide +kernel
theorem dX3_makePolicy_37 : decode cX3_makePolicy 37 = .ok (.dup2, 1) := by decide +kernel
theorem dX3_makePolicy_38 : decode cX3_makePolicy 38 = .ok (.iaload, 1) := by decide +kernel
theorem dX3_makePolicy_39 : decode cX3_makePolicy 39 = .ok (.iload 5, 2) := by decide +kernel
theorem dX3_makePolicy_41 : decode cX3_makePolicy 41 = .ok (.iadd, 1) := by decide +kernel
theorem dX3_makePolicy_42 : decode cX3_makePolicy 42 = .ok (.iastore, 1) := by decide +kernel
theorem dX3_makePolicy_43 : decode cX3_makePolicy 43 = .ok (.aload_n 0, 1) := by decide +kernel
theorem dX3_makePolicy_44 : decode cX3_makePolicy 44 = .ok (.getfield 31, 3) := by decide +kernel
theorem dX3_makePolicy_47 : decode cX3_makePolicy 47 = .ok (.getfield 117, 3) := by decide +kernel
theorem dX3_makePolicy_50 : decode cX3_makePolicy 50 = .ok (.iload_n 1, 1) := by decide +kernel
theorem dX3_makePolicy_51 : decode cX3_makePolicy 51 = .ok (.iload_n 2, 1) := by decide +kernel
theorem dX3_makePolicy_52 : decode cX3_makePolicy 52 = .ok (.iastore, 1) := by decide +kernel
theorem dX3_makePolicy_53 : decode cX3_makePolicy 53 = .ok (.aload_n 0, 1) := by decide +kernel
theorem dX3_makePolicy_54 : decode cX3_makePolicy 54 = .ok (.getfield 31, 3) := by decide +kernel
theorem dX3_makePolicy_57 : decode cX3_makePolicy 57 = .ok (.getfield 92, 3) := by decide +kernel
theorem dX3_makePolicy_60 : decode cX3_makePolicy 60 = .ok (.iload_n 1, 1) := by decide +kernel
theorem dX3_makePolicy_61 : decode cX3_makePolicy 61 = .ok (.aload_n 0, 1) := by decide +kernel
theorem dX3_makePolicy_62 : decode cX3_makePolicy 62 = .ok (.getfield 9, 3) := by decide +kernel
theorem dX3_makePolicy_65 : decode cX3_makePolicy 65 = .ok (.iload_n 3, 1) := by decide +kernel
theorem dX3_makePolicy_66 : decode cX3_makePolicy 66 = .ok (.iadd, 1) := by decide +kernel
theorem dX3_makePolicy_67 : decode cX3_makePolicy 67 = .ok (.iastore, 1) := by decide +kernel
theorem dX3_makePolicy_68 : decode cX3_makePolicy 68 = .ok (.aload_n 0, 1) := by decide +kernel
theorem dX3_makePolicy_69 : decode cX3_makePolicy 69 = .ok (.iload_n 2, 1) := by decide +kernel
theorem dX3_makePolicy_70 : decode cX3_makePolicy 70 = .ok (.invokevirtual 120, 3) := by decide +kernel
theorem dX3_makePolicy_73 : decode cX3_makePolicy 73 = .ok (.return_, 1) := by decide +kernel
theorem dX3_replaceCore_0 : decode cX3_replaceCore 0 = .ok (.aload_n 0, 1) := by decide +kernel
theorem dX3_replaceCore_1 : decode cX3_replaceCore 1 = .ok (.dup, 1) := by decide +kernel
theorem dX3_replaceCore_2 : decode cX3_replaceCore 2 = .ok (.getfield 18, 3) := by decide +kernel
theorem dX3_replaceCore_5 : decode cX3_replaceCore 5 = .ok (.aload_n 0, 1) := by decide +kernel
theorem dX3_replaceCore_6 : decode cX3_replaceCore 6 = .ok (.getfield 21, 3) := by decide +kernel
theorem dX3_replaceCore_9 : decode cX3_replaceCore 9 = .ok (.bipush 7, 2) := by decide +kernel
theorem dX3_replaceCore_11 : decode cX3_replaceCore 11 = .ok (.iaload, 1) := by decide +kernel
theorem dX3_replaceCore_12 : decode cX3_replaceCore 12 = .ok (.isub, 1) := by decide +kernel
theorem dX3_replaceCore_13 : decode cX3_replaceCore 13 = .ok (.putfield 18, 3) := by decide +kernel
theorem dX3_replaceCore_16 : decode cX3_replaceCore 16 = .ok (.aload_n 0, 1) := by decide +kernel
theorem dX3_replaceCore_17 : decode cX3_replaceCore 17 = .ok (.getfield 25, 3) := by decide +kernel
theorem dX3_replaceCore_20 : decode cX3_replaceCore 20 = .ok (.bipush 17, 2) := by decide +kernel
theorem dX3_replaceCore_22 : decode cX3_replaceCore 22 = .ok (.dup2, 1) := by decide +kernel
theorem dX3_replaceCore_23 : decode cX3_replaceCore 23 = .ok (.iaload, 1) := by decide +kernel
theorem dX3_replaceCore_24 : decode cX3_replaceCore 24 = .ok (.aload_n 0, 1) := by decide +kernel
theorem dX3_replaceCore_25 : decode cX3_replaceCore 25 = .ok (.getfield 21, 3) := by decide +kernel
theorem dX3_replaceCore_28 : decode cX3_replaceCore 28 = .ok (.bipush 7, 2) := by decide +kernel
theorem dX3_replaceCore_30 : decode cX3_replaceCore 30 = .ok (.iaload, 1) := by decide +kernel
theorem dX3_replaceCore_31 : decode cX3_replaceCore 31 = .ok (.iadd, 1) := by decide +kernel
theorem dX3_replaceCore_32 : decode cX3_replaceCore 32 = .ok (.iastore, 1) := by decide +kernel
theorem dX3_replaceCore_33 : decode cX3_replaceCore 33 = .ok (.aload_n 0, 1) := by decide +kernel
theorem dX3_replaceCore_34 : decode cX3_replaceCore 34 = .ok (.getfield 31, 3) := by decide +kernel
theorem dX3_replaceCore_37 : decode cX3_replaceCore 37 = .ok (.getfield 105, 3) := by decide +kernel
theorem dX3_replaceCore_40 : decode cX3_replaceCore 40 = .ok (.iload_n 1, 1) := by decide +kernel
theorem dX3_replaceCore_41 : decode cX3_replaceCore 41 = .ok (.bipush 100, 2) := by decide +kernel
theorem dX3_replaceCore_43 : decode cX3_replaceCore 43 = .ok (.iastore, 1) := by decide +kernel
theorem dX3_replaceCore_44 : decode cX3_replaceCore 44 = .ok (.aload_n 0, 1) := by decide +kernel
theorem dX3_replaceCore_45 : decode cX3_replaceCore 45 = .ok (.getfield 31, 3) := by decide +kernel
theorem dX3_replaceCore_48 : decode cX3_replaceCore 48 = .ok (.iload_n 1, 1) := by decide +kernel
theorem dX3_replaceCore_49 : decode cX3_replaceCore 49 = .ok (.iconst 0, 1) := by decide +kernel
theorem dX3_replaceCore_50 : decode cX3_replaceCore 50 = .ok (.invokevirtual 124, 3) := by decide +kernel
theorem dX3_replaceCore_53 : decode cX3_replaceCore 53 = .ok (.return_, 1) := by decide +kernel
theorem dX3_loseBit_0 : decode cX3_loseBit 0 = .ok (.aload_n 0, 1) := by decide +kernel
theorem dX3_loseBit_1 : decode cX3_loseBit 1 = .ok (.getfield 31, 3) := by decide +kernel
theorem dX3_loseBit_4 : decode cX3_loseBit 4 = .ok (.iload_n 1, 1) := by decide +kernel
theorem dX3_loseBit_5 : decode cX3_loseBit 5 = .ok (.iconst 0, 1) := by decide +kernel
theorem dX3_loseBit_6 : decode cX3_loseBit 6 = .ok (.invokevirtual 124, 3) := by decide +kernel
theorem dX3_loseBit_9 : decode cX3_loseBit 9 = .ok (.aload_n 0, 1) := by decide +kernel
theorem dX3_loseBit_10 : decode cX3_loseBit 10 = .ok (.getfield 31, 3) := by decide +kernel
theorem dX3_loseBit_13 : decode cX3_loseBit 13 = .ok (.getfield 128, 3) := by decide +kernel
theorem dX3_loseBit_16 : decode cX3_loseBit 16 = .ok (.iload_n 1, 1) := by decide +kernel
theorem dX3_loseBit_17 : decode cX3_loseBit 17 = .ok (.dup2, 1) := by decide +kernel
theorem dX3_loseBit_18 : decode cX3_loseBit 18 = .ok (.iaload, 1) := by decide +kernel
theorem dX3_loseBit_19 : decode cX3_loseBit 19 = .ok (.iconst 1, 1) := by decide +kernel
theorem dX3_loseBit_20 : decode cX3_loseBit 20 = .ok (.iadd, 1) := by decide +kernel
theorem dX3_loseBit_21 : decode cX3_loseBit 21 = .ok (.iastore, 1) := by decide +kernel
theorem dX3_loseBit_22 : decode cX3_loseBit 22 = .ok (.aload_n 0, 1) := by decide +kernel
theorem dX3_loseBit_23 : decode cX3_loseBit 23 = .ok (.getfield 25, 3) := by decide +kernel
theorem dX3_loseBit_26 : decode cX3_loseBit 26 = .ok (.iload_n 2, 1) := by decide +kernel
theorem dX3_loseBit_27 : decode cX3_loseBit 27 = .ok (.dup2, 1) := by decide +kernel
theorem dX3_loseBit_28 : decode cX3_loseBit 28 = .ok (.iaload, 1) := by decide +kernel
theorem dX3_loseBit_29 : decode cX3_loseBit 29 = .ok (.iconst 1, 1) := by decide +kernel
theorem dX3_loseBit_30 : decode cX3_loseBit 30 = .ok (.iadd, 1) := by decide +kernel
theorem dX3_loseBit_31 : decode cX3_loseBit 31 = .ok (.iastore, 1) := by decide +kernel
theorem dX3_loseBit_32 : decode cX3_loseBit 32 = .ok (.aload_n 0, 1) := by decide +kernel
theorem dX3_loseBit_33 : decode cX3_loseBit 33 = .ok (.getfield 31, 3) := by decide +kernel
theorem dX3_loseBit_36 : decode cX3_loseBit 36 = .ok (.getfield 102, 3) := by decide +kernel
theorem dX3_loseBit_39 : decode cX3_loseBit 39 = .ok (.iload_n 1, 1) := by decide +kernel
theorem dX3_loseBit_40 : decode cX3_loseBit 40 = .ok (.iaload, 1) := by decide +kernel
theorem dX3_loseBit_41 : decode cX3_loseBit 41 = .ok (.istore_n 3, 1) := by decide +kernel
theorem dX3_loseBit_42 : decode cX3_loseBit 42 = .ok (.aload_n 0, 1) := by decide +kernel
theorem dX3_loseBit_43 : decode cX3_loseBit 43 = .ok (.getfield 45, 3) := by decide +kernel
theorem dX3_loseBit_46 : decode cX3_loseBit 46 = .ok (.iload_n 3, 1) := by decide +kernel
theorem dX3_loseBit_47 : decode cX3_loseBit 47 = .ok (.invokevirtual 131, 3) := by decide +kernel
theorem dX3_loseBit_50 : decode cX3_loseBit 50 = .ok (.ifCond .ne 4, 3) := by decide +kernel
theorem dX3_loseBit_53 : decode cX3_loseBit 53 = .ok (.return_, 1) := by decide +kernel
theorem dX3_loseBit_54 : decode cX3_loseBit 54 = .ok (.aload_n 0, 1) := by decide +kernel
theorem dX3_loseBit_55 : decode cX3_loseBit 55 = .ok (.getfield 45, 3) := by decide +kernel
theorem dX3_loseBit_58 : decode cX3_loseBit 58 = .ok (.getfield 134, 3) := by decide +kernel
theorem dX3_loseBit_61 : decode cX3_loseBit 61 = .ok (.iload_n 3, 1) := by decide +kernel
theorem dX3_loseBit_62 : decode cX3_loseBit 62 = .ok (.dup2, 1) := by decide +kernel
theorem dX3_loseBit_63 : decode cX3_loseBit 63 = .ok (.iaload, 1) := by decide +kernel
theorem dX3_loseBit_64 : decode cX3_loseBit 64 = .ok (.iconst 1, 1) := by decide +kernel
theorem dX3_loseBit_65 : decode cX3_loseBit 65 = .ok (.iadd, 1) := by decide +kernel
theorem dX3_loseBit_66 : decode cX3_loseBit 66 = .ok (.iastore, 1) := by decide +kernel
theorem dX3_loseBit_67 : decode cX3_loseBit 67 = .ok (.aload_n 0, 1) := by decide +kernel
theorem dX3_loseBit_68 : decode cX3_loseBit 68 = .ok (.getfield 31, 3) := by decide +kernel
theorem dX3_loseBit_71 : decode cX3_loseBit 71 = .ok (.getfield 117, 3) := by decide +kernel
theorem dX3_loseBit_74 : decode cX3_loseBit 74 = .ok (.iload_n 1, 1) := by decide +kernel
theorem dX3_loseBit_75 : decode cX3_loseBit 75 = .ok (.iaload, 1) := by decide +kernel
theorem dX3_loseBit_76 : decode cX3_loseBit 76 = .ok (.istore 4, 2) := by decide +kernel
theorem dX3_loseBit_78 : decode cX3_loseBit 78 = .ok (.aload_n 0, 1) := by decide +kernel
theorem dX3_loseBit_79 : decode cX3_loseBit 79 = .ok (.getfield 52, 3) := by decide +kernel
theorem dX3_loseBit_82 : decode cX3_loseBit 82 = .ok (.iload 4, 2) := by decide +kernel
theorem dX3_loseBit_84 : decode cX3_loseBit 84 = .ok (.invokevirtual 135, 3) := by decide +kernel
theorem dX3_loseBit_87 : decode cX3_loseBit 87 = .ok (.ifCond .eq 24, 3) := by decide +kernel
theorem dX3_loseBit_90 : decode cX3_loseBit 90 = .ok (.aload_n 0, 1) := by decide +kernel
theorem dX3_loseBit_91 : decode cX3_loseBit 91 = .ok (.getfield 31, 3) := by decide +kernel
theorem dX3_loseBit_94 : decode cX3_loseBit 94 = .ok (.iload_n 1, 1) := by decide +kernel
theorem dX3_loseBit_95 : decode cX3_loseBit 95 = .ok (.invokevirtual 136, 3) := by decide +kernel
theorem dX3_loseBit_98 : decode cX3_loseBit 98 = .ok (.aload_n 0, 1) := by decide +kernel
theorem dX3_loseBit_99 : decode cX3_loseBit 99 = .ok (.iload 4, 2) := by decide +kernel
theorem dX3_loseBit_101 : decode cX3_loseBit 101 = .ok (.iload_n 3, 1) := by decide +kernel
theorem dX3_loseBit_102 : decode cX3_loseBit 102 = .ok (.invokevirtual 139, 3) := by decide +kernel
theorem dX3_loseBit_105 : decode cX3_loseBit 105 = .ok (.aload_n 0, 1) := by decide +kernel
theorem dX3_loseBit_106 : decode cX3_loseBit 106 = .ok (.iload 4, 2) := by decide +kernel
theorem dX3_loseBit_108 : decode cX3_loseBit 108 = .ok (.invokevirtual 120, 3) := by decide +kernel
theorem dX3_loseBit_111 : decode cX3_loseBit 111 = .ok (.return_, 1) := by decide +kernel
theorem dX3_enterClaim_0 : decode cX3_enterClaim 0 = .ok (.aload_n 0, 1) := by decide +kernel
theorem dX3_enterClaim_1 : decode cX3_enterClaim 1 = .ok (.getfield 59, 3) := by decide +kernel
theorem dX3_enterClaim_4 : decode cX3_enterClaim 4 = .ok (.sipush 512, 3) := by decide +kernel
theorem dX3_enterClaim_7 : decode cX3_enterClaim 7 = .ok (.if_icmp .ge 28, 3) := by decide +kernel
theorem dX3_enterClaim_10 : decode cX3_enterClaim 10 = .ok (.aload_n 0, 1) := by decide +kernel
theorem dX3_enterClaim_11 : decode cX3_enterClaim 11 = .ok (.getfield 56, 3) := by decide +kernel
theorem dX3_enterClaim_14 : decode cX3_enterClaim 14 = .ok (.aload_n 0, 1) := by decide +kernel
theorem dX3_enterClaim_15 : decode cX3_enterClaim 15 = .ok (.getfield 59, 3) := by decide +kernel
theorem dX3_enterClaim_18 : decode cX3_enterClaim 18 = .ok (.iload_n 1, 1) := by decide +kernel
theorem dX3_enterClaim_19 : decode cX3_enterClaim 19 = .ok (.bipush 6, 2) := by decide +kernel
theorem dX3_enterClaim_21 : decode cX3_enterClaim 21 = .ok (.imul, 1) := by decide +kernel
theorem dX3_enterClaim_22 : decode cX3_enterClaim 22 = .ok (.iload_n 2, 1) := by decide +kernel
theorem dX3_enterClaim_23 : decode cX3_enterClaim 23 = .ok (.iadd, 1) := by decide +kernel
theorem dX3_enterClaim_24 : decode cX3_enterClaim 24 = .ok (.iastore, 1) := by decide +kernel
theorem dX3_enterClaim_25 : decode cX3_enterClaim 25 = .ok (.aload_n 0, 1) := by decide +kernel
theorem dX3_enterClaim_26 : decode cX3_enterClaim 26 = .ok (.dup, 1) := by decide +kernel
theorem dX3_enterClaim_27 : decode cX3_enterClaim 27 = .ok (.getfield 59, 3) := by decide +kernel
theorem dX3_enterClaim_30 : decode cX3_enterClaim 30 = .ok (.iconst 1, 1) := by decide +kernel
theorem dX3_enterClaim_31 : decode cX3_enterClaim 31 = .ok (.iadd, 1) := by decide +kernel
theorem dX3_enterClaim_32 : decode cX3_enterClaim 32 = .ok (.putfield 59, 3) := by decide +kernel
theorem dX3_enterClaim_35 : decode cX3_enterClaim 35 = .ok (.return_, 1) := by decide +kernel
theorem dX3_payClaims_0 : decode cX3_payClaims 0 = .ok (.aload_n 0, 1) := by decide +kernel
theorem dX3_payClaims_1 : decode cX3_payClaims 1 = .ok (.getfield 52, 3) := by decide +kernel
theorem dX3_payClaims_4 : decode cX3_payClaims 4 = .ok (.getfield 143, 3) := by decide +kernel
theorem dX3_payClaims_7 : decode cX3_payClaims 7 = .ok (.iload_n 1, 1) := by decide +kernel
theorem dX3_payClaims_8 : decode cX3_payClaims 8 = .ok (.iaload, 1) := by decide +kernel
theorem dX3_payClaims_9 : decode cX3_payClaims 9 = .ok (.istore_n 2, 1) := by decide +kernel
theorem dX3_payClaims_10 : decode cX3_payClaims 10 = .ok (.iconst 0, 1) := by decide +kernel
theorem dX3_payClaims_11 : decode cX3_payClaims 11 = .ok (.istore_n 3, 1) := by decide +kernel
theorem dX3_payClaims_12 : decode cX3_payClaims 12 = .ok (.iconst 0, 1) := by decide +kernel
theorem dX3_payClaims_13 : decode cX3_payClaims 13 = .ok (.istore 4, 2) := by decide +kernel
theorem dX3_payClaims_15 : decode cX3_payClaims 15 = .ok (.iload 4, 2) := by decide +kernel
theorem dX3_payClaims_17 : decode cX3_payClaims 17 = .ok (.aload_n 0, 1) := by decide +kernel
theorem dX3_payClaims_18 : decode cX3_payClaims 18 = .ok (.getfield 59, 3) := by decide +kernel
theorem dX3_payClaims_21 : decode cX3_payClaims 21 = .ok (.if_icmp .ge 115, 3) := by decide +kernel
theorem dX3_payClaims_24 : decode cX3_payClaims 24 = .ok (.aload_n 0, 1) := by decide +kernel
theorem dX3_payClaims_25 : decode cX3_payClaims 25 = .ok (.getfield 56, 3) := by decide +kernel
theorem dX3_payClaims_28 : decode cX3_payClaims 28 = .ok (.iload 4, 2) := by decide +kernel
theorem dX3_payClaims_30 : decode cX3_payClaims 30 = .ok (.iaload, 1) := by decide +kernel
theorem dX3_payClaims_31 : decode cX3_payClaims 31 = .ok (.istore 5, 2) := by decide +kernel
theorem dX3_payClaims_33 : decode cX3_payClaims 33 = .ok (.iload 5, 2) := by decide +kernel
theorem dX3_payClaims_35 : decode cX3_payClaims 35 = .ok (.bipush 6, 2) := by decide +kernel
theorem dX3_payClaims_37 : decode cX3_payClaims 37 = .ok (.idiv, 1) := by decide +kernel
theorem dX3_payClaims_38 : decode cX3_payClaims 38 = .ok (.iload_n 1, 1) := by decide +kernel
theorem dX3_payClaims_39 : decode cX3_payClaims 39 = .ok (.if_icmp .ne 80, 3) := by decide +kernel
theorem dX3_payClaims_42 : decode cX3_payClaims 42 = .ok (.aload_n 0, 1) := by decide +kernel
theorem dX3_payClaims_43 : decode cX3_payClaims 43 = .ok (.getfield 52, 3) := by decide +kernel
theorem dX3_payClaims_46 : decode cX3_payClaims 46 = .ok (.getfield 111, 3) := by decide +kernel
theorem dX3_payClaims_49 : decode cX3_payClaims 49 = .ok (.iload_n 1, 1) := by decide +kernel
theorem dX3_payClaims_50 : decode cX3_payClaims 50 = .ok (.iaload, 1) := by decide +kernel
theorem dX3_payClaims_51 : decode cX3_payClaims 51 = .ok (.iload_n 2, 1) := by decide +kernel
theorem dX3_payClaims_52 : decode cX3_payClaims 52 = .ok (.if_icmp .lt 67, 3) := by decide +kernel
theorem dX3_payClaims_55 : decode cX3_payClaims 55 = .ok (.iload 5, 2) := by decide +kernel
theorem dX3_payClaims_57 : decode cX3_payClaims 57 = .ok (.bipush 6, 2) := by decide +kernel
theorem dX3_payClaims_59 : decode cX3_payClaims 59 = .ok (.irem, 1) := by decide +kernel
theorem dX3_payClaims_60 : decode cX3_payClaims 60 = .ok (.istore 6, 2) := by decide +kernel
theorem dX3_payClaims_62 : decode cX3_payClaims 62 = .ok (.aload_n 0, 1) := by decide +kernel
theorem dX3_payClaims_63 : decode cX3_payClaims 63 = .ok (.getfield 52, 3) := by decide +kernel
theorem dX3_payClaims_66 : decode cX3_payClaims 66 = .ok (.getfield 111, 3) := by decide +kernel
theorem dX3_payClaims_69 : decode cX3_payClaims 69 = .ok (.iload_n 1, 1) := by decide +kernel
theorem dX3_payClaims_70 : decode cX3_payClaims 70 = .ok (.dup2, 1) := by decide +kernel
theorem dX3_payClaims_71 : decode cX3_payClaims 71 = .ok (.iaload, 1) := by decide +kernel
theorem dX3_payClaims_72 : decode cX3_payClaims 72 = .ok (.iload_n 2, 1) := by decide +kernel
theorem dX3_payClaims_73 : decode cX3_payClaims 73 = .ok (.isub, 1) := by decide +kernel
theorem dX3_payClaims_74 : decode cX3_payClaims 74 = .ok (.iastore, 1) := by decide +kernel
theorem dX3_payClaims_75 : decode cX3_payClaims 75 = .ok (.aload_n 0, 1) := by decide +kernel
theorem dX3_payClaims_76 : decode cX3_payClaims 76 = .ok (.getfield 52, 3) := by decide +kernel
theorem dX3_payClaims_79 : decode cX3_payClaims 79 = .ok (.getfield 146, 3) := by decide +kernel
theorem dX3_payClaims_82 : decode cX3_payClaims 82 = .ok (.iload_n 1, 1) := by decide +kernel
theorem dX3_payClaims_83 : decode cX3_payClaims 83 = .ok (.dup2, 1) := by decide +kernel
theorem dX3_payClaims_84 : decode cX3_payClaims 84 = .ok (.iaload, 1) := by decide +kernel
theorem dX3_payClaims_85 : decode cX3_payClaims 85 = .ok (.iconst 1, 1) := by decide +kernel
theorem dX3_payClaims_86 : decode cX3_payClaims 86 = .ok (.iadd, 1) := by decide +kernel
theorem dX3_payClaims_87 : decode cX3_payClaims 87 = .ok (.iastore, 1) := by decide +kernel
theorem dX3_payClaims_88 : decode cX3_payClaims 88 = .ok (.aload_n 0, 1) := by decide +kernel
theorem dX3_payClaims_89 : decode cX3_payClaims 89 = .ok (.getfield 45, 3) := by decide +kernel
theorem dX3_payClaims_92 : decode cX3_payClaims 92 = .ok (.getfield 99, 3) := by decide +kernel
theorem dX3_payClaims_95 : decode cX3_payClaims 95 = .ok (.iload 6, 2) := by decide +kernel
theorem dX3_payClaims_97 : decode cX3_payClaims 97 = .ok (.dup2, 1) := by decide +kernel
theorem dX3_payClaims_98 : decode cX3_payClaims 98 = .ok (.iaload, 1) := by decide +kernel
theorem dX3_payClaims_99 : decode cX3_payClaims 99 = .ok (.iload_n 2, 1) := by decide +kernel
theorem dX3_payClaims_100 : decode cX3_payClaims 100 = .ok (.iadd, 1) := by decide +kernel
theorem dX3_payClaims_101 : decode cX3_payClaims 101 = .ok (.iastore, 1) := by decide +kernel
theorem dX3_payClaims_102 : decode cX3_payClaims 102 = .ok (.aload_n 0, 1) := by decide +kernel
theorem dX3_payClaims_103 : decode cX3_payClaims 103 = .ok (.getfield 45, 3) := by decide +kernel
theorem dX3_payClaims_106 : decode cX3_payClaims 106 = .ok (.getfield 149, 3) := by decide +kernel
theorem dX3_payClaims_109 : decode cX3_payClaims 109 = .ok (.iload 6, 2) := by decide +kernel
theorem dX3_payClaims_111 : decode cX3_payClaims 111 = .ok (.dup2, 1) := by decide +kernel
theorem dX3_payClaims_112 : decode cX3_payClaims 112 = .ok (.iaload, 1) := by decide +kernel
theorem dX3_payClaims_113 : decode cX3_payClaims 113 = .ok (.iload_n 2, 1) := by decide +kernel
theorem dX3_payClaims_114 : decode cX3_payClaims 114 = .ok (.iadd, 1) := by decide +kernel
theorem dX3_payClaims_115 : decode cX3_payClaims 115 = .ok (.iastore, 1) := by decide +kernel
theorem dX3_payClaims_116 : decode cX3_payClaims 116 = .ok (.goto 14, 3) := by decide +kernel
theorem dX3_payClaims_119 : decode cX3_payClaims 119 = .ok (.aload_n 0, 1) := by decide +kernel
theorem dX3_payClaims_120 : decode cX3_payClaims 120 = .ok (.getfield 56, 3) := by decide +kernel
theorem dX3_payClaims_123 : decode cX3_payClaims 123 = .ok (.iload_n 3, 1) := by decide +kernel
theorem dX3_payClaims_124 : decode cX3_payClaims 124 = .ok (.iload 5, 2) := by decide +kernel
theorem dX3_payClaims_126 : decode cX3_payClaims 126 = .ok (.iastore, 1) := by decide +kernel
theorem dX3_payClaims_127 : decode cX3_payClaims 127 = .ok (.iinc 3 1, 3) := by decide +kernel
theorem dX3_payClaims_130 : decode cX3_payClaims 130 = .ok (.iinc 4 1, 3) := by decide +kernel
theorem dX3_payClaims_133 : decode cX3_payClaims 133 = .ok (.goto (-118), 3) := by decide +kernel
theorem dX3_payClaims_136 : decode cX3_payClaims 136 = .ok (.aload_n 0, 1) := by decide +kernel
theorem dX3_payClaims_137 : decode cX3_payClaims 137 = .ok (.iload_n 3, 1) := by decide +kernel
theorem dX3_payClaims_138 : decode cX3_payClaims 138 = .ok (.putfield 59, 3) := by decide +kernel
theorem dX3_payClaims_141 : decode cX3_payClaims 141 = .ok (.return_, 1) := by decide +kernel
theorem dX3_waitingOf_0 : decode cX3_waitingOf 0 = .ok (.iconst 0, 1) := by decide +kernel
theorem dX3_waitingOf_1 : decode cX3_waitingOf 1 = .ok (.istore_n 2, 1) := by decide +kernel
theorem dX3_waitingOf_2 : decode cX3_waitingOf 2 = .ok (.iconst 0, 1) := by decide +kernel
theorem dX3_waitingOf_3 : decode cX3_waitingOf 3 = .ok (.istore_n 3, 1) := by decide +kernel
theorem dX3_waitingOf_4 : decode cX3_waitingOf 4 = .ok (.iload_n 3, 1) := by decide +kernel
theorem dX3_waitingOf_5 : decode cX3_waitingOf 5 = .ok (.aload_n 0, 1) := by decide +kernel
theorem dX3_waitingOf_6 : decode cX3_waitingOf 6 = .ok (.getfield 59, 3) := by decide +kernel
theorem dX3_waitingOf_9 : decode cX3_waitingOf 9 = .ok (.if_icmp .ge 25, 3) := by decide +kernel
theorem dX3_waitingOf_12 : decode cX3_waitingOf 12 = .ok (.aload_n 0, 1) := by decide +kernel
theorem dX3_waitingOf_13 : decode cX3_waitingOf 13 = .ok (.getfield 56, 3) := by decide +kernel
theorem dX3_waitingOf_16 : decode cX3_waitingOf 16 = .ok (.iload_n 3, 1) := by decide +kernel
theorem dX3_waitingOf_17 : decode cX3_waitingOf 17 = .ok (.iaload, 1) := by decide +kernel
theorem dX3_waitingOf_18 : decode cX3_waitingOf 18 = .ok (.bipush 6, 2) := by decide +kernel
theorem dX3_waitingOf_20 : decode cX3_waitingOf 20 = .ok (.irem, 1) := by decide +kernel
theorem dX3_waitingOf_21 : decode cX3_waitingOf 21 = .ok (.iload_n 1, 1) := by decide +kernel
theorem dX3_waitingOf_22 : decode cX3_waitingOf 22 = .ok (.if_icmp .ne 6, 3) := by decide +kernel
theorem dX3_waitingOf_25 : decode cX3_waitingOf 25 = .ok (.iinc 2 1, 3) := by decide +kernel
theorem dX3_waitingOf_28 : decode cX3_waitingOf 28 = .ok (.iinc 3 1, 3) := by decide +kernel
theorem dX3_waitingOf_31 : decode cX3_waitingOf 31 = .ok (.goto (-27), 3) := by decide +kernel
theorem dX3_waitingOf_34 : decode cX3_waitingOf 34 = .ok (.iload_n 2, 1) := by decide +kernel
theorem dX3_waitingOf_35 : decode cX3_waitingOf 35 = .ok (.ireturn, 1) := by decide +kernel
theorem dX3_waitingOn_0 : decode cX3_waitingOn 0 = .ok (.iconst 0, 1) := by decide +kernel
theorem dX3_waitingOn_1 : decode cX3_waitingOn 1 = .ok (.istore_n 2, 1) := by decide +kernel
theorem dX3_waitingOn_2 : decode cX3_waitingOn 2 = .ok (.iconst 0, 1) := by decide +kernel
theorem dX3_waitingOn_3 : decode cX3_waitingOn 3 = .ok (.istore_n 3, 1) := by decide +kernel
theorem dX3_waitingOn_4 : decode cX3_waitingOn 4 = .ok (.iload_n 3, 1) := by decide +kernel
theorem dX3_waitingOn_5 : decode cX3_waitingOn 5 = .ok (.aload_n 0, 1) := by decide +kernel
theorem dX3_waitingOn_6 : decode cX3_waitingOn 6 = .ok (.getfield 59, 3) := by decide +kernel
theorem dX3_waitingOn_9 : decode cX3_waitingOn 9 = .ok (.if_icmp .ge 25, 3) := by decide +kernel
theorem dX3_waitingOn_12 : decode cX3_waitingOn 12 = .ok (.aload_n 0, 1) := by decide +kernel
theorem dX3_waitingOn_13 : decode cX3_waitingOn 13 = .ok (.getfield 56, 3) := by decide +kernel
theorem dX3_waitingOn_16 : decode cX3_waitingOn 16 = .ok (.iload_n 3, 1) := by decide +kernel
theorem dX3_waitingOn_17 : decode cX3_waitingOn 17 = .ok (.iaload, 1) := by decide +kernel
theorem dX3_waitingOn_18 : decode cX3_waitingOn 18 = .ok (.bipush 6, 2) := by decide +kernel
theorem dX3_waitingOn_20 : decode cX3_waitingOn 20 = .ok (.idiv, 1) := by decide +kernel
theorem dX3_waitingOn_21 : decode cX3_waitingOn 21 = .ok (.iload_n 1, 1) := by decide +kernel
theorem dX3_waitingOn_22 : decode cX3_waitingOn 22 = .ok (.if_icmp .ne 6, 3) := by decide +kernel
theorem dX3_waitingOn_25 : decode cX3_waitingOn 25 = .ok (.iinc 2 1, 3) := by decide +kernel
theorem dX3_waitingOn_28 : decode cX3_waitingOn 28 = .ok (.iinc 3 1, 3) := by decide +kernel
theorem dX3_waitingOn_31 : decode cX3_waitingOn 31 = .ok (.goto (-27), 3) := by decide +kernel
theorem dX3_waitingOn_34 : decode cX3_waitingOn 34 = .ok (.iload_n 2, 1) := by decide +kernel
theorem dX3_waitingOn_35 : decode cX3_waitingOn 35 = .ok (.ireturn, 1) := by decide +kernel
theorem dX3_canBeRead_0 : decode cX3_canBeRead 0 = .ok (.aload_n 0, 1) := by decide +kernel
theorem dX3_canBeRead_1 : decode cX3_canBeRead 1 = .ok (.getfield 31, 3) := by decide +kernel
theorem dX3_canBeRead_4 : decode cX3_canBeRead 4 = .ok (.iload_n 1, 1) := by decide +kernel
theorem dX3_canBeRead_5 : decode cX3_canBeRead 5 = .ok (.invokevirtual 82, 3) := by decide +kernel
theorem dX3_canBeRead_8 : decode cX3_canBeRead 8 = .ok (.ifCond .eq 18, 3) := by decide +kernel
theorem dX3_canBeRead_11 : decode cX3_canBeRead 11 = .ok (.aload_n 0, 1) := by decide +kernel
theorem dX3_canBeRead_12 : decode cX3_canBeRead 12 = .ok (.getfield 38, 3) := by decide +kernel
theorem dX3_canBeRead_15 : decode cX3_canBeRead 15 = .ok (.iload_n 1, 1) := by decide +kernel
theorem dX3_canBeRead_16 : decode cX3_canBeRead 16 = .ok (.invokevirtual 152, 3) := by decide +kernel
theorem dX3_canBeRead_19 : decode cX3_canBeRead 19 = .ok (.ifCond .ne 7, 3) := by decide +kernel
theorem dX3_canBeRead_22 : decode cX3_canBeRead 22 = .ok (.iconst 1, 1) := by decide +kernel
theorem dX3_canBeRead_23 : decode cX3_canBeRead 23 = .ok (.goto 4, 3) := by decide +kernel
theorem dX3_canBeRead_26 : decode cX3_canBeRead 26 = .ok (.iconst 0, 1) := by decide +kernel
theorem dX3_canBeRead_27 : decode cX3_canBeRead 27 = .ok (.ireturn, 1) := by decide +kernel
theorem dX3_fragile_0 : decode cX3_fragile 0 = .ok (.aload_n 0, 1) := by decide +kernel
theorem dX3_fragile_1 : decode cX3_fragile 1 = .ok (.getfield 31, 3) := by decide +kernel
theorem dX3_fragile_4 : decode cX3_fragile 4 = .ok (.aload_n 0, 1) := by decide +kernel
theorem dX3_fragile_5 : decode cX3_fragile 5 = .ok (.getfield 21, 3) := by decide +kernel
theorem dX3_fragile_8 : decode cX3_fragile 8 = .ok (.iconst 5, 1) := by decide +kernel
theorem dX3_fragile_9 : decode cX3_fragile 9 = .ok (.iaload, 1) := by decide +kernel
theorem dX3_fragile_10 : decode cX3_fragile 10 = .ok (.invokevirtual 155, 3) := by decide +kernel
theorem dX3_fragile_13 : decode cX3_fragile 13 = .ok (.lreturn, 1) := by decide +kernel
theorem dX3_strengthBehindPulse_0 : decode cX3_strengthBehindPulse 0 = .ok (.iconst 0, 1) := by decide +kernel
theorem dX3_strengthBehindPulse_1 : decode cX3_strengthBehindPulse 1 = .ok (.aload_n 0, 1) := by decide +kernel
theorem dX3_strengthBehindPulse_2 : decode cX3_strengthBehindPulse 2 = .ok (.getfield 31, 3) := by decide +kernel
theorem dX3_strengthBehindPulse_5 : decode cX3_strengthBehindPulse 5 = .ok (.getfield 105, 3) := by decide +kernel
theorem dX3_strengthBehindPulse_8 : decode cX3_strengthBehindPulse 8 = .ok (.iload_n 1, 1) := by decide +kernel
theorem dX3_strengthBehindPulse_9 : decode cX3_strengthBehindPulse 9 = .ok (.iaload, 1) := by decide +kernel
theorem dX3_strengthBehindPulse_10 : decode cX3_strengthBehindPulse 10 = .ok (.iconst 1, 1) := by decide +kernel
theorem dX3_strengthBehindPulse_11 : decode cX3_strengthBehindPulse 11 = .ok (.isub, 1) := by decide +kernel
theorem dX3_strengthBehindPulse_12 : decode cX3_strengthBehindPulse 12 = .ok (.aload_n 0, 1) := by decide +kernel
theorem dX3_strengthBehindPulse_13 : decode cX3_strengthBehindPulse 13 = .ok (.getfield 15, 3) := by decide +kernel
theorem dX3_strengthBehindPulse_16 : decode cX3_strengthBehindPulse 16 = .ok (.bipush 25, 2) := by decide +kernel
theorem dX3_strengthBehindPulse_18 : decode cX3_strengthBehindPulse 18 = .ok (.idiv, 1) := by decide +kernel
theorem dX3_strengthBehindPulse_19 : decode cX3_strengthBehindPulse 19 = .ok (.isub, 1) := by decide +kernel
theorem dX3_strengthBehindPulse_20 : decode cX3_strengthBehindPulse 20 = .ok (.invokestatic 159, 3) := by decide +kernel
theorem dX3_strengthBehindPulse_23 : decode cX3_strengthBehindPulse 23 = .ok (.ireturn, 1) := by decide +kernel
theorem dX3_heatBehind_0 : decode cX3_heatBehind 0 = .ok (.bipush 100, 2) := by decide +kernel
theorem dX3_heatBehind_2 : decode cX3_heatBehind 2 = .ok (.aload_n 0, 1) := by decide +kernel
theorem dX3_heatBehind_3 : decode cX3_heatBehind 3 = .ok (.getfield 15, 3) := by decide +kernel
theorem dX3_heatBehind_6 : decode cX3_heatBehind 6 = .ok (.iload_n 1, 1) := by decide +kernel
theorem dX3_heatBehind_7 : decode cX3_heatBehind 7 = .ok (.iadd, 1) := by decide +kernel
theorem dX3_heatBehind_8 : decode cX3_heatBehind 8 = .ok (.invokestatic 165, 3) := by decide +kernel
theorem dX3_heatBehind_11 : decode cX3_heatBehind 11 = .ok (.ireturn, 1) := by decide +kernel
theorem dX3_pulse_0 : decode cX3_pulse 0 = .ok (.aload_n 0, 1) := by decide +kernel
theorem dX3_pulse_1 : decode cX3_pulse 1 = .ok (.getfield 31, 3) := by decide +kernel
theorem dX3_pulse_4 : decode cX3_pulse 4 = .ok (.getfield 105, 3) := by decide +kernel
theorem dX3_pulse_7 : decode cX3_pulse 7 = .ok (.iload_n 1, 1) := by decide +kernel
theorem dX3_pulse_8 : decode cX3_pulse 8 = .ok (.aload_n 0, 1) := by decide +kernel
theorem dX3_pulse_9 : decode cX3_pulse 9 = .ok (.iload_n 1, 1) := by decide +kernel
theorem dX3_pulse_10 : decode cX3_pulse 10 = .ok (.invokevirtual 168, 3) := by decide +kernel
theorem dX3_pulse_13 : decode cX3_pulse 13 = .ok (.iastore, 1) := by decide +kernel
theorem dX3_pulse_14 : decode cX3_pulse 14 = .ok (.aload_n 0, 1) := by decide +kernel
theorem dX3_pulse_15 : decode cX3_pulse 15 = .ok (.invokevirtual 171, 3) := by decide +kernel
theorem dX3_pulse_18 : decode cX3_pulse 18 = .ok (.iload_n 1, 1) := by decide +kernel
theorem dX3_pulse_19 : decode cX3_pulse 19 = .ok (.invokestatic 175, 3) := by decide +kernel
theorem dX3_pulse_22 : decode cX3_pulse 22 = .ok (.land, 1) := by decide +kernel
theorem dX3_pulse_23 : decode cX3_pulse 23 = .ok (.lstore_n 3, 1) := by decide +kernel
theorem dX3_pulse_24 : decode cX3_pulse 24 = .ok (.iconst 0, 1) := by decide +kernel
theorem dX3_pulse_25 : decode cX3_pulse 25 = .ok (.istore 5, 2) := by decide +kernel
theorem dX3_pulse_27 : decode cX3_pulse 27 = .ok (.iload 5, 2) := by decide +kernel
theorem dX3_pulse_29 : decode cX3_pulse 29 = .ok (.bipush 64, 2) := by decide +kernel
theorem dX3_pulse_31 : decode cX3_pulse 31 = .ok (.if_icmp .ge 35, 3) := by decide +kernel
theorem dX3_pulse_34 : decode cX3_pulse 34 = .ok (.lload_n 3, 1) := by decide +kernel
theorem dX3_pulse_35 : decode cX3_pulse 35 = .ok (.lconst 0, 1) := by decide +kernel
theorem dX3_pulse_36 : decode cX3_pulse 36 = .ok (.lcmp, 1) := by decide +kernel
theorem dX3_pulse_37 : decode cX3_pulse 37 = .ok (.ifCond .eq 29, 3) := by decide +kernel
theorem dX3_pulse_40 : decode cX3_pulse 40 = .ok (.lload_n 3, 1) := by decide +kernel
theorem dX3_pulse_41 : decode cX3_pulse 41 = .ok (.iload 5, 2) := by decide +kernel
theorem dX3_pulse_43 : decode cX3_pulse 43 = .ok (.invokestatic 178, 3) := by decide +kernel
theorem dX3_pulse_46 : decode cX3_pulse 46 = .ok (.land, 1) := by decide +kernel
theorem dX3_pulse_47 : decode cX3_pulse 47 = .ok (.lconst 0, 1) := by decide +kernel
theorem dX3_pulse_48 : decode cX3_pulse 48 = .ok (.lcmp, 1) := by decide +kernel
theorem dX3_pulse_49 : decode cX3_pulse 49 = .ok (.ifCond .eq 11, 3) := by decide +kernel
theorem dX3_pulse_52 : decode cX3_pulse 52 = .ok (.aload_n 0, 1) := by decide +kernel
theorem dX3_pulse_53 : decode cX3_pulse 53 = .ok (.iload 5, 2) := by decide +kernel
theorem dX3_pulse_55 : decode cX3_pulse 55 = .ok (.bipush 13, 2) := by decide +kernel
theorem dX3_pulse_57 : decode cX3_pulse 57 = .ok (.invokevirtual 181, 3) := by decide +kernel
theorem dX3_pulse_60 : decode cX3_pulse 60 = .ok (.iinc 5 1, 3) := by decide +kernel
theorem dX3_pulse_63 : decode cX3_pulse 63 = .ok (.goto (-36), 3) := by decide +kernel
theorem dX3_pulse_66 : decode cX3_pulse 66 = .ok (.aload_n 0, 1) := by decide +kernel
theorem dX3_pulse_67 : decode cX3_pulse 67 = .ok (.aload_n 0, 1) := by decide +kernel
theorem dX3_pulse_68 : decode cX3_pulse 68 = .ok (.iload_n 2, 1) := by decide +kernel
theorem dX3_pulse_69 : decode cX3_pulse 69 = .ok (.invokevirtual 184, 3) := by decide +kernel
theorem dX3_pulse_72 : decode cX3_pulse 72 = .ok (.putfield 15, 3) := by decide +kernel
theorem dX3_pulse_75 : decode cX3_pulse 75 = .ok (.return_, 1) := by decide +kernel
theorem dX3_holdsOne_0 : decode cX3_holdsOne 0 = .ok (.aload_n 0, 1) := by decide +kernel
theorem dX3_holdsOne_1 : decode cX3_holdsOne 1 = .ok (.getfield 31, 3) := by decide +kernel
theorem dX3_holdsOne_4 : decode cX3_holdsOne 4 = .ok (.getfield 105, 3) := by decide +kernel
theorem dX3_holdsOne_7 : decode cX3_holdsOne 7 = .ok (.iload_n 1, 1) := by decide +kernel
theorem dX3_holdsOne_8 : decode cX3_holdsOne 8 = .ok (.iaload, 1) := by decide +kernel
theorem dX3_holdsOne_9 : decode cX3_holdsOne 9 = .ok (.aload_n 0, 1) := by decide +kernel
theorem dX3_holdsOne_10 : decode cX3_holdsOne 10 = .ok (.getfield 21, 3) := by decide +kernel
theorem dX3_holdsOne_13 : decode cX3_holdsOne 13 = .ok (.iconst 4, 1) := by decide +kernel
theorem dX3_holdsOne_14 : decode cX3_holdsOne 14 = .ok (.iaload, 1) := by decide +kernel
theorem dX3_holdsOne_15 : decode cX3_holdsOne 15 = .ok (.if_icmp .lt 7, 3) := by decide +kernel
theorem dX3_holdsOne_18 : decode cX3_holdsOne 18 = .ok (.iconst 1, 1) := by decide +kernel
theorem dX3_holdsOne_19 : decode cX3_holdsOne 19 = .ok (.goto 4, 3) := by decide +kernel
theorem dX3_holdsOne_22 : decode cX3_holdsOne 22 = .ok (.iconst 0, 1) := by decide +kernel
theorem dX3_holdsOne_23 : decode cX3_holdsOne 23 = .ok (.ireturn, 1) := by decide +kernel
theorem dX3_writeBit_0 : decode cX3_writeBit 0 = .ok (.aload_n 0, 1) := by decide +kernel
theorem dX3_writeBit_1 : decode cX3_writeBit 1 = .ok (.iload_n 1, 1) := by decide +kernel
theorem dX3_writeBit_2 : decode cX3_writeBit 2 = .ok (.aload_n 0, 1) := by decide +kernel
theorem dX3_writeBit_3 : decode cX3_writeBit 3 = .ok (.getfield 21, 3) := by decide +kernel
theorem dX3_writeBit_6 : decode cX3_writeBit 6 = .ok (.iconst 1, 1) := by decide +kernel
theorem dX3_writeBit_7 : decode cX3_writeBit 7 = .ok (.iaload, 1) := by decide +kernel
theorem dX3_writeBit_8 : decode cX3_writeBit 8 = .ok (.invokevirtual 187, 3) := by decide +kernel
theorem dX3_writeBit_11 : decode cX3_writeBit 11 = .ok (.aload_n 0, 1) := by decide +kernel
theorem dX3_writeBit_12 : decode cX3_writeBit 12 = .ok (.getfield 31, 3) := by decide +kernel
theorem dX3_writeBit_15 : decode cX3_writeBit 15 = .ok (.iload_n 1, 1) := by decide +kernel
theorem dX3_writeBit_16 : decode cX3_writeBit 16 = .ok (.iload_n 2, 1) := by decide +kernel
theorem dX3_writeBit_17 : decode cX3_writeBit 17 = .ok (.ifCond .eq 15, 3) := by decide +kernel
theorem dX3_writeBit_20 : decode cX3_writeBit 20 = .ok (.aload_n 0, 1) := by decide +kernel
theorem dX3_writeBit_21 : decode cX3_writeBit 21 = .ok (.iload_n 1, 1) := by decide +kernel
theorem dX3_writeBit_22 : decode cX3_writeBit 22 = .ok (.invokevirtual 190, 3) := by decide +kernel
theorem dX3_writeBit_25 : decode cX3_writeBit 25 = .ok (.ifCond .eq 7, 3) := by decide +kernel
theorem dX3_writeBit_28 : decode cX3_writeBit 28 = .ok (.iconst 1, 1) := by decide +kernel
theorem dX3_writeBit_29 : decode cX3_writeBit 29 = .ok (.goto 4, 3) := by decide +kernel
theorem dX3_writeBit_32 : decode cX3_writeBit 32 = .ok (.iconst 0, 1) := by decide +kernel
theorem dX3_writeBit_33 : decode cX3_writeBit 33 = .ok (.invokevirtual 124, 3) := by decide +kernel
theorem dX3_writeBit_36 : decode cX3_writeBit 36 = .ok (.aload_n 0, 1) := by decide +kernel
theorem dX3_writeBit_37 : decode cX3_writeBit 37 = .ok (.getfield 38, 3) := by decide +kernel
theorem dX3_writeBit_40 : decode cX3_writeBit 40 = .ok (.iload_n 1, 1) := by decide +kernel
theorem dX3_writeBit_41 : decode cX3_writeBit 41 = .ok (.invokevirtual 152, 3) := by decide +kernel
theorem dX3_writeBit_44 : decode cX3_writeBit 44 = .ok (.ifCond .eq 22, 3) := by decide +kernel
theorem dX3_writeBit_47 : decode cX3_writeBit 47 = .ok (.aload_n 0, 1) := by decide +kernel
theorem dX3_writeBit_48 : decode cX3_writeBit 48 = .ok (.getfield 38, 3) := by decide +kernel
theorem dX3_writeBit_51 : decode cX3_writeBit 51 = .ok (.iload_n 1, 1) := by decide +kernel
theorem dX3_writeBit_52 : decode cX3_writeBit 52 = .ok (.invokevirtual 193, 3) := by decide +kernel
theorem dX3_writeBit_55 : decode cX3_writeBit 55 = .ok (.aload_n 0, 1) := by decide +kernel
theorem dX3_writeBit_56 : decode cX3_writeBit 56 = .ok (.getfield 25, 3) := by decide +kernel
theorem dX3_writeBit_59 : decode cX3_writeBit 59 = .ok (.bipush 14, 2) := by decide +kernel
theorem dX3_writeBit_61 : decode cX3_writeBit 61 = .ok (.dup2, 1) := by decide +kernel
theorem dX3_writeBit_62 : decode cX3_writeBit 62 = .ok (.iaload, 1) := by decide +kernel
theorem dX3_writeBit_63 : decode cX3_writeBit 63 = .ok (.iconst 1, 1) := by decide +kernel
theorem dX3_writeBit_64 : decode cX3_writeBit 64 = .ok (.iadd, 1) := by decide +kernel
theorem dX3_writeBit_65 : decode cX3_writeBit 65 = .ok (.iastore, 1) := by decide +kernel
theorem dX3_writeBit_66 : decode cX3_writeBit 66 = .ok (.return_, 1) := by decide +kernel
theorem dX3_readBit_0 : decode cX3_readBit 0 = .ok (.aload_n 0, 1) := by decide +kernel
theorem dX3_readBit_1 : decode cX3_readBit 1 = .ok (.iload_n 1, 1) := by decide +kernel
theorem dX3_readBit_2 : decode cX3_readBit 2 = .ok (.aload_n 0, 1) := by decide +kernel
theorem dX3_readBit_3 : decode cX3_readBit 3 = .ok (.getfield 21, 3) := by decide +kernel
theorem dX3_readBit_6 : decode cX3_readBit 6 = .ok (.iconst 2, 1) := by decide +kernel
theorem dX3_readBit_7 : decode cX3_readBit 7 = .ok (.iaload, 1) := by decide +kernel
theorem dX3_readBit_8 : decode cX3_readBit 8 = .ok (.invokevirtual 187, 3) := by decide +kernel
theorem dX3_readBit_11 : decode cX3_readBit 11 = .ok (.aload_n 0, 1) := by decide +kernel
theorem dX3_readBit_12 : decode cX3_readBit 12 = .ok (.getfield 25, 3) := by decide +kernel
theorem dX3_readBit_15 : decode cX3_readBit 15 = .ok (.bipush 8, 2) := by decide +kernel
theorem dX3_readBit_17 : decode cX3_readBit 17 = .ok (.dup2, 1) := by decide +kernel
theorem dX3_readBit_18 : decode cX3_readBit 18 = .ok (.iaload, 1) := by decide +kernel
theorem dX3_readBit_19 : decode cX3_readBit 19 = .ok (.iconst 1, 1) := by decide +kernel
theorem dX3_readBit_20 : decode cX3_readBit 20 = .ok (.iadd, 1) := by decide +kernel
theorem dX3_readBit_21 : decode cX3_readBit 21 = .ok (.iastore, 1) := by decide +kernel
theorem dX3_readBit_22 : decode cX3_readBit 22 = .ok (.aload_n 0, 1) := by decide +kernel
theorem dX3_readBit_23 : decode cX3_readBit 23 = .ok (.getfield 31, 3) := by decide +kernel
theorem dX3_readBit_26 : decode cX3_readBit 26 = .ok (.iload_n 1, 1) := by decide +kernel
theorem dX3_readBit_27 : decode cX3_readBit 27 = .ok (.invokevirtual 196, 3) := by decide +kernel
theorem dX3_readBit_30 : decode cX3_readBit 30 = .ok (.ifCond .ne 5, 3) := by decide +kernel
theorem dX3_readBit_33 : decode cX3_readBit 33 = .ok (.iconst 0, 1) := by decide +kernel
theorem dX3_readBit_34 : decode cX3_readBit 34 = .ok (.ireturn, 1) := by decide +kernel
theorem dX3_readBit_35 : decode cX3_readBit 35 = .ok (.aload_n 0, 1) := by decide +kernel
theorem dX3_readBit_36 : decode cX3_readBit 36 = .ok (.getfield 25, 3) := by decide +kernel
theorem dX3_readBit_39 : decode cX3_readBit 39 = .ok (.bipush 9, 2) := by decide +kernel
theorem dX3_readBit_41 : decode cX3_readBit 41 = .ok (.dup2, 1) := by decide +kernel
theorem dX3_readBit_42 : decode cX3_readBit 42 = .ok (.iaload, 1) := by decide +kernel
theorem dX3_readBit_43 : decode cX3_readBit 43 = .ok (.iconst 1, 1) := by decide +kernel
theorem dX3_readBit_44 : decode cX3_readBit 44 = .ok (.iadd, 1) := by decide +kernel
theorem dX3_readBit_45 : decode cX3_readBit 45 = .ok (.iastore, 1) := by decide +kernel
theorem dX3_readBit_46 : decode cX3_readBit 46 = .ok (.aload_n 0, 1) := by decide +kernel
theorem dX3_readBit_47 : decode cX3_readBit 47 = .ok (.getfield 31, 3) := by decide +kernel
theorem dX3_readBit_50 : decode cX3_readBit 50 = .ok (.iload_n 1, 1) := by decide +kernel
theorem dX3_readBit_51 : decode cX3_readBit 51 = .ok (.iconst 0, 1) := by decide +kernel
theorem dX3_readBit_52 : decode cX3_readBit 52 = .ok (.invokevirtual 124, 3) := by decide +kernel
theorem dX3_readBit_55 : decode cX3_readBit 55 = .ok (.aload_n 0, 1) := by decide +kernel
theorem dX3_readBit_56 : decode cX3_readBit 56 = .ok (.getfield 38, 3) := by decide +kernel
theorem dX3_readBit_59 : decode cX3_readBit 59 = .ok (.iload_n 1, 1) := by decide +kernel
theorem dX3_readBit_60 : decode cX3_readBit 60 = .ok (.aload_n 0, 1) := by decide +kernel
theorem dX3_readBit_61 : decode cX3_readBit 61 = .ok (.getfield 9, 3) := by decide +kernel
theorem dX3_readBit_64 : decode cX3_readBit 64 = .ok (.aload_n 0, 1) := by decide +kernel
theorem dX3_readBit_65 : decode cX3_readBit 65 = .ok (.getfield 21, 3) := by decide +kernel
theorem dX3_readBit_68 : decode cX3_readBit 68 = .ok (.iconst 3, 1) := by decide +kernel
theorem dX3_readBit_69 : decode cX3_readBit 69 = .ok (.iaload, 1) := by decide +kernel
theorem dX3_readBit_70 : decode cX3_readBit 70 = .ok (.iadd, 1) := by decide +kernel
theorem dX3_readBit_71 : decode cX3_readBit 71 = .ok (.invokevirtual 199, 3) := by decide +kernel
theorem dX3_readBit_74 : decode cX3_readBit 74 = .ok (.iconst 1, 1) := by decide +kernel
theorem dX3_readBit_75 : decode cX3_readBit 75 = .ok (.ireturn, 1) := by decide +kernel
theorem dX3_writeFirstBack_0 : decode cX3_writeFirstBack 0 = .ok (.aload_n 0, 1) := by decide +kernel
theorem dX3_writeFirstBack_1 : decode cX3_writeFirstBack 1 = .ok (.getfield 38, 3) := by decide +kernel
theorem dX3_writeFirstBack_4 : decode cX3_writeFirstBack 4 = .ok (.invokevirtual 202, 3) := by decide +kernel
theorem dX3_writeFirstBack_7 : decode cX3_writeFirstBack 7 = .ok (.istore_n 1, 1) := by decide +kernel
theorem dX3_writeFirstBack_8 : decode cX3_writeFirstBack 8 = .ok (.iload_n 1, 1) := by decide +kernel
theorem dX3_writeFirstBack_9 : decode cX3_writeFirstBack 9 = .ok (.invokestatic 206, 3) := by decide +kernel
theorem dX3_writeFirstBack_12 : decode cX3_writeFirstBack 12 = .ok (.ifCond .ne 5, 3) := by decide +kernel
theorem dX3_writeFirstBack_15 : decode cX3_writeFirstBack 15 = .ok (.iconst (-1), 1) := by decide +kernel
theorem dX3_writeFirstBack_16 : decode cX3_writeFirstBack 16 = .ok (.ireturn, 1) := by decide +kernel
theorem dX3_writeFirstBack_17 : decode cX3_writeFirstBack 17 = .ok (.aload_n 0, 1) := by decide +kernel
theorem dX3_writeFirstBack_18 : decode cX3_writeFirstBack 18 = .ok (.iload_n 1, 1) := by decide +kernel
theorem dX3_writeFirstBack_19 : decode cX3_writeFirstBack 19 = .ok (.aload_n 0, 1) := by decide +kernel
theorem dX3_writeFirstBack_20 : decode cX3_writeFirstBack 20 = .ok (.getfield 21, 3) := by decide +kernel
theorem dX3_writeFirstBack_23 : decode cX3_writeFirstBack 23 = .ok (.iconst 1, 1) := by decide +kernel
theorem dX3_writeFirstBack_24 : decode cX3_writeFirstBack 24 = .ok (.iaload, 1) := by decide +kernel
theorem dX3_writeFirstBack_25 : decode cX3_writeFirstBack 25 = .ok (.invokevirtual 187, 3) := by decide +kernel
theorem dX3_writeFirstBack_28 : decode cX3_writeFirstBack 28 = .ok (.aload_n 0, 1) := by decide +kernel
theorem dX3_writeFirstBack_29 : decode cX3_writeFirstBack 29 = .ok (.getfield 38, 3) := by decide +kernel
theorem dX3_writeFirstBack_32 : decode cX3_writeFirstBack 32 = .ok (.iload_n 1, 1) := by decide +kernel
theorem dX3_writeFirstBack_33 : decode cX3_writeFirstBack 33 = .ok (.invokevirtual 193, 3) := by decide +kernel
theorem dX3_writeFirstBack_36 : decode cX3_writeFirstBack 36 = .ok (.aload_n 0, 1) := by decide +kernel
theorem dX3_writeFirstBack_37 : decode cX3_writeFirstBack 37 = .ok (.iload_n 1, 1) := by decide +kernel
theorem dX3_writeFirstBack_38 : decode cX3_writeFirstBack 38 = .ok (.invokevirtual 190, 3) := by decide +kernel
theorem dX3_writeFirstBack_41 : decode cX3_writeFirstBack 41 = .ok (.ifCond .eq 26, 3) := by decide +kernel
theorem dX3_writeFirstBack_44 : decode cX3_writeFirstBack 44 = .ok (.aload_n 0, 1) := by decide +kernel
theorem dX3_writeFirstBack_45 : decode cX3_writeFirstBack 45 = .ok (.getfield 31, 3) := by decide +kernel
theorem dX3_writeFirstBack_48 : decode cX3_writeFirstBack 48 = .ok (.iload_n 1, 1) := by decide +kernel
theorem dX3_writeFirstBack_49 : decode cX3_writeFirstBack 49 = .ok (.iconst 1, 1) := by decide +kernel
theorem dX3_writeFirstBack_50 : decode cX3_writeFirstBack 50 = .ok (.invokevirtual 124, 3) := by decide +kernel
theorem dX3_writeFirstBack_53 : decode cX3_writeFirstBack 53 = .ok (.aload_n 0, 1) := by decide +kernel
theorem dX3_writeFirstBack_54 : decode cX3_writeFirstBack 54 = .ok (.getfield 25, 3) := by decide +kernel
theorem dX3_writeFirstBack_57 : decode cX3_writeFirstBack 57 = .ok (.bipush 10, 2) := by decide +kernel
theorem dX3_writeFirstBack_59 : decode cX3_writeFirstBack 59 = .ok (.dup2, 1) := by decide +kernel
theorem dX3_writeFirstBack_60 : decode cX3_writeFirstBack 60 = .ok (.iaload, 1) := by decide +kernel
theorem dX3_writeFirstBack_61 : decode cX3_writeFirstBack 61 = .ok (.iconst 1, 1) := by decide +kernel
theorem dX3_writeFirstBack_62 : decode cX3_writeFirstBack 62 = .ok (.iadd, 1) := by decide +kernel
theorem dX3_writeFirstBack_63 : decode cX3_writeFirstBack 63 = .ok (.iastore, 1) := by decide +kernel
theorem dX3_writeFirstBack_64 : decode cX3_writeFirstBack 64 = .ok (.goto 10, 3) := by decide +kernel
theorem dX3_writeFirstBack_67 : decode cX3_writeFirstBack 67 = .ok (.aload_n 0, 1) := by decide +kernel
theorem dX3_writeFirstBack_68 : decode cX3_writeFirstBack 68 = .ok (.iload_n 1, 1) := by decide +kernel
theorem dX3_writeFirstBack_69 : decode cX3_writeFirstBack 69 = .ok (.bipush 11, 2) := by decide +kernel
theorem dX3_writeFirstBack_71 : decode cX3_writeFirstBack 71 = .ok (.invokevirtual 181, 3) := by decide +kernel
theorem dX3_writeFirstBack_74 : decode cX3_writeFirstBack 74 = .ok (.iload_n 1, 1) := by decide +kernel
theorem dX3_writeFirstBack_75 : decode cX3_writeFirstBack 75 = .ok (.ireturn, 1) := by decide +kernel
theorem dX3_letPass_0 : decode cX3_letPass 0 = .ok (.iconst 0, 1) := by decide +kernel
theorem dX3_letPass_1 : decode cX3_letPass 1 = .ok (.istore_n 2, 1) := by decide +kernel
theorem dX3_letPass_2 : decode cX3_letPass 2 = .ok (.iload_n 2, 1) := by decide +kernel
theorem dX3_letPass_3 : decode cX3_letPass 3 = .ok (.iload_n 1, 1) := by decide +kernel
theorem dX3_letPass_4 : decode cX3_letPass 4 = .ok (.if_icmp .ge 13, 3) := by decide +kernel
theorem dX3_letPass_7 : decode cX3_letPass 7 = .ok (.aload_n 0, 1) := by decide +kernel
theorem dX3_letPass_8 : decode cX3_letPass 8 = .ok (.invokevirtual 209, 3) := by decide +kernel
theorem dX3_letPass_11 : decode cX3_letPass 11 = .ok (.iinc 2 1, 3) := by decide +kernel
theorem dX3_letPass_14 : decode cX3_letPass 14 = .ok (.goto (-12), 3) := by decide +kernel
theorem dX3_letPass_17 : decode cX3_letPass 17 = .ok (.return_, 1) := by decide +kernel
theorem dX3_tick_0 : decode cX3_tick 0 = .ok (.aload_n 0, 1) := by decide +kernel
theorem dX3_tick_1 : decode cX3_tick 1 = .ok (.dup, 1) := by decide +kernel
theorem dX3_tick_2 : decode cX3_tick 2 = .ok (.getfield 9, 3) := by decide +kernel
theorem dX3_tick_5 : decode cX3_tick 5 = .ok (.iconst 1, 1) := by decide +kernel
theorem dX3_tick_6 : decode cX3_tick 6 = .ok (.iadd, 1) := by decide +kernel
theorem dX3_tick_7 : decode cX3_tick 7 = .ok (.putfield 9, 3) := by decide +kernel
theorem dX3_tick_10 : decode cX3_tick 10 = .ok (.aload_n 0, 1) := by decide +kernel
theorem dX3_tick_11 : decode cX3_tick 11 = .ok (.iconst 0, 1) := by decide +kernel
theorem dX3_tick_12 : decode cX3_tick 12 = .ok (.aload_n 0, 1) := by decide +kernel
theorem dX3_tick_13 : decode cX3_tick 13 = .ok (.getfield 15, 3) := by decide +kernel
theorem dX3_tick_16 : decode cX3_tick 16 = .ok (.aload_n 0, 1) := by decide +kernel
theorem dX3_tick_17 : decode cX3_tick 17 = .ok (.getfield 21, 3) := by decide +kernel
theorem dX3_tick_20 : decode cX3_tick 20 = .ok (.bipush 6, 2) := by decide +kernel
theorem dX3_tick_22 : decode cX3_tick 22 = .ok (.iaload, 1) := by decide +kernel
theorem dX3_tick_23 : decode cX3_tick 23 = .ok (.isub, 1) := by decide +kernel
theorem dX3_tick_24 : decode cX3_tick 24 = .ok (.invokestatic 159, 3) := by decide +kernel
theorem dX3_tick_27 : decode cX3_tick 27 = .ok (.putfield 15, 3) := by decide +kernel
theorem dX3_tick_30 : decode cX3_tick 30 = .ok (.aload_n 0, 1) := by decide +kernel
theorem dX3_tick_31 : decode cX3_tick 31 = .ok (.invokevirtual 212, 3) := by decide +kernel
theorem dX3_tick_34 : decode cX3_tick 34 = .ok (.iconst 0, 1) := by decide +kernel
theorem dX3_tick_35 : decode cX3_tick 35 = .ok (.istore_n 1, 1) := by decide +kernel
theorem dX3_tick_36 : decode cX3_tick 36 = .ok (.iload_n 1, 1) := by decide +kernel
theorem dX3_tick_37 : decode cX3_tick 37 = .ok (.bipush 64, 2) := by decide +kernel
theorem dX3_tick_39 : decode cX3_tick 39 = .ok (.if_icmp .ge 76, 3) := by decide +kernel
theorem dX3_tick_42 : decode cX3_tick 42 = .ok (.aload_n 0, 1) := by decide +kernel
theorem dX3_tick_43 : decode cX3_tick 43 = .ok (.getfield 31, 3) := by decide +kernel
theorem dX3_tick_46 : decode cX3_tick 46 = .ok (.iload_n 1, 1) := by decide +kernel
theorem dX3_tick_47 : decode cX3_tick 47 = .ok (.invokevirtual 89, 3) := by decide +kernel
theorem dX3_tick_50 : decode cX3_tick 50 = .ok (.ifCond .eq 27, 3) := by decide +kernel
theorem dX3_tick_53 : decode cX3_tick 53 = .ok (.aload_n 0, 1) := by decide +kernel
theorem dX3_tick_54 : decode cX3_tick 54 = .ok (.getfield 31, 3) := by decide +kernel
theorem dX3_tick_57 : decode cX3_tick 57 = .ok (.getfield 92, 3) := by decide +kernel
theorem dX3_tick_60 : decode cX3_tick 60 = .ok (.iload_n 1, 1) := by decide +kernel
theorem dX3_tick_61 : decode cX3_tick 61 = .ok (.iaload, 1) := by decide +kernel
theorem dX3_tick_62 : decode cX3_tick 62 = .ok (.aload_n 0, 1) := by decide +kernel
theorem dX3_tick_63 : decode cX3_tick 63 = .ok (.getfield 9, 3) := by decide +kernel
theorem dX3_tick_66 : decode cX3_tick 66 = .ok (.if_icmp .gt 11, 3) := by decide +kernel
theorem dX3_tick_69 : decode cX3_tick 69 = .ok (.aload_n 0, 1) := by decide +kernel
theorem dX3_tick_70 : decode cX3_tick 70 = .ok (.getfield 31, 3) := by decide +kernel
theorem dX3_tick_73 : decode cX3_tick 73 = .ok (.iload_n 1, 1) := by decide +kernel
theorem dX3_tick_74 : decode cX3_tick 74 = .ok (.invokevirtual 136, 3) := by decide +kernel
theorem dX3_tick_77 : decode cX3_tick 77 = .ok (.aload_n 0, 1) := by decide +kernel
theorem dX3_tick_78 : decode cX3_tick 78 = .ok (.getfield 31, 3) := by decide +kernel
theorem dX3_tick_81 : decode cX3_tick 81 = .ok (.iload_n 1, 1) := by decide +kernel
theorem dX3_tick_82 : decode cX3_tick 82 = .ok (.invokevirtual 82, 3) := by decide +kernel
theorem dX3_tick_85 : decode cX3_tick 85 = .ok (.ifCond .eq 24, 3) := by decide +kernel
theorem dX3_tick_88 : decode cX3_tick 88 = .ok (.aload_n 0, 1) := by decide +kernel
theorem dX3_tick_89 : decode cX3_tick 89 = .ok (.getfield 31, 3) := by decide +kernel
theorem dX3_tick_92 : decode cX3_tick 92 = .ok (.getfield 86, 3) := by decide +kernel
theorem dX3_tick_95 : decode cX3_tick 95 = .ok (.iload_n 1, 1) := by decide +kernel
theorem dX3_tick_96 : decode cX3_tick 96 = .ok (.iaload, 1) := by decide +kernel
theorem dX3_tick_97 : decode cX3_tick 97 = .ok (.aload_n 0, 1) := by decide +kernel
theorem dX3_tick_98 : decode cX3_tick 98 = .ok (.getfield 9, 3) := by decide +kernel
theorem dX3_tick_101 : decode cX3_tick 101 = .ok (.if_icmp .gt 8, 3) := by decide +kernel
theorem dX3_tick_104 : decode cX3_tick 104 = .ok (.aload_n 0, 1) := by decide +kernel
theorem dX3_tick_105 : decode cX3_tick 105 = .ok (.iload_n 1, 1) := by decide +kernel
theorem dX3_tick_106 : decode cX3_tick 106 = .ok (.invokevirtual 215, 3) := by decide +kernel
theorem dX3_tick_109 : decode cX3_tick 109 = .ok (.iinc 1 1, 3) := by decide +kernel
theorem dX3_tick_112 : decode cX3_tick 112 = .ok (.goto (-76), 3) := by decide +kernel
theorem dX3_tick_115 : decode cX3_tick 115 = .ok (.return_, 1) := by decide +kernel
theorem dX3_loseLateBits_0 : decode cX3_loseLateBits 0 = .ok (.iconst 0, 1) := by decide +kernel
theorem dX3_loseLateBits_1 : decode cX3_loseLateBits 1 = .ok (.istore_n 1, 1) := by decide +kernel
theorem dX3_loseLateBits_2 : decode cX3_loseLateBits 2 = .ok (.iload_n 1, 1) := by decide +kernel
theorem dX3_loseLateBits_3 : decode cX3_loseLateBits 3 = .ok (.bipush 64, 2) := by decide +kernel
theorem dX3_loseLateBits_5 : decode cX3_loseLateBits 5 = .ok (.if_icmp .ge 55, 3) := by decide +kernel
theorem dX3_loseLateBits_8 : decode cX3_loseLateBits 8 = .ok (.aload_n 0, 1) := by decide +kernel
theorem dX3_loseLateBits_9 : decode cX3_loseLateBits 9 = .ok (.getfield 38, 3) := by decide +kernel
theorem dX3_loseLateBits_12 : decode cX3_loseLateBits 12 = .ok (.invokevirtual 202, 3) := by decide +kernel
theorem dX3_loseLateBits_15 : decode cX3_loseLateBits 15 = .ok (.istore_n 2, 1) := by decide +kernel
theorem dX3_loseLateBits_16 : decode cX3_loseLateBits 16 = .ok (.iload_n 2, 1) := by decide +kernel
theorem dX3_loseLateBits_17 : decode cX3_loseLateBits 17 = .ok (.invokestatic 206, 3) := by decide +kernel
theorem dX3_loseLateBits_20 : decode cX3_loseLateBits 20 = .ok (.ifCond .eq 18, 3) := by decide +kernel
theorem dX3_loseLateBits_23 : decode cX3_loseLateBits 23 = .ok (.aload_n 0, 1) := by decide +kernel
theorem dX3_loseLateBits_24 : decode cX3_loseLateBits 24 = .ok (.getfield 38, 3) := by decide +kernel
theorem dX3_loseLateBits_27 : decode cX3_loseLateBits 27 = .ok (.iload_n 2, 1) := by decide +kernel
theorem dX3_loseLateBits_28 : decode cX3_loseLateBits 28 = .ok (.invokevirtual 218, 3) := by decide +kernel
theorem dX3_loseLateBits_31 : decode cX3_loseLateBits 31 = .ok (.aload_n 0, 1) := by decide +kernel
theorem dX3_loseLateBits_32 : decode cX3_loseLateBits 32 = .ok (.getfield 9, 3) := by decide +kernel
theorem dX3_loseLateBits_35 : decode cX3_loseLateBits 35 = .ok (.if_icmp .lt 4, 3) := by decide +kernel
theorem dX3_loseLateBits_38 : decode cX3_loseLateBits 38 = .ok (.return_, 1) := by decide +kernel
theorem dX3_loseLateBits_39 : decode cX3_loseLateBits 39 = .ok (.aload_n 0, 1) := by decide +kernel
theorem dX3_loseLateBits_40 : decode cX3_loseLateBits 40 = .ok (.getfield 38, 3) := by decide +kernel
theorem dX3_loseLateBits_43 : decode cX3_loseLateBits 43 = .ok (.iload_n 2, 1) := by decide +kernel
theorem dX3_loseLateBits_44 : decode cX3_loseLateBits 44 = .ok (.invokevirtual 193, 3) := by decide +kernel
theorem dX3_loseLateBits_47 : decode cX3_loseLateBits 47 = .ok (.aload_n 0, 1) := by decide +kernel
theorem dX3_loseLateBits_48 : decode cX3_loseLateBits 48 = .ok (.iload_n 2, 1) := by decide +kernel
theorem dX3_loseLateBits_49 : decode cX3_loseLateBits 49 = .ok (.bipush 12, 2) := by decide +kernel
theorem dX3_loseLateBits_51 : decode cX3_loseLateBits 51 = .ok (.invokevirtual 181, 3) := by decide +kernel
theorem dX3_loseLateBits_54 : decode cX3_loseLateBits 54 = .ok (.iinc 1 1, 3) := by decide +kernel
theorem dX3_loseLateBits_57 : decode cX3_loseLateBits 57 = .ok (.goto (-55), 3) := by decide +kernel
theorem dX3_loseLateBits_60 : decode cX3_loseLateBits 60 = .ok (.return_, 1) := by decide +kernel
theorem dX3_endLeaseOf_0 : decode cX3_endLeaseOf 0 = .ok (.aload_n 0, 1) := by decide +kernel
theorem dX3_endLeaseOf_1 : decode cX3_endLeaseOf 1 = .ok (.getfield 31, 3) := by decide +kernel
theorem dX3_endLeaseOf_4 : decode cX3_endLeaseOf 4 = .ok (.iload_n 1, 1) := by decide +kernel
theorem dX3_endLeaseOf_5 : decode cX3_endLeaseOf 5 = .ok (.invokevirtual 221, 3) := by decide +kernel
theorem dX3_endLeaseOf_8 : decode cX3_endLeaseOf 8 = .ok (.aload_n 0, 1) := by decide +kernel
theorem dX3_endLeaseOf_9 : decode cX3_endLeaseOf 9 = .ok (.getfield 38, 3) := by decide +kernel
theorem dX3_endLeaseOf_12 : decode cX3_endLeaseOf 12 = .ok (.iload_n 1, 1) := by decide +kernel
theorem dX3_endLeaseOf_13 : decode cX3_endLeaseOf 13 = .ok (.invokevirtual 152, 3) := by decide +kernel
theorem dX3_endLeaseOf_16 : decode cX3_endLeaseOf 16 = .ok (.ifCond .eq 22, 3) := by decide +kernel
theorem dX3_endLeaseOf_19 : decode cX3_endLeaseOf 19 = .ok (.aload_n 0, 1) := by decide +kernel
theorem dX3_endLeaseOf_20 : decode cX3_endLeaseOf 20 = .ok (.getfield 38, 3) := by decide +kernel
theorem dX3_endLeaseOf_23 : decode cX3_endLeaseOf 23 = .ok (.iload_n 1, 1) := by decide +kernel
theorem dX3_endLeaseOf_24 : decode cX3_endLeaseOf 24 = .ok (.invokevirtual 193, 3) := by decide +kernel
theorem dX3_endLeaseOf_27 : decode cX3_endLeaseOf 27 = .ok (.aload_n 0, 1) := by decide +kernel
theorem dX3_endLeaseOf_28 : decode cX3_endLeaseOf 28 = .ok (.getfield 25, 3) := by decide +kernel
theorem dX3_endLeaseOf_31 : decode cX3_endLeaseOf 31 = .ok (.bipush 15, 2) := by decide +kernel
theorem dX3_endLeaseOf_33 : decode cX3_endLeaseOf 33 = .ok (.dup2, 1) := by decide +kernel
theorem dX3_endLeaseOf_34 : decode cX3_endLeaseOf 34 = .ok (.iaload, 1) := by decide +kernel
theorem dX3_endLeaseOf_35 : decode cX3_endLeaseOf 35 = .ok (.iconst 1, 1) := by decide +kernel
theorem dX3_endLeaseOf_36 : decode cX3_endLeaseOf 36 = .ok (.iadd, 1) := by decide +kernel
theorem dX3_endLeaseOf_37 : decode cX3_endLeaseOf 37 = .ok (.iastore, 1) := by decide +kernel
theorem dX3_endLeaseOf_38 : decode cX3_endLeaseOf 38 = .ok (.return_, 1) := by decide +kernel
theorem dX4_init_0 : decode cX4_init 0 = .ok (.aload_n 0, 1) := by decide +kernel
theorem dX4_init_1 : decode cX4_init 1 = .ok (.invokespecial 3, 3) := by decide +kernel
theorem dX4_init_4 : decode cX4_init 4 = .ok (.aload_n 0, 1) := by decide +kernel
theorem dX4_init_5 : decode cX4_init 5 = .ok (.iconst 0, 1) := by decide +kernel
theorem dX4_init_6 : decode cX4_init 6 = .ok (.putfield 9, 3) := by decide +kernel
theorem dX4_init_9 : decode cX4_init 9 = .ok (.aload_n 0, 1) := by decide +kernel
theorem dX4_init_10 : decode cX4_init 10 = .ok (.bipush 6, 2) := by decide +kernel
theorem dX4_init_12 : decode cX4_init 12 = .ok (.anewarray 15, 3) := by decide +kernel
theorem dX4_init_15 : decode cX4_init 15 = .ok (.putfield 17, 3) := by decide +kernel
theorem dX4_init_18 : decode cX4_init 18 = .ok (.iconst 0, 1) := by decide +kernel
theorem dX4_init_19 : decode cX4_init 19 = .ok (.istore_n 1, 1) := by decide +kernel
theorem dX4_init_20 : decode cX4_init 20 = .ok (.iload_n 1, 1) := by decide +kernel
theorem dX4_init_21 : decode cX4_init 21 = .ok (.bipush 6, 2) := by decide +kernel
theorem dX4_init_23 : decode cX4_init 23 = .ok (.if_icmp .ge 22, 3) := by decide +kernel
theorem dX4_init_26 : decode cX4_init 26 = .ok (.aload_n 0, 1) := by decide +kernel
theorem dX4_init_27 : decode cX4_init 27 = .ok (.getfield 17, 3) := by decide +kernel
theorem dX4_init_30 : decode cX4_init 30 = .ok (.iload_n 1, 1) := by decide +kernel
theorem dX4_init_31 : decode cX4_init 31 = .ok (.new 15, 3) := by decide +kernel
theorem dX4_init_34 : decode cX4_init 34 = .ok (.dup, 1) := by decide +kernel
theorem dX4_init_35 : decode cX4_init 35 = .ok (.invokespecial 21, 3) := by decide +kernel
theorem dX4_init_38 : decode cX4_init 38 = .ok (.aastore, 1) := by decide +kernel
theorem dX4_init_39 : decode cX4_init 39 = .ok (.iinc 1 1, 3) := by decide +kernel
theorem dX4_init_42 : decode cX4_init 42 = .ok (.goto (-22), 3) := by decide +kernel
theorem dX4_init_45 : decode cX4_init 45 = .ok (.return_, 1) := by decide +kernel
theorem dX4_keep_0 : decode cX4_keep 0 = .ok (.aload_n 0, 1) := by decide +kernel
theorem dX4_keep_1 : decode cX4_keep 1 = .ok (.getfield 9, 3) := by decide +kernel
theorem dX4_keep_4 : decode cX4_keep 4 = .ok (.bipush 6, 2) := by decide +kernel
theorem dX4_keep_6 : decode cX4_keep 6 = .ok (.if_icmp .lt 7, 3) := by decide +kernel
theorem dX4_keep_9 : decode cX4_keep 9 = .ok (.aload_n 0, 1) := by decide +kernel
theorem dX4_keep_10 : decode cX4_keep 10 = .ok (.invokevirtual 22, 3) := by decide +kernel
theorem dX4_keep_13 : decode cX4_keep 13 = .ok (.aload_n 0, 1) := by decide +kernel
theorem dX4_keep_14 : decode cX4_keep 14 = .ok (.getfield 17, 3) := by decide +kernel
theorem dX4_keep_17 : decode cX4_keep 17 = .ok (.aload_n 0, 1) := by decide +kernel
theorem dX4_keep_18 : decode cX4_keep 18 = .ok (.getfield 9, 3) := by decide +kernel
theorem dX4_keep_21 : decode cX4_keep 21 = .ok (.aaload, 1) := by decide +kernel
theorem dX4_keep_22 : decode cX4_keep 22 = .ok (.aload_n 1, 1) := by decide +kernel
theorem dX4_keep_23 : decode cX4_keep 23 = .ok (.invokevirtual 25, 3) := by decide +kernel
theorem dX4_keep_26 : decode cX4_keep 26 = .ok (.aload_n 0, 1) := by decide +kernel
theorem dX4_keep_27 : decode cX4_keep 27 = .ok (.dup, 1) := by decide +kernel
theorem dX4_keep_28 : decode cX4_keep 28 = .ok (.getfield 9, 3) := by decide +kernel
theorem dX4_keep_31 : decode cX4_keep 31 = .ok (.iconst 1, 1) := by decide +kernel
theorem dX4_keep_32 : decode cX4_keep 32 = .ok (.iadd, 1) := by decide +kernel
theorem dX4_keep_33 : decode cX4_keep 33 = .ok (.putfield 9, 3) := by decide +kernel
theorem dX4_keep_36 : decode cX4_keep 36 = .ok (.return_, 1) := by decide +kernel
theorem dX4_dropOldest_0 : decode cX4_dropOldest 0 = .ok (.aload_n 0, 1) := by decide +kernel
theorem dX4_dropOldest_1 : decode cX4_dropOldest 1 = .ok (.getfield 17, 3) := by decide +kernel
theorem dX4_dropOldest_4 : decode cX4_dropOldest 4 = .ok (.iconst 0, 1) := by decide +kernel
theorem dX4_dropOldest_5 : decode cX4_dropOldest 5 = .ok (.aaload, 1) := by decide +kernel
theorem dX4_dropOldest_6 : decode cX4_dropOldest 6 = .ok (.astore_n 1, 1) := by decide +kernel
theorem dX4_dropOldest_7 : decode cX4_dropOldest 7 = .ok (.iconst 1, 1) := by decide +kernel
theorem dX4_dropOldest_8 : decode cX4_dropOldest 8 = .ok (.istore_n 2, 1) := by decide +kernel
theorem dX4_dropOldest_9 : decode cX4_dropOldest 9 = .ok (.iload_n 2, 1) := by decide +kernel
theorem dX4_dropOldest_10 : decode cX4_dropOldest 10 = .ok (.bipush 6, 2) := by decide +kernel
theorem dX4_dropOldest_12 : decode cX4_dropOldest 12 = .ok (.if_icmp .ge 23, 3) := by decide +kernel
theorem dX4_dropOldest_15 : decode cX4_dropOldest 15 = .ok (.aload_n 0, 1) := by decide +kernel
theorem dX4_dropOldest_16 : decode cX4_dropOldest 16 = .ok (.getfield 17, 3) := by decide +kernel
theorem dX4_dropOldest_19 : decode cX4_dropOldest 19 = .ok (.iload_n 2, 1) := by decide +kernel
theorem dX4_dropOldest_20 : decode cX4_dropOldest 20 = .ok (.iconst 1, 1) := by decide +kernel
theorem dX4_dropOldest_21 : decode cX4_dropOldest 21 = .ok (.isub, 1) := by decide +kernel
theorem dX4_dropOldest_22 : decode cX4_dropOldest 22 = .ok (.aload_n 0, 1) := by decide +kernel
theorem dX4_dropOldest_23 : decode cX4_dropOldest 23 = .ok (.getfield 17, 3) := by decide +kernel
theorem dX4_dropOldest_26 : decode cX4_dropOldest 26 = .ok (.iload_n 2, 1) := by decide +kernel
theorem dX4_dropOldest_27 : decode cX4_dropOldest 27 = .ok (.aaload, 1) := by decide +kernel
theorem dX4_dropOldest_28 : decode cX4_dropOldest 28 = .ok (.aastore, 1) := by decide +kernel
theorem dX4_dropOldest_29 : decode cX4_dropOldest 29 = .ok (.iinc 2 1, 3) := by decide +kernel
theorem dX4_dropOldest_32 : decode cX4_dropOldest 32 = .ok (.goto (-23), 3) := by decide +kernel
theorem dX4_dropOldest_35 : decode cX4_dropOldest 35 = .ok (.aload_n 0, 1) := by decide +kernel
theorem dX4_dropOldest_36 : decode cX4_dropOldest 36 = .ok (.getfield 17, 3) := by decide +kernel
theorem dX4_dropOldest_39 : decode cX4_dropOldest 39 = .ok (.iconst 5, 1) := by decide +kernel
theorem dX4_dropOldest_40 : decode cX4_dropOldest 40 = .ok (.aload_n 1, 1) := by decide +kernel
theorem dX4_dropOldest_41 : decode cX4_dropOldest 41 = .ok (.aastore, 1) := by decide +kernel
theorem dX4_dropOldest_42 : decode cX4_dropOldest 42 = .ok (.aload_n 0, 1) := by decide +kernel
theorem dX4_dropOldest_43 : decode cX4_dropOldest 43 = .ok (.iconst 5, 1) := by decide +kernel
theorem dX4_dropOldest_44 : decode cX4_dropOldest 44 = .ok (.putfield 9, 3) := by decide +kernel
theorem dX4_dropOldest_47 : decode cX4_dropOldest 47 = .ok (.return_, 1) := by decide +kernel
theorem dX4_restore_0 : decode cX4_restore 0 = .ok (.aload_n 0, 1) := by decide +kernel
theorem dX4_restore_1 : decode cX4_restore 1 = .ok (.getfield 9, 3) := by decide +kernel
theorem dX4_restore_4 : decode cX4_restore 4 = .ok (.ifCond .le 26, 3) := by decide +kernel
theorem dX4_restore_7 : decode cX4_restore 7 = .ok (.aload_n 0, 1) := by decide +kernel
theorem dX4_restore_8 : decode cX4_restore 8 = .ok (.dup, 1) := by decide +kernel
theorem dX4_restore_9 : decode cX4_restore 9 = .ok (.getfield 9, 3) := by decide +kernel
theorem dX4_restore_12 : decode cX4_restore 12 = .ok (.iconst 1, 1) := by decide +kernel
theorem dX4_restore_13 : decode cX4_restore 13 = .ok (.isub, 1) := by decide +kernel
theorem dX4_restore_14 : decode cX4_restore 14 = .ok (.putfield 9, 3) := by decide +kernel
theorem dX4_restore_17 : decode cX4_restore 17 = .ok (.aload_n 1, 1) := by decide +kernel
theorem dX4_restore_18 : decode cX4_restore 18 = .ok (.aload_n 0, 1) := by decide +kernel
theorem dX4_restore_19 : decode cX4_restore 19 = .ok (.getfield 17, 3) := by decide +kernel
theorem dX4_restore_22 : decode cX4_restore 22 = .ok (.aload_n 0, 1) := by decide +kernel
theorem dX4_restore_23 : decode cX4_restore 23 = .ok (.getfield 9, 3) := by decide +kernel
theorem dX4_restore_26 : decode cX4_restore 26 = .ok (.aaload, 1) := by decide +kernel
theorem dX4_restore_27 : decode cX4_restore 27 = .ok (.invokevirtual 25, 3) := by decide +kernel
theorem dX4_restore_30 : decode cX4_restore 30 = .ok (.return_, 1) := by decide +kernel
theorem dX5_init_0 : decode cX5_init 0 = .ok (.aload_n 0, 1) := by decide +kernel
theorem dX5_init_1 : decode cX5_init 1 = .ok (.invokespecial 3, 3) := by decide +kernel
theorem dX5_init_4 : decode cX5_init 4 = .ok (.aload_n 0, 1) := by decide +kernel
theorem dX5_init_5 : decode cX5_init 5 = .ok (.iconst 0, 1) := by decide +kernel
theorem dX5_init_6 : decode cX5_init 6 = .ok (.putfield 9, 3) := by decide +kernel
theorem dX5_init_9 : decode cX5_init 9 = .ok (.aload_n 0, 1) := by decide +kernel
theorem dX5_init_10 : decode cX5_init 10 = .ok (.bipush 6, 2) := by decide +kernel
theorem dX5_init_12 : decode cX5_init 12 = .ok (.newarray .int, 2) := by decide +kernel
theorem dX5_init_14 : decode cX5_init 14 = .ok (.putfield 15, 3) := by decide +kernel
theorem dX5_init_17 : decode cX5_init 17 = .ok (.aload_n 0, 1) := by decide +kernel
theorem dX5_init_18 : decode cX5_init 18 = .ok (.bipush 6, 2) := by decide +kernel
theorem dX5_init_20 : decode cX5_init 20 = .ok (.newarray .int, 2) := by decide +kernel
theorem dX5_init_22 : decode cX5_init 22 = .ok (.putfield 19, 3) := by decide +kernel
theorem dX5_init_25 : decode cX5_init 25 = .ok (.aload_n 0, 1) := by decide +kernel
theorem dX5_init_26 : decode cX5_init 26 = .ok (.bipush 6, 2) := by decide +kernel
theorem dX5_init_28 : decode cX5_init 28 = .ok (.newarray .int, 2) := by decide +kernel
theorem dX5_init_30 : decode cX5_init 30 = .ok (.putfield 22, 3) := by decide +kernel
theorem dX5_init_33 : decode cX5_init 33 = .ok (.return_, 1) := by decide +kernel
theorem dX5_become_0 : decode cX5_become 0 = .ok (.aload_n 0, 1) := by decide +kernel
theorem dX5_become_1 : decode cX5_become 1 = .ok (.aload_n 1, 1) := by decide +kernel
theorem dX5_become_2 : decode cX5_become 2 = .ok (.getfield 9, 3) := by decide +kernel
theorem dX5_become_5 : decode cX5_become 5 = .ok (.putfield 9, 3) := by decide +kernel
theorem dX5_become_8 : decode cX5_become 8 = .ok (.aload_n 1, 1) := by decide +kernel
theorem dX5_become_9 : decode cX5_become 9 = .ok (.getfield 15, 3) := by decide +kernel
theorem dX5_become_12 : decode cX5_become 12 = .ok (.aload_n 0, 1) := by decide +kernel
theorem dX5_become_13 : decode cX5_become 13 = .ok (.getfield 15, 3) := by decide +kernel
theorem dX5_become_16 : decode cX5_become 16 = .ok (.invokestatic 25, 3) := by decide +kernel
theorem dX5_become_19 : decode cX5_become 19 = .ok (.aload_n 1, 1) := by decide +kernel
theorem dX5_become_20 : decode cX5_become 20 = .ok (.getfield 19, 3) := by decide +kernel
theorem dX5_become_23 : decode cX5_become 23 = .ok (.aload_n 0, 1) := by decide +kernel
theorem dX5_become_24 : decode cX5_become 24 = .ok (.getfield 19, 3) := by decide +kernel
theorem dX5_become_27 : decode cX5_become 27 = .ok (.invokestatic 25, 3) := by decide +kernel
theorem dX5_become_30 : decode cX5_become 30 = .ok (.aload_n 1, 1) := by decide +kernel
theorem dX5_become_31 : decode cX5_become 31 = .ok (.getfield 22, 3) := by decide +kernel
theorem dX5_become_34 : decode cX5_become 34 = .ok (.aload_n 0, 1) := by decide +kernel
theorem dX5_become_35 : decode cX5_become 35 = .ok (.getfield 22, 3) := by decide +kernel
theorem dX5_become_38 : decode cX5_become 38 = .ok (.invokestatic 25, 3) := by decide +kernel
theorem dX5_become_41 : decode cX5_become 41 = .ok (.return_, 1) := by decide +kernel
theorem dX5_has_0 : decode cX5_has 0 = .ok (.iconst 0, 1) := by decide +kernel
theorem dX5_has_1 : decode cX5_has 1 = .ok (.iload_n 1, 1) := by decide +kernel
theorem dX5_has_2 : decode cX5_has 2 = .ok (.if_icmp .gt 15, 3) := by decide +kernel
theorem dX5_has_5 : decode cX5_has 5 = .ok (.iload_n 1, 1) := by decide +kernel
theorem dX5_has_6 : decode cX5_has 6 = .ok (.aload_n 0, 1) := by decide +kernel
theorem dX5_has_7 : decode cX5_has 7 = .ok (.getfield 9, 3) := by decide +kernel
theorem dX5_has_10 : decode cX5_has 10 = .ok (.if_icmp .ge 7, 3) := by decide +kernel
theorem dX5_has_13 : decode cX5_has 13 = .ok (.iconst 1, 1) := by decide +kernel
theorem dX5_has_14 : decode cX5_has 14 = .ok (.goto 4, 3) := by decide +kernel
theorem dX5_has_17 : decode cX5_has 17 = .ok (.iconst 0, 1) := by decide +kernel
theorem dX5_has_18 : decode cX5_has 18 = .ok (.ireturn, 1) := by decide +kernel
theorem dX5_enter_0 : decode cX5_enter 0 = .ok (.aload_n 0, 1) := by decide +kernel
theorem dX5_enter_1 : decode cX5_enter 1 = .ok (.getfield 9, 3) := by decide +kernel
theorem dX5_enter_4 : decode cX5_enter 4 = .ok (.bipush 6, 2) := by decide +kernel
theorem dX5_enter_6 : decode cX5_enter 6 = .ok (.if_icmp .lt 5, 3) := by decide +kernel
theorem dX5_enter_9 : decode cX5_enter 9 = .ok (.iconst (-1), 1) := by decide +kernel
theorem dX5_enter_10 : decode cX5_enter 10 = .ok (.ireturn, 1) := by decide +kernel
theorem dX5_enter_11 : decode cX5_enter 11 = .ok (.aload_n 0, 1) := by decide +kernel
theorem dX5_enter_12 : decode cX5_enter 12 = .ok (.getfield 15, 3) := by decide +kernel
theorem dX5_enter_15 : decode cX5_enter 15 = .ok (.aload_n 0, 1) := by decide +kernel
theorem dX5_enter_16 : decode cX5_enter 16 = .ok (.getfield 9, 3) := by decide +kernel
theorem dX5_enter_19 : decode cX5_enter 19 = .ok (.iload_n 1, 1) := by decide +kernel
theorem dX5_enter_20 : decode cX5_enter 20 = .ok (.iastore, 1) := by decide +kernel
theorem dX5_enter_21 : decode cX5_enter 21 = .ok (.aload_n 0, 1) := by decide +kernel
theorem dX5_enter_22 : decode cX5_enter 22 = .ok (.dup, 1) := by decide +kernel
theorem dX5_enter_23 : decode cX5_enter 23 = .ok (.getfield 9, 3) := by decide +kernel
theorem dX5_enter_26 : decode cX5_enter 26 = .ok (.iconst 1, 1) := by decide +kernel
theorem dX5_enter_27 : decode cX5_enter 27 = .ok (.iadd, 1) := by decide +kernel
theorem dX5_enter_28 : decode cX5_enter 28 = .ok (.putfield 9, 3) := by decide +kernel
theorem dX5_enter_31 : decode cX5_enter 31 = .ok (.aload_n 0, 1) := by decide +kernel
theorem dX5_enter_32 : decode cX5_enter 32 = .ok (.getfield 9, 3) := by decide +kernel
theorem dX5_enter_35 : decode cX5_enter 35 = .ok (.iconst 1, 1) := by decide +kernel
theorem dX5_enter_36 : decode cX5_enter 36 = .ok (.isub, 1) := by decide +kernel
theorem dX5_enter_37 : decode cX5_enter 37 = .ok (.ireturn, 1) := by decide +kernel
theorem dX6_init_0 : decode cX6_init 0 = .ok (.aload_n 0, 1) := by decide +kernel
theorem dX6_init_1 : decode cX6_init 1 = .ok (.invokespecial 3, 3) := by decide +kernel
theorem dX6_init_4 : decode cX6_init 4 = .ok (.aload_n 0, 1) := by decide +kernel
theorem dX6_init_5 : decode cX6_init 5 = .ok (.iconst 0, 1) := by decide +kernel
theorem dX6_init_6 : decode cX6_init 6 = .ok (.putfield 9, 3) := by decide +kernel
theorem dX6_init_9 : decode cX6_init 9 = .ok (.aload_n 0, 1) := by decide +kernel
theorem dX6_init_10 : decode cX6_init 10 = .ok (.bipush 60, 2) := by decide +kernel
theorem dX6_init_12 : decode cX6_init 12 = .ok (.newarray .int, 2) := by decide +kernel
theorem dX6_init_14 : decode cX6_init 14 = .ok (.putfield 15, 3) := by decide +kernel
theorem dX6_init_17 : decode cX6_init 17 = .ok (.return_, 1) := by decide +kernel
theorem dX6_put_0 : decode cX6_put 0 = .ok (.aload_n 0, 1) := by decide +kernel
theorem dX6_put_1 : decode cX6_put 1 = .ok (.getfield 9, 3) := by decide +kernel
theorem dX6_put_4 : decode cX6_put 4 = .ok (.bipush 60, 2) := by decide +kernel
theorem dX6_put_6 : decode cX6_put 6 = .ok (.if_icmp .ge 23, 3) := by decide +kernel
theorem dX6_put_9 : decode cX6_put 9 = .ok (.aload_n 0, 1) := by decide +kernel
theorem dX6_put_10 : decode cX6_put 10 = .ok (.getfield 15, 3) := by decide +kernel
theorem dX6_put_13 : decode cX6_put 13 = .ok (.aload_n 0, 1) := by decide +kernel
theorem dX6_put_14 : decode cX6_put 14 = .ok (.getfield 9, 3) := by decide +kernel
theorem dX6_put_17 : decode cX6_put 17 = .ok (.iload_n 1, 1) := by decide +kernel
theorem dX6_put_18 : decode cX6_put 18 = .ok (.iastore, 1) := by decide +kernel
theorem dX6_put_19 : decode cX6_put 19 = .ok (.aload_n 0, 1) := by decide +kernel
theorem dX6_put_20 : decode cX6_put 20 = .ok (.dup, 1) := by decide +kernel
theorem dX6_put_21 : decode cX6_put 21 = .ok (.getfield 9, 3) := by decide +kernel
theorem dX6_put_24 : decode cX6_put 24 = .ok (.iconst 1, 1) := by decide +kernel
theorem dX6_put_25 : decode cX6_put 25 = .ok (.iadd, 1) := by decide +kernel
theorem dX6_put_26 : decode cX6_put 26 = .ok (.putfield 9, 3) := by decide +kernel
theorem dX6_put_29 : decode cX6_put 29 = .ok (.return_, 1) := by decide +kernel
theorem dX6_codeAt_0 : decode cX6_codeAt 0 = .ok (.iconst 0, 1) := by decide +kernel
theorem dX6_codeAt_1 : decode cX6_codeAt 1 = .ok (.iload_n 1, 1) := by decide +kernel
theorem dX6_codeAt_2 : decode cX6_codeAt 2 = .ok (.if_icmp .gt 20, 3) := by decide +kernel
theorem dX6_codeAt_5 : decode cX6_codeAt 5 = .ok (.iload_n 1, 1) := by decide +kernel
theorem dX6_codeAt_6 : decode cX6_codeAt 6 = .ok (.aload_n 0, 1) := by decide +kernel
theorem dX6_codeAt_7 : decode cX6_codeAt 7 = .ok (.getfield 9, 3) := by decide +kernel
theorem dX6_codeAt_10 : decode cX6_codeAt 10 = .ok (.if_icmp .ge 12, 3) := by decide +kernel
theorem dX6_codeAt_13 : decode cX6_codeAt 13 = .ok (.aload_n 0, 1) := by decide +kernel
theorem dX6_codeAt_14 : decode cX6_codeAt 14 = .ok (.getfield 15, 3) := by decide +kernel
theorem dX6_codeAt_17 : decode cX6_codeAt 17 = .ok (.iload_n 1, 1) := by decide +kernel
theorem dX6_codeAt_18 : decode cX6_codeAt 18 = .ok (.iaload, 1) := by decide +kernel
theorem dX6_codeAt_19 : decode cX6_codeAt 19 = .ok (.goto 4, 3) := by decide +kernel
theorem dX6_codeAt_22 : decode cX6_codeAt 22 = .ok (.iconst 0, 1) := by decide +kernel
theorem dX6_codeAt_23 : decode cX6_codeAt 23 = .ok (.ireturn, 1) := by decide +kernel
theorem dX6_digitAt_0 : decode cX6_digitAt 0 = .ok (.aload_n 0, 1) := by decide +kernel
theorem dX6_digitAt_1 : decode cX6_digitAt 1 = .ok (.iload_n 1, 1) := by decide +kernel
theorem dX6_digitAt_2 : decode cX6_digitAt 2 = .ok (.invokevirtual 19, 3) := by decide +kernel
theorem dX6_digitAt_5 : decode cX6_digitAt 5 = .ok (.bipush 48, 2) := by decide +kernel
theorem dX6_digitAt_7 : decode cX6_digitAt 7 = .ok (.isub, 1) := by decide +kernel
theorem dX6_digitAt_8 : decode cX6_digitAt 8 = .ok (.ireturn, 1) := by decide +kernel
theorem dX6_coreAt_0 : decode cX6_coreAt 0 = .ok (.bipush 8, 2) := by decide +kernel
theorem dX6_coreAt_2 : decode cX6_coreAt 2 = .ok (.aload_n 0, 1) := by decide +kernel
theorem dX6_coreAt_3 : decode cX6_coreAt 3 = .ok (.iload_n 1, 1) := by decide +kernel
theorem dX6_coreAt_4 : decode cX6_coreAt 4 = .ok (.invokevirtual 23, 3) := by decide +kernel
theorem dX6_coreAt_7 : decode cX6_coreAt 7 = .ok (.imul, 1) := by decide +kernel
theorem dX6_coreAt_8 : decode cX6_coreAt 8 = .ok (.aload_n 0, 1) := by decide +kernel
theorem dX6_coreAt_9 : decode cX6_coreAt 9 = .ok (.iload_n 1, 1) := by decide +kernel
theorem dX6_coreAt_10 : decode cX6_coreAt 10 = .ok (.iconst 1, 1) := by decide +kernel
theorem dX6_coreAt_11 : decode cX6_coreAt 11 = .ok (.iadd, 1) := by decide +kernel
theorem dX6_coreAt_12 : decode cX6_coreAt 12 = .ok (.invokevirtual 23, 3) := by decide +kernel
theorem dX6_coreAt_15 : decode cX6_coreAt 15 = .ok (.iadd, 1) := by decide +kernel
theorem dX6_coreAt_16 : decode cX6_coreAt 16 = .ok (.ireturn, 1) := by decide +kernel
theorem dX6_stepLength_0 : decode cX6_stepLength 0 = .ok (.aload_n 0, 1) := by decide +kernel
theorem dX6_stepLength_1 : decode cX6_stepLength 1 = .ok (.iload_n 1, 1) := by decide +kernel
theorem dX6_stepLength_2 : decode cX6_stepLength 2 = .ok (.invokevirtual 19, 3) := by decide +kernel
theorem dX6_stepLength_5 : decode cX6_stepLength 5 = .ok (.lookupswitch 41 #[(114, 35), (116, 39), (119, 37)], 35) := by decide +kernel
theorem dX6_stepLength_40 : decode cX6_stepLength 40 = .ok (.iconst 3, 1) := by decide +kernel
theorem dX6_stepLength_41 : decode cX6_stepLength 41 = .ok (.ireturn, 1) := by decide +kernel
theorem dX6_stepLength_42 : decode cX6_stepLength 42 = .ok (.iconst 5, 1) := by decide +kernel
theorem dX6_stepLength_43 : decode cX6_stepLength 43 = .ok (.ireturn, 1) := by decide +kernel
theorem dX6_stepLength_44 : decode cX6_stepLength 44 = .ok (.iconst 2, 1) := by decide +kernel
theorem dX6_stepLength_45 : decode cX6_stepLength 45 = .ok (.ireturn, 1) := by decide +kernel
theorem dX6_stepLength_46 : decode cX6_stepLength 46 = .ok (.iconst 1, 1) := by decide +kernel
theorem dX6_stepLength_47 : decode cX6_stepLength 47 = .ok (.ireturn, 1) := by decide +kernel
theorem dX6_errorPlace_0 : decode cX6_errorPlace 0 = .ok (.iconst 1, 1) := by decide +kernel
theorem dX6_errorPlace_1 : decode cX6_errorPlace 1 = .ok (.istore_n 1, 1) := by decide +kernel
theorem dX6_errorPlace_2 : decode cX6_errorPlace 2 = .ok (.iconst 0, 1) := by decide +kernel
theorem dX6_errorPlace_3 : decode cX6_errorPlace 3 = .ok (.istore_n 2, 1) := by decide +kernel
theorem dX6_errorPlace_4 : decode cX6_errorPlace 4 = .ok (.iload_n 2, 1) := by decide +kernel
theorem dX6_errorPlace_5 : decode cX6_errorPlace 5 = .ok (.aload_n 0, 1) := by decide +kernel
theorem dX6_errorPlace_6 : decode cX6_errorPlace 6 = .ok (.getfield 9, 3) := by decide +kernel
theorem dX6_errorPlace_9 : decode cX6_errorPlace 9 = .ok (.if_icmp .ge 25, 3) := by decide +kernel
theorem dX6_errorPlace_12 : decode cX6_errorPlace 12 = .ok (.iload_n 1, 1) := by decide +kernel
theorem dX6_errorPlace_13 : decode cX6_errorPlace 13 = .ok (.aload_n 0, 1) := by decide +kernel
theorem dX6_errorPlace_14 : decode cX6_errorPlace 14 = .ok (.iload_n 2, 1) := by decide +kernel
theorem dX6_errorPlace_15 : decode cX6_errorPlace 15 = .ok (.invokevirtual 19, 3) := by decide +kernel
theorem dX6_errorPlace_18 : decode cX6_errorPlace 18 = .ok (.invokestatic 26, 3) := by decide +kernel
theorem dX6_errorPlace_21 : decode cX6_errorPlace 21 = .ok (.istore_n 1, 1) := by decide +kernel
theorem dX6_errorPlace_22 : decode cX6_errorPlace 22 = .ok (.iload_n 1, 1) := by decide +kernel
theorem dX6_errorPlace_23 : decode cX6_errorPlace 23 = .ok (.ifCond .ne 5, 3) := by decide +kernel
theorem dX6_errorPlace_26 : decode cX6_errorPlace 26 = .ok (.iload_n 2, 1) := by decide +kernel
theorem dX6_errorPlace_27 : decode cX6_errorPlace 27 = .ok (.ireturn, 1) := by decide +kernel
theorem dX6_errorPlace_28 : decode cX6_errorPlace 28 = .ok (.iinc 2 1, 3) := by decide +kernel
theorem dX6_errorPlace_31 : decode cX6_errorPlace 31 = .ok (.goto (-27), 3) := by decide +kernel
theorem dX6_errorPlace_34 : decode cX6_errorPlace 34 = .ok (.aload_n 0, 1) := by decide +kernel
theorem dX6_errorPlace_35 : decode cX6_errorPlace 35 = .ok (.getfield 9, 3) := by decide +kernel
theorem dX6_errorPlace_38 : decode cX6_errorPlace 38 = .ok (.ireturn, 1) := by decide +kernel
theorem dX6_isProgram_0 : decode cX6_isProgram 0 = .ok (.iconst 1, 1) := by decide +kernel
theorem dX6_isProgram_1 : decode cX6_isProgram 1 = .ok (.istore_n 1, 1) := by decide +kernel
theorem dX6_isProgram_2 : decode cX6_isProgram 2 = .ok (.iconst 0, 1) := by decide +kernel
theorem dX6_isProgram_3 : decode cX6_isProgram 3 = .ok (.istore_n 2, 1) := by decide +kernel
theorem dX6_isProgram_4 : decode cX6_isProgram 4 = .ok (.iload_n 2, 1) := by decide +kernel
theorem dX6_isProgram_5 : decode cX6_isProgram 5 = .ok (.aload_n 0, 1) := by decide +kernel
theorem dX6_isProgram_6 : decode cX6_isProgram 6 = .ok (.getfield 9, 3) := by decide +kernel
theorem dX6_isProgram_9 : decode cX6_isProgram 9 = .ok (.if_icmp .ge 19, 3) := by decide +kernel
theorem dX6_isProgram_12 : decode cX6_isProgram 12 = .ok (.iload_n 1, 1) := by decide +kernel
theorem dX6_isProgram_13 : decode cX6_isProgram 13 = .ok (.aload_n 0, 1) := by decide +kernel
theorem dX6_isProgram_14 : decode cX6_isProgram 14 = .ok (.iload_n 2, 1) := by decide +kernel
theorem dX6_isProgram_15 : decode cX6_isProgram 15 = .ok (.invokevirtual 19, 3) := by decide +kernel
theorem dX6_isProgram_18 : decode cX6_isProgram 18 = .ok (.invokestatic 26, 3) := by decide +kernel
theorem dX6_isProgram_21 : decode cX6_isProgram 21 = .ok (.istore_n 1, 1) := by decide +kernel
theorem dX6_isProgram_22 : decode cX6_isProgram 22 = .ok (.iinc 2 1, 3) := by decide +kernel
theorem dX6_isProgram_25 : decode cX6_isProgram 25 = .ok (.goto (-21), 3) := by decide +kernel
theorem dX6_isProgram_28 : decode cX6_isProgram 28 = .ok (.iload_n 1, 1) := by decide +kernel
theorem dX6_isProgram_29 : decode cX6_isProgram 29 = .ok (.iconst 2, 1) := by decide +kernel
theorem dX6_isProgram_30 : decode cX6_isProgram 30 = .ok (.if_icmp .ne 7, 3) := by decide +kernel
theorem dX6_isProgram_33 : decode cX6_isProgram 33 = .ok (.iconst 1, 1) := by decide +kernel
theorem dX6_isProgram_34 : decode cX6_isProgram 34 = .ok (.goto 4, 3) := by decide +kernel
theorem dX6_isProgram_37 : decode cX6_isProgram 37 = .ok (.iconst 0, 1) := by decide +kernel
theorem dX6_isProgram_38 : decode cX6_isProgram 38 = .ok (.ireturn, 1) := by decide +kernel
theorem dX6_wantedBehind_0 : decode cX6_wantedBehind 0 = .ok (.iload_n 0, 1) := by decide +kernel
theorem dX6_wantedBehind_1 : decode cX6_wantedBehind 1 = .ok (.tableswitch 185 1 9 #[51, 56, 68, 85, 102, 120, 138, 151, 168], 51) := by decide +kernel
theorem dX6_wantedBehind_52 : decode cX6_wantedBehind 52 = .ok (.iload_n 1, 1) := by decide +kernel
theorem dX6_wantedBehind_53 : decode cX6_wantedBehind 53 = .ok (.invokestatic 30, 3) := by decide +kernel
theorem dX6_wantedBehind_56 : decode cX6_wantedBehind 56 = .ok (.ireturn, 1) := by decide +kernel
theorem dX6_wantedBehind_57 : decode cX6_wantedBehind 57 = .ok (.iload_n 1, 1) := by decide +kernel
theorem dX6_wantedBehind_58 : decode cX6_wantedBehind 58 = .ok (.bipush 59, 2) := by decide +kernel
theorem dX6_wantedBehind_60 : decode cX6_wantedBehind 60 = .ok (.if_icmp .ne 7, 3) := by decide +kernel
theorem dX6_wantedBehind_63 : decode cX6_wantedBehind 63 = .ok (.iconst 1, 1) := by decide +kernel
theorem dX6_wantedBehind_64 : decode cX6_wantedBehind 64 = .ok (.goto 4, 3) := by decide +kernel
theorem dX6_wantedBehind_67 : decode cX6_wantedBehind 67 = .ok (.iconst 0, 1) := by decide +kernel
theorem dX6_wantedBehind_68 : decode cX6_wantedBehind 68 = .ok (.ireturn, 1) := by decide +kernel
theorem dX6_wantedBehind_69 : decode cX6_wantedBehind 69 = .ok (.iload_n 1, 1) := by decide +kernel
theorem dX6_wantedBehind_70 : decode cX6_wantedBehind 70 = .ok (.bipush 48, 2) := by decide +kernel
theorem dX6_wantedBehind_72 : decode cX6_wantedBehind 72 = .ok (.bipush 55, 2) := by decide +kernel
theorem dX6_wantedBehind_74 : decode cX6_wantedBehind 74 = .ok (.invokestatic 33, 3) := by decide +kernel
theorem dX6_wantedBehind_77 : decode cX6_wantedBehind 77 = .ok (.ifCond .eq 7, 3) := by decide +kernel
theorem dX6_wantedBehind_80 : decode cX6_wantedBehind 80 = .ok (.iconst 4, 1) := by decide +kernel
theorem dX6_wantedBehind_81 : decode cX6_wantedBehind 81 = .ok (.goto 4, 3) := by decide +kernel
theorem dX6_wantedBehind_84 : decode cX6_wantedBehind 84 = .ok (.iconst 0, 1) := by decide +kernel
theorem dX6_wantedBehind_85 : decode cX6_wantedBehind 85 = .ok (.ireturn, 1) := by decide +kernel
theorem dX6_wantedBehind_86 : decode cX6_wantedBehind 86 = .ok (.iload_n 1, 1) := by decide +kernel
theorem dX6_wantedBehind_87 : decode cX6_wantedBehind 87 = .ok (.bipush 48, 2) := by decide +kernel
theorem dX6_wantedBehind_89 : decode cX6_wantedBehind 89 = .ok (.bipush 55, 2) := by decide +kernel
theorem dX6_wantedBehind_91 : decode cX6_wantedBehind 91 = .ok (.invokestatic 33, 3) := by decide +kernel
theorem dX6_wantedBehind_94 : decode cX6_wantedBehind 94 = .ok (.ifCond .eq 7, 3) := by decide +kernel
theorem dX6_wantedBehind_97 : decode cX6_wantedBehind 97 = .ok (.iconst 2, 1) := by decide +kernel
theorem dX6_wantedBehind_98 : decode cX6_wantedBehind 98 = .ok (.goto 4, 3) := by decide +kernel
theorem dX6_wantedBehind_101 : decode cX6_wantedBehind 101 = .ok (.iconst 0, 1) := by decide +kernel
theorem dX6_wantedBehind_102 : decode cX6_wantedBehind 102 = .ok (.ireturn, 1) := by decide +kernel
theorem dX6_wantedBehind_103 : decode cX6_wantedBehind 103 = .ok (.iload_n 1, 1) := by decide +kernel
theorem dX6_wantedBehind_104 : decode cX6_wantedBehind 104 = .ok (.bipush 48, 2) := by decide +kernel
theorem dX6_wantedBehind_106 : decode cX6_wantedBehind 106 = .ok (.bipush 55, 2) := by decide +kernel
theorem dX6_wantedBehind_108 : decode cX6_wantedBehind 108 = .ok (.invokestatic 33, 3) := by decide +kernel
theorem dX6_wantedBehind_111 : decode cX6_wantedBehind 111 = .ok (.ifCond .eq 8, 3) := by decide +kernel
theorem dX6_wantedBehind_114 : decode cX6_wantedBehind 114 = .ok (.bipush 6, 2) := by decide +kernel
theorem dX6_wantedBehind_116 : decode cX6_wantedBehind 116 = .ok (.goto 4, 3) := by decide +kernel
theorem dX6_wantedBehind_119 : decode cX6_wantedBehind 119 = .ok (.iconst 0, 1) := by decide +kernel
theorem dX6_wantedBehind_120 : decode cX6_wantedBehind 120 = .ok (.ireturn, 1) := by decide +kernel
theorem dX6_wantedBehind_121 : decode cX6_wantedBehind 121 = .ok (.iload_n 1, 1) := by decide +kernel
theorem dX6_wantedBehind_122 : decode cX6_wantedBehind 122 = .ok (.bipush 48, 2) := by decide +kernel
theorem dX6_wantedBehind_124 : decode cX6_wantedBehind 124 = .ok (.bipush 55, 2) := by decide +kernel
theorem dX6_wantedBehind_126 : decode cX6_wantedBehind 126 = .ok (.invokestatic 33, 3) := by decide +kernel
theorem dX6_wantedBehind_129 : decode cX6_wantedBehind 129 = .ok (.ifCond .eq 8, 3) := by decide +kernel
theorem dX6_wantedBehind_132 : decode cX6_wantedBehind 132 = .ok (.bipush 7, 2) := by decide +kernel
theorem dX6_wantedBehind_134 : decode cX6_wantedBehind 134 = .ok (.goto 4, 3) := by decide +kernel
theorem dX6_wantedBehind_137 : decode cX6_wantedBehind 137 = .ok (.iconst 0, 1) := by decide +kernel
theorem dX6_wantedBehind_138 : decode cX6_wantedBehind 138 = .ok (.ireturn, 1) := by decide +kernel
theorem dX6_wantedBehind_139 : decode cX6_wantedBehind 139 = .ok (.iload_n 1, 1) := by decide +kernel
theorem dX6_wantedBehind_140 : decode cX6_wantedBehind 140 = .ok (.bipush 61, 2) := by decide +kernel
theorem dX6_wantedBehind_142 : decode cX6_wantedBehind 142 = .ok (.if_icmp .ne 8, 3) := by decide +kernel
theorem dX6_wantedBehind_145 : decode cX6_wantedBehind 145 = .ok (.bipush 8, 2) := by decide +kernel
theorem dX6_wantedBehind_147 : decode cX6_wantedBehind 147 = .ok (.goto 4, 3) := by decide +kernel
theorem dX6_wantedBehind_150 : decode cX6_wantedBehind 150 = .ok (.iconst 0, 1) := by decide +kernel
theorem dX6_wantedBehind_151 : decode cX6_wantedBehind 151 = .ok (.ireturn, 1) := by decide +kernel
theorem dX6_wantedBehind_152 : decode cX6_wantedBehind 152 = .ok (.iload_n 1, 1) := by decide +kernel
theorem dX6_wantedBehind_153 : decode cX6_wantedBehind 153 = .ok (.bipush 48, 2) := by decide +kernel
theorem dX6_wantedBehind_155 : decode cX6_wantedBehind 155 = .ok (.bipush 49, 2) := by decide +kernel
theorem dX6_wantedBehind_157 : decode cX6_wantedBehind 157 = .ok (.invokestatic 33, 3) := by decide +kernel
theorem dX6_wantedBehind_160 : decode cX6_wantedBehind 160 = .ok (.ifCond .eq 7, 3) := by decide +kernel
theorem dX6_wantedBehind_163 : decode cX6_wantedBehind 163 = .ok (.iconst 2, 1) := by decide +kernel
theorem dX6_wantedBehind_164 : decode cX6_wantedBehind 164 = .ok (.goto 4, 3) := by decide +kernel
theorem dX6_wantedBehind_167 : decode cX6_wantedBehind 167 = .ok (.iconst 0, 1) := by decide +kernel
theorem dX6_wantedBehind_168 : decode cX6_wantedBehind 168 = .ok (.ireturn, 1) := by decide +kernel
theorem dX6_wantedBehind_169 : decode cX6_wantedBehind 169 = .ok (.iload_n 1, 1) := by decide +kernel
theorem dX6_wantedBehind_170 : decode cX6_wantedBehind 170 = .ok (.bipush 49, 2) := by decide +kernel
theorem dX6_wantedBehind_172 : decode cX6_wantedBehind 172 = .ok (.bipush 57, 2) := by decide +kernel
theorem dX6_wantedBehind_174 : decode cX6_wantedBehind 174 = .ok (.invokestatic 33, 3) := by decide +kernel
theorem dX6_wantedBehind_177 : decode cX6_wantedBehind 177 = .ok (.ifCond .eq 7, 3) := by decide +kernel
theorem dX6_wantedBehind_180 : decode cX6_wantedBehind 180 = .ok (.iconst 2, 1) := by decide +kernel
theorem dX6_wantedBehind_181 : decode cX6_wantedBehind 181 = .ok (.goto 4, 3) := by decide +kernel
theorem dX6_wantedBehind_184 : decode cX6_wantedBehind 184 = .ok (.iconst 0, 1) := by decide +kernel
theorem dX6_wantedBehind_185 : decode cX6_wantedBehind 185 = .ok (.ireturn, 1) := by decide +kernel
theorem dX6_wantedBehind_186 : decode cX6_wantedBehind 186 = .ok (.iconst 0, 1) := by decide +kernel
theorem dX6_wantedBehind_187 : decode cX6_wantedBehind 187 = .ok (.ireturn, 1) := by decide +kernel
theorem dX6_wantedInStep_0 : decode cX6_wantedInStep 0 = .ok (.iload_n 0, 1) := by decide +kernel
theorem dX6_wantedInStep_1 : decode cX6_wantedInStep 1 = .ok (.lookupswitch 52 #[(98, 47), (114, 43), (116, 49), (119, 45)], 43) := by decide +kernel
theorem dX6_wantedInStep_44 : decode cX6_wantedInStep 44 = .ok (.iconst 3, 1) := by decide +kernel
theorem dX6_wantedInStep_45 : decode cX6_wantedInStep 45 = .ok (.ireturn, 1) := by decide +kernel
theorem dX6_wantedInStep_46 : decode cX6_wantedInStep 46 = .ok (.iconst 5, 1) := by decide +kernel
theorem dX6_wantedInStep_47 : decode cX6_wantedInStep 47 = .ok (.ireturn, 1) := by decide +kernel
theorem dX6_wantedInStep_48 : decode cX6_wantedInStep 48 = .ok (.iconst 2, 1) := by decide +kernel
theorem dX6_wantedInStep_49 : decode cX6_wantedInStep 49 = .ok (.ireturn, 1) := by decide +kernel
theorem dX6_wantedInStep_50 : decode cX6_wantedInStep 50 = .ok (.bipush 9, 2) := by decide +kernel
theorem dX6_wantedInStep_52 : decode cX6_wantedInStep 52 = .ok (.ireturn, 1) := by decide +kernel
theorem dX6_wantedInStep_53 : decode cX6_wantedInStep 53 = .ok (.iconst 0, 1) := by decide +kernel
theorem dX6_wantedInStep_54 : decode cX6_wantedInStep 54 = .ok (.ireturn, 1) := by decide +kernel
theorem dX7_init_0 : decode cX7_init 0 = .ok (.aload_n 0, 1) := by decide +kernel
theorem dX7_init_1 : decode cX7_init 1 = .ok (.invokespecial 1, 3) := by decide +kernel
theorem dX7_init_4 : decode cX7_init 4 = .ok (.aload_n 0, 1) := by decide +kernel
theorem dX7_init_5 : decode cX7_init 5 = .ok (.new 7, 3) := by decide +kernel
theorem dX7_init_8 : decode cX7_init 8 = .ok (.dup, 1) := by decide +kernel
theorem dX7_init_9 : decode cX7_init 9 = .ok (.invokespecial 9, 3) := by decide +kernel
theorem dX7_init_12 : decode cX7_init 12 = .ok (.putfield 10, 3) := by decide +kernel
theorem dX7_init_15 : decode cX7_init 15 = .ok (.aload_n 0, 1) := by decide +kernel
theorem dX7_init_16 : decode cX7_init 16 = .ok (.new 7, 3) := by decide +kernel
theorem dX7_init_19 : decode cX7_init 19 = .ok (.dup, 1) := by decide +kernel
theorem dX7_init_20 : decode cX7_init 20 = .ok (.invokespecial 9, 3) := by decide +kernel
theorem dX7_init_23 : decode cX7_init 23 = .ok (.putfield 16, 3) := by decide +kernel
theorem dX7_init_26 : decode cX7_init 26 = .ok (.aload_n 0, 1) := by decide +kernel
theorem dX7_init_27 : decode cX7_init 27 = .ok (.new 19, 3) := by decide +kernel
theorem dX7_init_30 : decode cX7_init 30 = .ok (.dup, 1) := by decide +kernel
theorem dX7_init_31 : decode cX7_init 31 = .ok (.invokespecial 21, 3) := by decide +kernel
theorem dX7_init_34 : decode cX7_init 34 = .ok (.putfield 22, 3) := by decide +kernel
theorem dX7_init_37 : decode cX7_init 37 = .ok (.aload_n 0, 1) := by decide +kernel
theorem dX7_init_38 : decode cX7_init 38 = .ok (.new 26, 3) := by decide +kernel
theorem dX7_init_41 : decode cX7_init 41 = .ok (.dup, 1) := by decide +kernel
theorem dX7_init_42 : decode cX7_init 42 = .ok (.invokespecial 28, 3) := by decide +kernel
theorem dX7_init_45 : decode cX7_init 45 = .ok (.putfield 29, 3) := by decide +kernel
theorem dX7_init_48 : decode cX7_init 48 = .ok (.return_, 1) := by decide +kernel
theorem dX7_addTenant_0 : decode cX7_addTenant 0 = .ok (.iload_n 1, 1) := by decide +kernel
theorem dX7_addTenant_1 : decode cX7_addTenant 1 = .ok (.iconst 0, 1) := by decide +kernel
theorem dX7_addTenant_2 : decode cX7_addTenant 2 = .ok (.sipush 10000, 3) := by decide +kernel
theorem dX7_addTenant_5 : decode cX7_addTenant 5 = .ok (.invokestatic 33, 3) := by decide +kernel
theorem dX7_addTenant_8 : decode cX7_addTenant 8 = .ok (.invokestatic 37, 3) := by decide +kernel
theorem dX7_addTenant_11 : decode cX7_addTenant 11 = .ok (.aload_n 0, 1) := by decide +kernel
theorem dX7_addTenant_12 : decode cX7_addTenant 12 = .ok (.getfield 10, 3) := by decide +kernel
theorem dX7_addTenant_15 : decode cX7_addTenant 15 = .ok (.getfield 41, 3) := by decide +kernel
theorem dX7_addTenant_18 : decode cX7_addTenant 18 = .ok (.getfield 45, 3) := by decide +kernel
theorem dX7_addTenant_21 : decode cX7_addTenant 21 = .ok (.bipush 6, 2) := by decide +kernel
theorem dX7_addTenant_23 : decode cX7_addTenant 23 = .ok (.if_icmp .ge 7, 3) := by decide +kernel
theorem dX7_addTenant_26 : decode cX7_addTenant 26 = .ok (.iconst 1, 1) := by decide +kernel
theorem dX7_addTenant_27 : decode cX7_addTenant 27 = .ok (.goto 4, 3) := by decide +kernel
theorem dX7_addTenant_30 : decode cX7_addTenant 30 = .ok (.iconst 0, 1) := by decide +kernel
theorem dX7_addTenant_31 : decode cX7_addTenant 31 = .ok (.invokestatic 51, 3) := by decide +kernel
theorem dX7_addTenant_34 : decode cX7_addTenant 34 = .ok (.aload_n 0, 1) := by decide +kernel
theorem dX7_addTenant_35 : decode cX7_addTenant 35 = .ok (.getfield 22, 3) := by decide +kernel
theorem dX7_addTenant_38 : decode cX7_addTenant 38 = .ok (.aload_n 0, 1) := by decide +kernel
theorem dX7_addTenant_39 : decode cX7_addTenant 39 = .ok (.getfield 10, 3) := by decide +kernel
theorem dX7_addTenant_42 : decode cX7_addTenant 42 = .ok (.invokevirtual 54, 3) := by decide +kernel
theorem dX7_addTenant_45 : decode cX7_addTenant 45 = .ok (.aload_n 0, 1) := by decide +kernel
theorem dX7_addTenant_46 : decode cX7_addTenant 46 = .ok (.getfield 10, 3) := by decide +kernel
theorem dX7_addTenant_49 : decode cX7_addTenant 49 = .ok (.getfield 41, 3) := by decide +kernel
theorem dX7_addTenant_52 : decode cX7_addTenant 52 = .ok (.iload_n 1, 1) := by decide +kernel
theorem dX7_addTenant_53 : decode cX7_addTenant 53 = .ok (.invokevirtual 58, 3) := by decide +kernel
theorem dX7_addTenant_56 : decode cX7_addTenant 56 = .ok (.ireturn, 1) := by decide +kernel
theorem dX7_addInsurer_0 : decode cX7_addInsurer 0 = .ok (.iload_n 1, 1) := by decide +kernel
theorem dX7_addInsurer_1 : decode cX7_addInsurer 1 = .ok (.iconst 0, 1) := by decide +kernel
theorem dX7_addInsurer_2 : decode cX7_addInsurer 2 = .ok (.sipush 10000, 3) := by decide +kernel
theorem dX7_addInsurer_5 : decode cX7_addInsurer 5 = .ok (.invokestatic 33, 3) := by decide +kernel
theorem dX7_addInsurer_8 : decode cX7_addInsurer 8 = .ok (.invokestatic 37, 3) := by decide +kernel
theorem dX7_addInsurer_11 : decode cX7_addInsurer 11 = .ok (.iload_n 2, 1) := by decide +kernel
theorem dX7_addInsurer_12 : decode cX7_addInsurer 12 = .ok (.iconst 1, 1) := by decide +kernel
theorem dX7_addInsurer_13 : decode cX7_addInsurer 13 = .ok (.sipush 200, 3) := by decide +kernel
theorem dX7_addInsurer_16 : decode cX7_addInsurer 16 = .ok (.invokestatic 33, 3) := by decide +kernel
theorem dX7_addInsurer_19 : decode cX7_addInsurer 19 = .ok (.invokestatic 37, 3) := by decide +kernel
theorem dX7_addInsurer_22 : decode cX7_addInsurer 22 = .ok (.iload_n 3, 1) := by decide +kernel
theorem dX7_addInsurer_23 : decode cX7_addInsurer 23 = .ok (.iconst 1, 1) := by decide +kernel
theorem dX7_addInsurer_24 : decode cX7_addInsurer 24 = .ok (.sipush 500, 3) := by decide +kernel
theorem dX7_addInsurer_27 : decode cX7_addInsurer 27 = .ok (.invokestatic 33, 3) := by decide +kernel
theorem dX7_addInsurer_30 : decode cX7_addInsurer 30 = .ok (.invokestatic 37, 3) := by decide +kernel
theorem dX7_addInsurer_33 : decode cX7_addInsurer 33 = .ok (.aload_n 0, 1) := by decide +kernel
theorem dX7_addInsurer_34 : decode cX7_addInsurer 34 = .ok (.getfield 10, 3) := by decide +kernel
theorem dX7_addInsurer_37 : decode cX7_addInsurer 37 = .ok (.getfield 62, 3) := by decide +kernel
theorem dX7_addInsurer_40 : decode cX7_addInsurer 40 = .ok (.getfield 66, 3) := by decide +kernel
theorem dX7_addInsurer_43 : decode cX7_addInsurer 43 = .ok (.iconst 3, 1) := by decide +kernel
theorem dX7_addInsurer_44 : decode cX7_addInsurer 44 = .ok (.if_icmp .ge 7, 3) := by decide +kernel
theorem dX7_addInsurer_47 : decode cX7_addInsurer 47 = .ok (.iconst 1, 1) := by decide +kernel
theorem dX7_addInsurer_48 : decode cX7_addInsurer 48 = .ok (.goto 4, 3) := by decide +kernel
theorem dX7_addInsurer_51 : decode cX7_addInsurer 51 = .ok (.iconst 0, 1) := by decide +kernel
theorem dX7_addInsurer_52 : decode cX7_addInsurer 52 = .ok (.invokestatic 51, 3) := by decide +kernel
theorem dX7_addInsurer_55 : decode cX7_addInsurer 55 = .ok (.aload_n 0, 1) := by decide +kernel
theorem dX7_addInsurer_56 : decode cX7_addInsurer 56 = .ok (.getfield 22, 3) := by decide +kernel
theorem dX7_addInsurer_59 : decode cX7_addInsurer 59 = .ok (.aload_n 0, 1) := by decide +kernel
theorem dX7_addInsurer_60 : decode cX7_addInsurer 60 = .ok (.getfield 10, 3) := by decide +kernel
theorem dX7_addInsurer_63 : decode cX7_addInsurer 63 = .ok (.invokevirtual 54, 3) := by decide +kernel
theorem dX7_addInsurer_66 : decode cX7_addInsurer 66 = .ok (.aload_n 0, 1) := by decide +kernel
theorem dX7_addInsurer_67 : decode cX7_addInsurer 67 = .ok (.getfield 10, 3) := by decide +kernel
theorem dX7_addInsurer_70 : decode cX7_addInsurer 70 = .ok (.getfield 62, 3) := by decide +kernel
theorem dX7_addInsurer_73 : decode cX7_addInsurer 73 = .ok (.iload_n 1, 1) := by decide +kernel
theorem dX7_addInsurer_74 : decode cX7_addInsurer 74 = .ok (.iload_n 2, 1) := by decide +kernel
theorem dX7_addInsurer_75 : decode cX7_addInsurer 75 = .ok (.iload_n 3, 1) := by decide +kernel
theorem dX7_addInsurer_76 : decode cX7_addInsurer 76 = .ok (.invokevirtual 69, 3) := by decide +kernel
theorem dX7_addInsurer_79 : decode cX7_addInsurer 79 = .ok (.ireturn, 1) := by decide +kernel
theorem dX7_set_0 : decode cX7_set 0 = .ok (.iload_n 1, 1) := by decide +kernel
theorem dX7_set_1 : decode cX7_set 1 = .ok (.invokestatic 72, 3) := by decide +kernel
theorem dX7_set_4 : decode cX7_set 4 = .ok (.iload_n 2, 1) := by decide +kernel
theorem dX7_set_5 : decode cX7_set 5 = .ok (.iconst 0, 1) := by decide +kernel
theorem dX7_set_6 : decode cX7_set 6 = .ok (.getstatic 76, 3) := by decide +kernel
theorem dX7_set_9 : decode cX7_set 9 = .ok (.iload_n 1, 1) := by decide +kernel
theorem dX7_set_10 : decode cX7_set 10 = .ok (.iaload, 1) := by decide +kernel
theorem dX7_set_11 : decode cX7_set 11 = .ok (.invokestatic 33, 3) := by decide +kernel
theorem dX7_set_14 : decode cX7_set 14 = .ok (.invokestatic 37, 3) := by decide +kernel
theorem dX7_set_17 : decode cX7_set 17 = .ok (.aload_n 0, 1) := by decide +kernel
theorem dX7_set_18 : decode cX7_set 18 = .ok (.getfield 22, 3) := by decide +kernel
theorem dX7_set_21 : decode cX7_set 21 = .ok (.aload_n 0, 1) := by decide +kernel
theorem dX7_set_22 : decode cX7_set 22 = .ok (.getfield 10, 3) := by decide +kernel
theorem dX7_set_25 : decode cX7_set 25 = .ok (.invokevirtual 54, 3) := by decide +kernel
theorem dX7_set_28 : decode cX7_set 28 = .ok (.aload_n 0, 1) := by decide +kernel
theorem dX7_set_29 : decode cX7_set 29 = .ok (.getfield 10, 3) := by decide +kernel
theorem dX7_set_32 : decode cX7_set 32 = .ok (.getfield 80, 3) := by decide +kernel
theorem dX7_set_35 : decode cX7_set 35 = .ok (.iload_n 1, 1) := by decide +kernel
theorem dX7_set_36 : decode cX7_set 36 = .ok (.iaload, 1) := by decide +kernel
theorem dX7_set_37 : decode cX7_set 37 = .ok (.istore_n 3, 1) := by decide +kernel
theorem dX7_set_38 : decode cX7_set 38 = .ok (.aload_n 0, 1) := by decide +kernel
theorem dX7_set_39 : decode cX7_set 39 = .ok (.getfield 10, 3) := by decide +kernel
theorem dX7_set_42 : decode cX7_set 42 = .ok (.getfield 80, 3) := by decide +kernel
theorem dX7_set_45 : decode cX7_set 45 = .ok (.iload_n 1, 1) := by decide +kernel
theorem dX7_set_46 : decode cX7_set 46 = .ok (.iload_n 2, 1) := by decide +kernel
theorem dX7_set_47 : decode cX7_set 47 = .ok (.iastore, 1) := by decide +kernel
theorem dX7_set_48 : decode cX7_set 48 = .ok (.iload_n 3, 1) := by decide +kernel
theorem dX7_set_49 : decode cX7_set 49 = .ok (.ireturn, 1) := by decide +kernel
theorem dX7_lease_0 : decode cX7_lease 0 = .ok (.iload_n 1, 1) := by decide +kernel
theorem dX7_lease_1 : decode cX7_lease 1 = .ok (.invokestatic 83, 3) := by decide +kernel
theorem dX7_lease_4 : decode cX7_lease 4 = .ok (.aload_n 0, 1) := by decide +kernel
theorem dX7_lease_5 : decode cX7_lease 5 = .ok (.iload_n 2, 1) := by decide +kernel
theorem dX7_lease_6 : decode cX7_lease 6 = .ok (.invokevirtual 86, 3) := by decide +kernel
theorem dX7_lease_9 : decode cX7_lease 9 = .ok (.iload_n 3, 1) := by decide +kernel
theorem dX7_lease_10 : decode cX7_lease 10 = .ok (.iconst 1, 1) := by decide +kernel
theorem dX7_lease_11 : decode cX7_lease 11 = .ok (.sipush 200, 3) := by decide +kernel
theorem dX7_lease_14 : decode cX7_lease 14 = .ok (.invokestatic 33, 3) := by decide +kernel
theorem dX7_lease_17 : decode cX7_lease 17 = .ok (.invokestatic 37, 3) := by decide +kernel
theorem dX7_lease_20 : decode cX7_lease 20 = .ok (.aload_n 0, 1) := by decide +kernel
theorem dX7_lease_21 : decode cX7_lease 21 = .ok (.getfield 10, 3) := by decide +kernel
theorem dX7_lease_24 : decode cX7_lease 24 = .ok (.getfield 89, 3) := by decide +kernel
theorem dX7_lease_27 : decode cX7_lease 27 = .ok (.iload_n 1, 1) := by decide +kernel
theorem dX7_lease_28 : decode cX7_lease 28 = .ok (.invokevirtual 93, 3) := by decide +kernel
theorem dX7_lease_31 : decode cX7_lease 31 = .ok (.ifCond .ne 7, 3) := by decide +kernel
theorem dX7_lease_34 : decode cX7_lease 34 = .ok (.iconst 1, 1) := by decide +kernel
theorem dX7_lease_35 : decode cX7_lease 35 = .ok (.goto 4, 3) := by decide +kernel
theorem dX7_lease_38 : decode cX7_lease 38 = .ok (.iconst 0, 1) := by decide +kernel
theorem dX7_lease_39 : decode cX7_lease 39 = .ok (.invokestatic 51, 3) := by decide +kernel
theorem dX7_lease_42 : decode cX7_lease 42 = .ok (.aload_n 0, 1) := by decide +kernel
theorem dX7_lease_43 : decode cX7_lease 43 = .ok (.getfield 10, 3) := by decide +kernel
theorem dX7_lease_46 : decode cX7_lease 46 = .ok (.getfield 41, 3) := by decide +kernel
theorem dX7_lease_49 : decode cX7_lease 49 = .ok (.getfield 99, 3) := by decide +kernel
theorem dX7_lease_52 : decode cX7_lease 52 = .ok (.iload_n 2, 1) := by decide +kernel
theorem dX7_lease_53 : decode cX7_lease 53 = .ok (.iaload, 1) := by decide +kernel
theorem dX7_lease_54 : decode cX7_lease 54 = .ok (.aload_n 0, 1) := by decide +kernel
theorem dX7_lease_55 : decode cX7_lease 55 = .ok (.getfield 10, 3) := by decide +kernel
theorem dX7_lease_58 : decode cX7_lease 58 = .ok (.iload_n 3, 1) := by decide +kernel
theorem dX7_lease_59 : decode cX7_lease 59 = .ok (.invokevirtual 102, 3) := by decide +kernel
theorem dX7_lease_62 : decode cX7_lease 62 = .ok (.if_icmp .lt 7, 3) := by decide +kernel
theorem dX7_lease_65 : decode cX7_lease 65 = .ok (.iconst 1, 1) := by decide +kernel
theorem dX7_lease_66 : decode cX7_lease 66 = .ok (.goto 4, 3) := by decide +kernel
theorem dX7_lease_69 : decode cX7_lease 69 = .ok (.iconst 0, 1) := by decide +kernel
theorem dX7_lease_70 : decode cX7_lease 70 = .ok (.invokestatic 51, 3) := by decide +kernel
theorem dX7_lease_73 : decode cX7_lease 73 = .ok (.aload_n 0, 1) := by decide +kernel
theorem dX7_lease_74 : decode cX7_lease 74 = .ok (.getfield 22, 3) := by decide +kernel
theorem dX7_lease_77 : decode cX7_lease 77 = .ok (.aload_n 0, 1) := by decide +kernel
theorem dX7_lease_78 : decode cX7_lease 78 = .ok (.getfield 10, 3) := by decide +kernel
theorem dX7_lease_81 : decode cX7_lease 81 = .ok (.invokevirtual 54, 3) := by decide +kernel
theorem dX7_lease_84 : decode cX7_lease 84 = .ok (.aload_n 0, 1) := by decide +kernel
theorem dX7_lease_85 : decode cX7_lease 85 = .ok (.getfield 10, 3) := by decide +kernel
theorem dX7_lease_88 : decode cX7_lease 88 = .ok (.iload_n 1, 1) := by decide +kernel
theorem dX7_lease_89 : decode cX7_lease 89 = .ok (.iload_n 2, 1) := by decide +kernel
theorem dX7_lease_90 : decode cX7_lease 90 = .ok (.iload_n 3, 1) := by decide +kernel
theorem dX7_lease_91 : decode cX7_lease 91 = .ok (.invokevirtual 105, 3) := by decide +kernel
theorem dX7_lease_94 : decode cX7_lease 94 = .ok (.aload_n 0, 1) := by decide +kernel
theorem dX7_lease_95 : decode cX7_lease 95 = .ok (.getfield 10, 3) := by decide +kernel
theorem dX7_lease_98 : decode cX7_lease 98 = .ok (.getfield 41, 3) := by decide +kernel
theorem dX7_lease_101 : decode cX7_lease 101 = .ok (.getfield 99, 3) := by decide +kernel
theorem dX7_lease_104 : decode cX7_lease 104 = .ok (.iload_n 2, 1) := by decide +kernel
theorem dX7_lease_105 : decode cX7_lease 105 = .ok (.iaload, 1) := by decide +kernel
theorem dX7_lease_106 : decode cX7_lease 106 = .ok (.ireturn, 1) := by decide +kernel
theorem dX7_insure_0 : decode cX7_insure 0 = .ok (.iload_n 1, 1) := by decide +kernel
theorem dX7_insure_1 : decode cX7_insure 1 = .ok (.invokestatic 83, 3) := by decide +kernel
theorem dX7_insure_4 : decode cX7_insure 4 = .ok (.aload_n 0, 1) := by decide +kernel
theorem dX7_insure_5 : decode cX7_insure 5 = .ok (.iload_n 2, 1) := by decide +kernel
theorem dX7_insure_6 : decode cX7_insure 6 = .ok (.invokevirtual 109, 3) := by decide +kernel
theorem dX7_insure_9 : decode cX7_insure 9 = .ok (.iload_n 3, 1) := by decide +kernel
theorem dX7_insure_10 : decode cX7_insure 10 = .ok (.iconst 1, 1) := by decide +kernel
theorem dX7_insure_11 : decode cX7_insure 11 = .ok (.sipush 200, 3) := by decide +kernel
theorem dX7_insure_14 : decode cX7_insure 14 = .ok (.invokestatic 33, 3) := by decide +kernel
theorem dX7_insure_17 : decode cX7_insure 17 = .ok (.invokestatic 37, 3) := by decide +kernel
theorem dX7_insure_20 : decode cX7_insure 20 = .ok (.aload_n 0, 1) := by decide +kernel
theorem dX7_insure_21 : decode cX7_insure 21 = .ok (.getfield 10, 3) := by decide +kernel
theorem dX7_insure_24 : decode cX7_insure 24 = .ok (.getfield 89, 3) := by decide +kernel
theorem dX7_insure_27 : decode cX7_insure 27 = .ok (.getfield 112, 3) := by decide +kernel
theorem dX7_insure_30 : decode cX7_insure 30 = .ok (.iload_n 1, 1) := by decide +kernel
theorem dX7_insure_31 : decode cX7_insure 31 = .ok (.iaload, 1) := by decide +kernel
theorem dX7_insure_32 : decode cX7_insure 32 = .ok (.istore 4, 2) := by decide +kernel
theorem dX7_insure_34 : decode cX7_insure 34 = .ok (.aload_n 0, 1) := by decide +kernel
theorem dX7_insure_35 : decode cX7_insure 35 = .ok (.getfield 10, 3) := by decide +kernel
theorem dX7_insure_38 : decode cX7_insure 38 = .ok (.getfield 41, 3) := by decide +kernel
theorem dX7_insure_41 : decode cX7_insure 41 = .ok (.iload 4, 2) := by decide +kernel
theorem dX7_insure_43 : decode cX7_insure 43 = .ok (.invokevirtual 115, 3) := by decide +kernel
theorem dX7_insure_46 : decode cX7_insure 46 = .ok (.invokestatic 51, 3) := by decide +kernel
theorem dX7_insure_49 : decode cX7_insure 49 = .ok (.aload_n 0, 1) := by decide +kernel
theorem dX7_insure_50 : decode cX7_insure 50 = .ok (.getfield 10, 3) := by decide +kernel
theorem dX7_insure_53 : decode cX7_insure 53 = .ok (.getfield 89, 3) := by decide +kernel
theorem dX7_insure_56 : decode cX7_insure 56 = .ok (.iload_n 1, 1) := by decide +kernel
theorem dX7_insure_57 : decode cX7_insure 57 = .ok (.invokevirtual 118, 3) := by decide +kernel
theorem dX7_insure_60 : decode cX7_insure 60 = .ok (.ifCond .ne 7, 3) := by decide +kernel
theorem dX7_insure_63 : decode cX7_insure 63 = .ok (.iconst 1, 1) := by decide +kernel
theorem dX7_insure_64 : decode cX7_insure 64 = .ok (.goto 4, 3) := by decide +kernel
theorem dX7_insure_67 : decode cX7_insure 67 = .ok (.iconst 0, 1) := by decide +kernel
theorem dX7_insure_68 : decode cX7_insure 68 = .ok (.invokestatic 51, 3) := by decide +kernel
theorem dX7_insure_71 : decode cX7_insure 71 = .ok (.aload_n 0, 1) := by decide +kernel
theorem dX7_insure_72 : decode cX7_insure 72 = .ok (.getfield 10, 3) := by decide +kernel
theorem dX7_insure_75 : decode cX7_insure 75 = .ok (.iload_n 1, 1) := by decide +kernel
theorem dX7_insure_76 : decode cX7_insure 76 = .ok (.invokevirtual 121, 3) := by decide +kernel
theorem dX7_insure_79 : decode cX7_insure 79 = .ok (.iload_n 3, 1) := by decide +kernel
theorem dX7_insure_80 : decode cX7_insure 80 = .ok (.if_icmp .lt 7, 3) := by decide +kernel
theorem dX7_insure_83 : decode cX7_insure 83 = .ok (.iconst 1, 1) := by decide +kernel
theorem dX7_insure_84 : decode cX7_insure 84 = .ok (.goto 4, 3) := by decide +kernel
theorem dX7_insure_87 : decode cX7_insure 87 = .ok (.iconst 0, 1) := by decide +kernel
theorem dX7_insure_88 : decode cX7_insure 88 = .ok (.invokestatic 51, 3) := by decide +kernel
theorem dX7_insure_91 : decode cX7_insure 91 = .ok (.aload_n 0, 1) := by decide +kernel
theorem dX7_insure_92 : decode cX7_insure 92 = .ok (.getfield 10, 3) := by decide +kernel
theorem dX7_insure_95 : decode cX7_insure 95 = .ok (.iload_n 1, 1) := by decide +kernel
theorem dX7_insure_96 : decode cX7_insure 96 = .ok (.iload_n 2, 1) := by decide +kernel
theorem dX7_insure_97 : decode cX7_insure 97 = .ok (.iload_n 3, 1) := by decide +kernel
theorem dX7_insure_98 : decode cX7_insure 98 = .ok (.aload_n 0, 1) := by decide +kernel
theorem dX7_insure_99 : decode cX7_insure 99 = .ok (.getfield 10, 3) := by decide +kernel
theorem dX7_insure_102 : decode cX7_insure 102 = .ok (.getfield 124, 3) := by decide +kernel
theorem dX7_insure_105 : decode cX7_insure 105 = .ok (.invokevirtual 127, 3) := by decide +kernel
theorem dX7_insure_108 : decode cX7_insure 108 = .ok (.istore 5, 2) := by decide +kernel
theorem dX7_insure_110 : decode cX7_insure 110 = .ok (.aload_n 0, 1) := by decide +kernel
theorem dX7_insure_111 : decode cX7_insure 111 = .ok (.getfield 10, 3) := by decide +kernel
theorem dX7_insure_114 : decode cX7_insure 114 = .ok (.getfield 41, 3) := by decide +kernel
theorem dX7_insure_117 : decode cX7_insure 117 = .ok (.getfield 99, 3) := by decide +kernel
theorem dX7_insure_120 : decode cX7_insure 120 = .ok (.iload 4, 2) := by decide +kernel
theorem dX7_insure_122 : decode cX7_insure 122 = .ok (.iaload, 1) := by decide +kernel
theorem dX7_insure_123 : decode cX7_insure 123 = .ok (.iload 5, 2) := by decide +kernel
theorem dX7_insure_125 : decode cX7_insure 125 = .ok (.if_icmp .lt 7, 3) := by decide +kernel
theorem dX7_insure_128 : decode cX7_insure 128 = .ok (.iconst 1, 1) := by decide +kernel
theorem dX7_insure_129 : decode cX7_insure 129 = .ok (.goto 4, 3) := by decide +kernel
theorem dX7_insure_132 : decode cX7_insure 132 = .ok (.iconst 0, 1) := by decide +kernel
theorem dX7_insure_133 : decode cX7_insure 133 = .ok (.invokestatic 51, 3) := by decide +kernel
theorem dX7_insure_136 : decode cX7_insure 136 = .ok (.aload_n 0, 1) := by decide +kernel
theorem dX7_insure_137 : decode cX7_insure 137 = .ok (.getfield 22, 3) := by decide +kernel
theorem dX7_insure_140 : decode cX7_insure 140 = .ok (.aload_n 0, 1) := by decide +kernel
theorem dX7_insure_141 : decode cX7_insure 141 = .ok (.getfield 10, 3) := by decide +kernel
theorem dX7_insure_144 : decode cX7_insure 144 = .ok (.invokevirtual 54, 3) := by decide +kernel
theorem dX7_insure_147 : decode cX7_insure 147 = .ok (.aload_n 0, 1) := by decide +kernel
theorem dX7_insure_148 : decode cX7_insure 148 = .ok (.getfield 10, 3) := by decide +kernel
theorem dX7_insure_151 : decode cX7_insure 151 = .ok (.iload_n 1, 1) := by decide +kernel
theorem dX7_insure_152 : decode cX7_insure 152 = .ok (.iload_n 2, 1) := by decide +kernel
theorem dX7_insure_153 : decode cX7_insure 153 = .ok (.iload_n 3, 1) := by decide +kernel
theorem dX7_insure_154 : decode cX7_insure 154 = .ok (.iload 4, 2) := by decide +kernel
theorem dX7_insure_156 : decode cX7_insure 156 = .ok (.iload 5, 2) := by decide +kernel
theorem dX7_insure_158 : decode cX7_insure 158 = .ok (.invokevirtual 131, 3) := by decide +kernel
theorem dX7_insure_161 : decode cX7_insure 161 = .ok (.iload 5, 2) := by decide +kernel
theorem dX7_insure_163 : decode cX7_insure 163 = .ok (.ireturn, 1) := by decide +kernel
theorem dX7_renew_0 : decode cX7_renew 0 = .ok (.iload_n 1, 1) := by decide +kernel
theorem dX7_renew_1 : decode cX7_renew 1 = .ok (.invokestatic 83, 3) := by decide +kernel
theorem dX7_renew_4 : decode cX7_renew 4 = .ok (.aload_n 0, 1) := by decide +kernel
theorem dX7_renew_5 : decode cX7_renew 5 = .ok (.getfield 10, 3) := by decide +kernel
theorem dX7_renew_8 : decode cX7_renew 8 = .ok (.getfield 89, 3) := by decide +kernel
theorem dX7_renew_11 : decode cX7_renew 11 = .ok (.iload_n 1, 1) := by decide +kernel
theorem dX7_renew_12 : decode cX7_renew 12 = .ok (.invokevirtual 93, 3) := by decide +kernel
theorem dX7_renew_15 : decode cX7_renew 15 = .ok (.ifCond .ne 7, 3) := by decide +kernel
theorem dX7_renew_18 : decode cX7_renew 18 = .ok (.iconst 1, 1) := by decide +kernel
theorem dX7_renew_19 : decode cX7_renew 19 = .ok (.goto 4, 3) := by decide +kernel
theorem dX7_renew_22 : decode cX7_renew 22 = .ok (.iconst 0, 1) := by decide +kernel
theorem dX7_renew_23 : decode cX7_renew 23 = .ok (.invokestatic 51, 3) := by decide +kernel
theorem dX7_renew_26 : decode cX7_renew 26 = .ok (.aload_n 0, 1) := by decide +kernel
theorem dX7_renew_27 : decode cX7_renew 27 = .ok (.getfield 10, 3) := by decide +kernel
theorem dX7_renew_30 : decode cX7_renew 30 = .ok (.getfield 135, 3) := by decide +kernel
theorem dX7_renew_33 : decode cX7_renew 33 = .ok (.aload_n 0, 1) := by decide +kernel
theorem dX7_renew_34 : decode cX7_renew 34 = .ok (.getfield 10, 3) := by decide +kernel
theorem dX7_renew_37 : decode cX7_renew 37 = .ok (.getfield 80, 3) := by decide +kernel
theorem dX7_renew_40 : decode cX7_renew 40 = .ok (.bipush 7, 2) := by decide +kernel
theorem dX7_renew_42 : decode cX7_renew 42 = .ok (.iaload, 1) := by decide +kernel
theorem dX7_renew_43 : decode cX7_renew 43 = .ok (.if_icmp .lt 7, 3) := by decide +kernel
theorem dX7_renew_46 : decode cX7_renew 46 = .ok (.iconst 1, 1) := by decide +kernel
theorem dX7_renew_47 : decode cX7_renew 47 = .ok (.goto 4, 3) := by decide +kernel
theorem dX7_renew_50 : decode cX7_renew 50 = .ok (.iconst 0, 1) := by decide +kernel
theorem dX7_renew_51 : decode cX7_renew 51 = .ok (.invokestatic 51, 3) := by decide +kernel
theorem dX7_renew_54 : decode cX7_renew 54 = .ok (.aload_n 0, 1) := by decide +kernel
theorem dX7_renew_55 : decode cX7_renew 55 = .ok (.getfield 22, 3) := by decide +kernel
theorem dX7_renew_58 : decode cX7_renew 58 = .ok (.aload_n 0, 1) := by decide +kernel
theorem dX7_renew_59 : decode cX7_renew 59 = .ok (.getfield 10, 3) := by decide +kernel
theorem dX7_renew_62 : decode cX7_renew 62 = .ok (.invokevirtual 54, 3) := by decide +kernel
theorem dX7_renew_65 : decode cX7_renew 65 = .ok (.aload_n 0, 1) := by decide +kernel
theorem dX7_renew_66 : decode cX7_renew 66 = .ok (.getfield 10, 3) := by decide +kernel
theorem dX7_renew_69 : decode cX7_renew 69 = .ok (.getfield 89, 3) := by decide +kernel
theorem dX7_renew_72 : decode cX7_renew 72 = .ok (.getfield 138, 3) := by decide +kernel
theorem dX7_renew_75 : decode cX7_renew 75 = .ok (.iload_n 1, 1) := by decide +kernel
theorem dX7_renew_76 : decode cX7_renew 76 = .ok (.iaload, 1) := by decide +kernel
theorem dX7_renew_77 : decode cX7_renew 77 = .ok (.istore_n 2, 1) := by decide +kernel
theorem dX7_renew_78 : decode cX7_renew 78 = .ok (.aload_n 0, 1) := by decide +kernel
theorem dX7_renew_79 : decode cX7_renew 79 = .ok (.getfield 10, 3) := by decide +kernel
theorem dX7_renew_82 : decode cX7_renew 82 = .ok (.iload_n 1, 1) := by decide +kernel
theorem dX7_renew_83 : decode cX7_renew 83 = .ok (.invokevirtual 141, 3) := by decide +kernel
theorem dX7_renew_86 : decode cX7_renew 86 = .ok (.iload_n 2, 1) := by decide +kernel
theorem dX7_renew_87 : decode cX7_renew 87 = .ok (.ireturn, 1) := by decide +kernel
theorem dX7_write_0 : decode cX7_write 0 = .ok (.iload_n 1, 1) := by decide +kernel
theorem dX7_write_1 : decode cX7_write 1 = .ok (.invokestatic 83, 3) := by decide +kernel
theorem dX7_write_4 : decode cX7_write 4 = .ok (.aload_n 0, 1) := by decide +kernel
end
section
theorem dX7_write_5 : decode cX7_write 5 = .ok (.getfield 10, 3) := by decide +kernel
theorem dX7_write_8 : decode cX7_write 8 = .ok (.getfield 89, 3) := by decide +kernel
theorem dX7_write_11 : decode cX7_write 11 = .ok (.iload_n 1, 1) := by decide +kernel
theorem dX7_write_12 : decode cX7_write 12 = .ok (.invokevirtual 93, 3) := by decide +kernel
theorem dX7_write_15 : decode cX7_write 15 = .ok (.invokestatic 51, 3) := by decide +kernel
theorem dX7_write_18 : decode cX7_write 18 = .ok (.aload_n 0, 1) := by decide +kernel
theorem dX7_write_19 : decode cX7_write 19 = .ok (.getfield 22, 3) := by decide +kernel
theorem dX7_write_22 : decode cX7_write 22 = .ok (.aload_n 0, 1) := by decide +kernel
theorem dX7_write_23 : decode cX7_write 23 = .ok (.getfield 10, 3) := by decide +kernel
theorem dX7_write_26 : decode cX7_write 26 = .ok (.invokevirtual 54, 3) := by decide +kernel
theorem dX7_write_29 : decode cX7_write 29 = .ok (.aload_n 0, 1) := by decide +kernel
theorem dX7_write_30 : decode cX7_write 30 = .ok (.getfield 10, 3) := by decide +kernel
theorem dX7_write_33 : decode cX7_write 33 = .ok (.iload_n 1, 1) := by decide +kernel
theorem dX7_write_34 : decode cX7_write 34 = .ok (.iload_n 2, 1) := by decide +kernel
theorem dX7_write_35 : decode cX7_write 35 = .ok (.invokevirtual 144, 3) := by decide +kernel
theorem dX7_write_38 : decode cX7_write 38 = .ok (.aload_n 0, 1) := by decide +kernel
theorem dX7_write_39 : decode cX7_write 39 = .ok (.getfield 10, 3) := by decide +kernel
theorem dX7_write_42 : decode cX7_write 42 = .ok (.getfield 89, 3) := by decide +kernel
theorem dX7_write_45 : decode cX7_write 45 = .ok (.iload_n 1, 1) := by decide +kernel
theorem dX7_write_46 : decode cX7_write 46 = .ok (.invokevirtual 148, 3) := by decide +kernel
theorem dX7_write_49 : decode cX7_write 49 = .ok (.ireturn, 1) := by decide +kernel
theorem dX7_read_0 : decode cX7_read 0 = .ok (.iload_n 1, 1) := by decide +kernel
theorem dX7_read_1 : decode cX7_read 1 = .ok (.invokestatic 83, 3) := by decide +kernel
theorem dX7_read_4 : decode cX7_read 4 = .ok (.aload_n 0, 1) := by decide +kernel
theorem dX7_read_5 : decode cX7_read 5 = .ok (.getfield 10, 3) := by decide +kernel
theorem dX7_read_8 : decode cX7_read 8 = .ok (.iload_n 1, 1) := by decide +kernel
theorem dX7_read_9 : decode cX7_read 9 = .ok (.invokevirtual 151, 3) := by decide +kernel
theorem dX7_read_12 : decode cX7_read 12 = .ok (.invokestatic 51, 3) := by decide +kernel
theorem dX7_read_15 : decode cX7_read 15 = .ok (.aload_n 0, 1) := by decide +kernel
theorem dX7_read_16 : decode cX7_read 16 = .ok (.getfield 22, 3) := by decide +kernel
theorem dX7_read_19 : decode cX7_read 19 = .ok (.aload_n 0, 1) := by decide +kernel
theorem dX7_read_20 : decode cX7_read 20 = .ok (.getfield 10, 3) := by decide +kernel
theorem dX7_read_23 : decode cX7_read 23 = .ok (.invokevirtual 54, 3) := by decide +kernel
theorem dX7_read_26 : decode cX7_read 26 = .ok (.aload_n 0, 1) := by decide +kernel
theorem dX7_read_27 : decode cX7_read 27 = .ok (.getfield 10, 3) := by decide +kernel
theorem dX7_read_30 : decode cX7_read 30 = .ok (.iload_n 1, 1) := by decide +kernel
theorem dX7_read_31 : decode cX7_read 31 = .ok (.invokevirtual 154, 3) := by decide +kernel
theorem dX7_read_34 : decode cX7_read 34 = .ok (.ireturn, 1) := by decide +kernel
theorem dX7_writeBack_0 : decode cX7_writeBack 0 = .ok (.aload_n 0, 1) := by decide +kernel
theorem dX7_writeBack_1 : decode cX7_writeBack 1 = .ok (.getfield 10, 3) := by decide +kernel
theorem dX7_writeBack_4 : decode cX7_writeBack 4 = .ok (.getfield 157, 3) := by decide +kernel
theorem dX7_writeBack_7 : decode cX7_writeBack 7 = .ok (.getfield 161, 3) := by decide +kernel
theorem dX7_writeBack_10 : decode cX7_writeBack 10 = .ok (.ifCond .le 7, 3) := by decide +kernel
theorem dX7_writeBack_13 : decode cX7_writeBack 13 = .ok (.iconst 1, 1) := by decide +kernel
theorem dX7_writeBack_14 : decode cX7_writeBack 14 = .ok (.goto 4, 3) := by decide +kernel
theorem dX7_writeBack_17 : decode cX7_writeBack 17 = .ok (.iconst 0, 1) := by decide +kernel
theorem dX7_writeBack_18 : decode cX7_writeBack 18 = .ok (.invokestatic 51, 3) := by decide +kernel
theorem dX7_writeBack_21 : decode cX7_writeBack 21 = .ok (.aload_n 0, 1) := by decide +kernel
theorem dX7_writeBack_22 : decode cX7_writeBack 22 = .ok (.getfield 22, 3) := by decide +kernel
theorem dX7_writeBack_25 : decode cX7_writeBack 25 = .ok (.aload_n 0, 1) := by decide +kernel
theorem dX7_writeBack_26 : decode cX7_writeBack 26 = .ok (.getfield 10, 3) := by decide +kernel
theorem dX7_writeBack_29 : decode cX7_writeBack 29 = .ok (.invokevirtual 54, 3) := by decide +kernel
theorem dX7_writeBack_32 : decode cX7_writeBack 32 = .ok (.aload_n 0, 1) := by decide +kernel
theorem dX7_writeBack_33 : decode cX7_writeBack 33 = .ok (.getfield 10, 3) := by decide +kernel
theorem dX7_writeBack_36 : decode cX7_writeBack 36 = .ok (.invokevirtual 164, 3) := by decide +kernel
theorem dX7_writeBack_39 : decode cX7_writeBack 39 = .ok (.ireturn, 1) := by decide +kernel
theorem dX7_pass_0 : decode cX7_pass 0 = .ok (.iload_n 1, 1) := by decide +kernel
theorem dX7_pass_1 : decode cX7_pass 1 = .ok (.iconst 1, 1) := by decide +kernel
theorem dX7_pass_2 : decode cX7_pass 2 = .ok (.bipush 100, 2) := by decide +kernel
theorem dX7_pass_4 : decode cX7_pass 4 = .ok (.invokestatic 33, 3) := by decide +kernel
theorem dX7_pass_7 : decode cX7_pass 7 = .ok (.invokestatic 37, 3) := by decide +kernel
theorem dX7_pass_10 : decode cX7_pass 10 = .ok (.aload_n 0, 1) := by decide +kernel
theorem dX7_pass_11 : decode cX7_pass 11 = .ok (.getfield 10, 3) := by decide +kernel
theorem dX7_pass_14 : decode cX7_pass 14 = .ok (.getfield 168, 3) := by decide +kernel
theorem dX7_pass_17 : decode cX7_pass 17 = .ok (.iload_n 1, 1) := by decide +kernel
theorem dX7_pass_18 : decode cX7_pass 18 = .ok (.iadd, 1) := by decide +kernel
theorem dX7_pass_19 : decode cX7_pass 19 = .ok (.sipush 10000, 3) := by decide +kernel
theorem dX7_pass_22 : decode cX7_pass 22 = .ok (.if_icmp .gt 7, 3) := by decide +kernel
theorem dX7_pass_25 : decode cX7_pass 25 = .ok (.iconst 1, 1) := by decide +kernel
theorem dX7_pass_26 : decode cX7_pass 26 = .ok (.goto 4, 3) := by decide +kernel
theorem dX7_pass_29 : decode cX7_pass 29 = .ok (.iconst 0, 1) := by decide +kernel
theorem dX7_pass_30 : decode cX7_pass 30 = .ok (.invokestatic 51, 3) := by decide +kernel
theorem dX7_pass_33 : decode cX7_pass 33 = .ok (.aload_n 0, 1) := by decide +kernel
theorem dX7_pass_34 : decode cX7_pass 34 = .ok (.getfield 22, 3) := by decide +kernel
theorem dX7_pass_37 : decode cX7_pass 37 = .ok (.aload_n 0, 1) := by decide +kernel
theorem dX7_pass_38 : decode cX7_pass 38 = .ok (.getfield 10, 3) := by decide +kernel
theorem dX7_pass_41 : decode cX7_pass 41 = .ok (.invokevirtual 54, 3) := by decide +kernel
theorem dX7_pass_44 : decode cX7_pass 44 = .ok (.aload_n 0, 1) := by decide +kernel
theorem dX7_pass_45 : decode cX7_pass 45 = .ok (.getfield 10, 3) := by decide +kernel
theorem dX7_pass_48 : decode cX7_pass 48 = .ok (.iload_n 1, 1) := by decide +kernel
theorem dX7_pass_49 : decode cX7_pass 49 = .ok (.invokevirtual 171, 3) := by decide +kernel
theorem dX7_pass_52 : decode cX7_pass 52 = .ok (.aload_n 0, 1) := by decide +kernel
theorem dX7_pass_53 : decode cX7_pass 53 = .ok (.getfield 10, 3) := by decide +kernel
theorem dX7_pass_56 : decode cX7_pass 56 = .ok (.getfield 124, 3) := by decide +kernel
theorem dX7_pass_59 : decode cX7_pass 59 = .ok (.ireturn, 1) := by decide +kernel
theorem dX7_append_0 : decode cX7_append 0 = .ok (.iload_n 1, 1) := by decide +kernel
theorem dX7_append_1 : decode cX7_append 1 = .ok (.bipush 33, 2) := by decide +kernel
theorem dX7_append_3 : decode cX7_append 3 = .ok (.bipush 126, 2) := by decide +kernel
theorem dX7_append_5 : decode cX7_append 5 = .ok (.invokestatic 33, 3) := by decide +kernel
theorem dX7_append_8 : decode cX7_append 8 = .ok (.invokestatic 37, 3) := by decide +kernel
theorem dX7_append_11 : decode cX7_append 11 = .ok (.aload_n 0, 1) := by decide +kernel
theorem dX7_append_12 : decode cX7_append 12 = .ok (.getfield 29, 3) := by decide +kernel
theorem dX7_append_15 : decode cX7_append 15 = .ok (.getfield 174, 3) := by decide +kernel
theorem dX7_append_18 : decode cX7_append 18 = .ok (.bipush 60, 2) := by decide +kernel
theorem dX7_append_20 : decode cX7_append 20 = .ok (.if_icmp .ge 7, 3) := by decide +kernel
theorem dX7_append_23 : decode cX7_append 23 = .ok (.iconst 1, 1) := by decide +kernel
theorem dX7_append_24 : decode cX7_append 24 = .ok (.goto 4, 3) := by decide +kernel
theorem dX7_append_27 : decode cX7_append 27 = .ok (.iconst 0, 1) := by decide +kernel
theorem dX7_append_28 : decode cX7_append 28 = .ok (.invokestatic 51, 3) := by decide +kernel
theorem dX7_append_31 : decode cX7_append 31 = .ok (.aload_n 0, 1) := by decide +kernel
theorem dX7_append_32 : decode cX7_append 32 = .ok (.getfield 29, 3) := by decide +kernel
theorem dX7_append_35 : decode cX7_append 35 = .ok (.iload_n 1, 1) := by decide +kernel
theorem dX7_append_36 : decode cX7_append 36 = .ok (.invokevirtual 177, 3) := by decide +kernel
theorem dX7_append_39 : decode cX7_append 39 = .ok (.aload_n 0, 1) := by decide +kernel
theorem dX7_append_40 : decode cX7_append 40 = .ok (.getfield 29, 3) := by decide +kernel
theorem dX7_append_43 : decode cX7_append 43 = .ok (.getfield 174, 3) := by decide +kernel
theorem dX7_append_46 : decode cX7_append 46 = .ok (.ireturn, 1) := by decide +kernel
theorem dX7_clearBuffer_0 : decode cX7_clearBuffer 0 = .ok (.aload_n 0, 1) := by decide +kernel
theorem dX7_clearBuffer_1 : decode cX7_clearBuffer 1 = .ok (.getfield 29, 3) := by decide +kernel
theorem dX7_clearBuffer_4 : decode cX7_clearBuffer 4 = .ok (.getfield 174, 3) := by decide +kernel
theorem dX7_clearBuffer_7 : decode cX7_clearBuffer 7 = .ok (.istore_n 1, 1) := by decide +kernel
theorem dX7_clearBuffer_8 : decode cX7_clearBuffer 8 = .ok (.aload_n 0, 1) := by decide +kernel
theorem dX7_clearBuffer_9 : decode cX7_clearBuffer 9 = .ok (.getfield 29, 3) := by decide +kernel
theorem dX7_clearBuffer_12 : decode cX7_clearBuffer 12 = .ok (.iconst 0, 1) := by decide +kernel
theorem dX7_clearBuffer_13 : decode cX7_clearBuffer 13 = .ok (.putfield 174, 3) := by decide +kernel
theorem dX7_clearBuffer_16 : decode cX7_clearBuffer 16 = .ok (.iload_n 1, 1) := by decide +kernel
theorem dX7_clearBuffer_17 : decode cX7_clearBuffer 17 = .ok (.ireturn, 1) := by decide +kernel
theorem dX7_firstError_0 : decode cX7_firstError 0 = .ok (.aload_n 0, 1) := by decide +kernel
theorem dX7_firstError_1 : decode cX7_firstError 1 = .ok (.getfield 29, 3) := by decide +kernel
theorem dX7_firstError_4 : decode cX7_firstError 4 = .ok (.invokevirtual 180, 3) := by decide +kernel
theorem dX7_firstError_7 : decode cX7_firstError 7 = .ok (.ireturn, 1) := by decide +kernel
theorem dX7_run_0 : decode cX7_run 0 = .ok (.aload_n 0, 1) := by decide +kernel
theorem dX7_run_1 : decode cX7_run 1 = .ok (.iload_n 1, 1) := by decide +kernel
theorem dX7_run_2 : decode cX7_run 2 = .ok (.invokevirtual 86, 3) := by decide +kernel
theorem dX7_run_5 : decode cX7_run 5 = .ok (.aload_n 0, 1) := by decide +kernel
theorem dX7_run_6 : decode cX7_run 6 = .ok (.getfield 29, 3) := by decide +kernel
theorem dX7_run_9 : decode cX7_run 9 = .ok (.invokevirtual 183, 3) := by decide +kernel
theorem dX7_run_12 : decode cX7_run 12 = .ok (.invokestatic 37, 3) := by decide +kernel
theorem dX7_run_15 : decode cX7_run 15 = .ok (.aload_n 0, 1) := by decide +kernel
theorem dX7_run_16 : decode cX7_run 16 = .ok (.getfield 22, 3) := by decide +kernel
theorem dX7_run_19 : decode cX7_run 19 = .ok (.aload_n 0, 1) := by decide +kernel
theorem dX7_run_20 : decode cX7_run 20 = .ok (.getfield 10, 3) := by decide +kernel
theorem dX7_run_23 : decode cX7_run 23 = .ok (.invokevirtual 54, 3) := by decide +kernel
theorem dX7_run_26 : decode cX7_run 26 = .ok (.iconst 0, 1) := by decide +kernel
theorem dX7_run_27 : decode cX7_run 27 = .ok (.istore_n 2, 1) := by decide +kernel
theorem dX7_run_28 : decode cX7_run 28 = .ok (.iconst 0, 1) := by decide +kernel
theorem dX7_run_29 : decode cX7_run 29 = .ok (.istore_n 3, 1) := by decide +kernel
theorem dX7_run_30 : decode cX7_run 30 = .ok (.iload_n 3, 1) := by decide +kernel
theorem dX7_run_31 : decode cX7_run 31 = .ok (.aload_n 0, 1) := by decide +kernel
theorem dX7_run_32 : decode cX7_run 32 = .ok (.getfield 29, 3) := by decide +kernel
theorem dX7_run_35 : decode cX7_run 35 = .ok (.getfield 174, 3) := by decide +kernel
theorem dX7_run_38 : decode cX7_run 38 = .ok (.if_icmp .ge 36, 3) := by decide +kernel
theorem dX7_run_41 : decode cX7_run 41 = .ok (.aload_n 0, 1) := by decide +kernel
theorem dX7_run_42 : decode cX7_run 42 = .ok (.iload_n 1, 1) := by decide +kernel
theorem dX7_run_43 : decode cX7_run 43 = .ok (.iload_n 3, 1) := by decide +kernel
theorem dX7_run_44 : decode cX7_run 44 = .ok (.invokevirtual 187, 3) := by decide +kernel
theorem dX7_run_47 : decode cX7_run 47 = .ok (.ifCond .eq 27, 3) := by decide +kernel
theorem dX7_run_50 : decode cX7_run 50 = .ok (.aload_n 0, 1) := by decide +kernel
theorem dX7_run_51 : decode cX7_run 51 = .ok (.iload_n 3, 1) := by decide +kernel
theorem dX7_run_52 : decode cX7_run 52 = .ok (.invokevirtual 191, 3) := by decide +kernel
theorem dX7_run_55 : decode cX7_run 55 = .ok (.iinc 2 1, 3) := by decide +kernel
theorem dX7_run_58 : decode cX7_run 58 = .ok (.iload_n 3, 1) := by decide +kernel
theorem dX7_run_59 : decode cX7_run 59 = .ok (.aload_n 0, 1) := by decide +kernel
theorem dX7_run_60 : decode cX7_run 60 = .ok (.getfield 29, 3) := by decide +kernel
theorem dX7_run_63 : decode cX7_run 63 = .ok (.iload_n 3, 1) := by decide +kernel
theorem dX7_run_64 : decode cX7_run 64 = .ok (.invokevirtual 194, 3) := by decide +kernel
theorem dX7_run_67 : decode cX7_run 67 = .ok (.iconst 1, 1) := by decide +kernel
theorem dX7_run_68 : decode cX7_run 68 = .ok (.iadd, 1) := by decide +kernel
theorem dX7_run_69 : decode cX7_run 69 = .ok (.iadd, 1) := by decide +kernel
theorem dX7_run_70 : decode cX7_run 70 = .ok (.istore_n 3, 1) := by decide +kernel
theorem dX7_run_71 : decode cX7_run 71 = .ok (.goto (-41), 3) := by decide +kernel
theorem dX7_run_74 : decode cX7_run 74 = .ok (.aload_n 0, 1) := by decide +kernel
theorem dX7_run_75 : decode cX7_run 75 = .ok (.getfield 29, 3) := by decide +kernel
theorem dX7_run_78 : decode cX7_run 78 = .ok (.iconst 0, 1) := by decide +kernel
theorem dX7_run_79 : decode cX7_run 79 = .ok (.putfield 174, 3) := by decide +kernel
theorem dX7_run_82 : decode cX7_run 82 = .ok (.iload_n 2, 1) := by decide +kernel
theorem dX7_run_83 : decode cX7_run 83 = .ok (.ireturn, 1) := by decide +kernel
theorem dX7_undo_0 : decode cX7_undo 0 = .ok (.aload_n 0, 1) := by decide +kernel
theorem dX7_undo_1 : decode cX7_undo 1 = .ok (.getfield 22, 3) := by decide +kernel
theorem dX7_undo_4 : decode cX7_undo 4 = .ok (.getfield 197, 3) := by decide +kernel
theorem dX7_undo_7 : decode cX7_undo 7 = .ok (.ifCond .le 7, 3) := by decide +kernel
theorem dX7_undo_10 : decode cX7_undo 10 = .ok (.iconst 1, 1) := by decide +kernel
theorem dX7_undo_11 : decode cX7_undo 11 = .ok (.goto 4, 3) := by decide +kernel
theorem dX7_undo_14 : decode cX7_undo 14 = .ok (.iconst 0, 1) := by decide +kernel
theorem dX7_undo_15 : decode cX7_undo 15 = .ok (.invokestatic 51, 3) := by decide +kernel
theorem dX7_undo_18 : decode cX7_undo 18 = .ok (.aload_n 0, 1) := by decide +kernel
theorem dX7_undo_19 : decode cX7_undo 19 = .ok (.getfield 22, 3) := by decide +kernel
theorem dX7_undo_22 : decode cX7_undo 22 = .ok (.aload_n 0, 1) := by decide +kernel
theorem dX7_undo_23 : decode cX7_undo 23 = .ok (.getfield 10, 3) := by decide +kernel
theorem dX7_undo_26 : decode cX7_undo 26 = .ok (.invokevirtual 198, 3) := by decide +kernel
theorem dX7_undo_29 : decode cX7_undo 29 = .ok (.aload_n 0, 1) := by decide +kernel
theorem dX7_undo_30 : decode cX7_undo 30 = .ok (.getfield 22, 3) := by decide +kernel
theorem dX7_undo_33 : decode cX7_undo 33 = .ok (.getfield 197, 3) := by decide +kernel
theorem dX7_undo_36 : decode cX7_undo 36 = .ok (.ireturn, 1) := by decide +kernel
theorem dX7_core_0 : decode cX7_core 0 = .ok (.iload_n 1, 1) := by decide +kernel
theorem dX7_core_1 : decode cX7_core 1 = .ok (.invokestatic 83, 3) := by decide +kernel
theorem dX7_core_4 : decode cX7_core 4 = .ok (.iload_n 2, 1) := by decide +kernel
theorem dX7_core_5 : decode cX7_core 5 = .ok (.iconst 0, 1) := by decide +kernel
theorem dX7_core_6 : decode cX7_core 6 = .ok (.bipush 8, 2) := by decide +kernel
theorem dX7_core_8 : decode cX7_core 8 = .ok (.invokestatic 33, 3) := by decide +kernel
theorem dX7_core_11 : decode cX7_core 11 = .ok (.invokestatic 37, 3) := by decide +kernel
theorem dX7_core_14 : decode cX7_core 14 = .ok (.iload_n 2, 1) := by decide +kernel
theorem dX7_core_15 : decode cX7_core 15 = .ok (.tableswitch 147 0 7 #[45, 57, 70, 83, 92, 105, 114, 134], 45) := by decide +kernel
theorem dX7_core_60 : decode cX7_core 60 = .ok (.aload_n 0, 1) := by decide +kernel
theorem dX7_core_61 : decode cX7_core 61 = .ok (.getfield 10, 3) := by decide +kernel
theorem dX7_core_64 : decode cX7_core 64 = .ok (.getfield 89, 3) := by decide +kernel
theorem dX7_core_67 : decode cX7_core 67 = .ok (.iload_n 1, 1) := by decide +kernel
theorem dX7_core_68 : decode cX7_core 68 = .ok (.invokevirtual 148, 3) := by decide +kernel
theorem dX7_core_71 : decode cX7_core 71 = .ok (.ireturn, 1) := by decide +kernel
theorem dX7_core_72 : decode cX7_core 72 = .ok (.aload_n 0, 1) := by decide +kernel
theorem dX7_core_73 : decode cX7_core 73 = .ok (.getfield 10, 3) := by decide +kernel
theorem dX7_core_76 : decode cX7_core 76 = .ok (.getfield 89, 3) := by decide +kernel
theorem dX7_core_79 : decode cX7_core 79 = .ok (.getfield 138, 3) := by decide +kernel
theorem dX7_core_82 : decode cX7_core 82 = .ok (.iload_n 1, 1) := by decide +kernel
theorem dX7_core_83 : decode cX7_core 83 = .ok (.iaload, 1) := by decide +kernel
theorem dX7_core_84 : decode cX7_core 84 = .ok (.ireturn, 1) := by decide +kernel
theorem dX7_core_85 : decode cX7_core 85 = .ok (.aload_n 0, 1) := by decide +kernel
theorem dX7_core_86 : decode cX7_core 86 = .ok (.getfield 10, 3) := by decide +kernel
theorem dX7_core_89 : decode cX7_core 89 = .ok (.getfield 89, 3) := by decide +kernel
theorem dX7_core_92 : decode cX7_core 92 = .ok (.getfield 112, 3) := by decide +kernel
theorem dX7_core_95 : decode cX7_core 95 = .ok (.iload_n 1, 1) := by decide +kernel
theorem dX7_core_96 : decode cX7_core 96 = .ok (.iaload, 1) := by decide +kernel
theorem dX7_core_97 : decode cX7_core 97 = .ok (.ireturn, 1) := by decide +kernel
theorem dX7_core_98 : decode cX7_core 98 = .ok (.aload_n 0, 1) := by decide +kernel
theorem dX7_core_99 : decode cX7_core 99 = .ok (.getfield 10, 3) := by decide +kernel
theorem dX7_core_102 : decode cX7_core 102 = .ok (.iload_n 1, 1) := by decide +kernel
theorem dX7_core_103 : decode cX7_core 103 = .ok (.invokevirtual 121, 3) := by decide +kernel
theorem dX7_core_106 : decode cX7_core 106 = .ok (.ireturn, 1) := by decide +kernel
theorem dX7_core_107 : decode cX7_core 107 = .ok (.aload_n 0, 1) := by decide +kernel
theorem dX7_core_108 : decode cX7_core 108 = .ok (.getfield 10, 3) := by decide +kernel
theorem dX7_core_111 : decode cX7_core 111 = .ok (.getfield 89, 3) := by decide +kernel
theorem dX7_core_114 : decode cX7_core 114 = .ok (.getfield 201, 3) := by decide +kernel
theorem dX7_core_117 : decode cX7_core 117 = .ok (.iload_n 1, 1) := by decide +kernel
theorem dX7_core_118 : decode cX7_core 118 = .ok (.iaload, 1) := by decide +kernel
theorem dX7_core_119 : decode cX7_core 119 = .ok (.ireturn, 1) := by decide +kernel
theorem dX7_core_120 : decode cX7_core 120 = .ok (.aload_n 0, 1) := by decide +kernel
theorem dX7_core_121 : decode cX7_core 121 = .ok (.getfield 10, 3) := by decide +kernel
theorem dX7_core_124 : decode cX7_core 124 = .ok (.iload_n 1, 1) := by decide +kernel
theorem dX7_core_125 : decode cX7_core 125 = .ok (.invokevirtual 204, 3) := by decide +kernel
theorem dX7_core_128 : decode cX7_core 128 = .ok (.ireturn, 1) := by decide +kernel
theorem dX7_core_129 : decode cX7_core 129 = .ok (.aload_n 0, 1) := by decide +kernel
theorem dX7_core_130 : decode cX7_core 130 = .ok (.getfield 10, 3) := by decide +kernel
theorem dX7_core_133 : decode cX7_core 133 = .ok (.getfield 157, 3) := by decide +kernel
theorem dX7_core_136 : decode cX7_core 136 = .ok (.iload_n 1, 1) := by decide +kernel
theorem dX7_core_137 : decode cX7_core 137 = .ok (.invokevirtual 207, 3) := by decide +kernel
theorem dX7_core_140 : decode cX7_core 140 = .ok (.ifCond .eq 7, 3) := by decide +kernel
theorem dX7_core_143 : decode cX7_core 143 = .ok (.iconst 1, 1) := by decide +kernel
theorem dX7_core_144 : decode cX7_core 144 = .ok (.goto 4, 3) := by decide +kernel
theorem dX7_core_147 : decode cX7_core 147 = .ok (.iconst 0, 1) := by decide +kernel
theorem dX7_core_148 : decode cX7_core 148 = .ok (.ireturn, 1) := by decide +kernel
theorem dX7_core_149 : decode cX7_core 149 = .ok (.aload_n 0, 1) := by decide +kernel
theorem dX7_core_150 : decode cX7_core 150 = .ok (.getfield 10, 3) := by decide +kernel
theorem dX7_core_153 : decode cX7_core 153 = .ok (.getfield 157, 3) := by decide +kernel
theorem dX7_core_156 : decode cX7_core 156 = .ok (.getfield 210, 3) := by decide +kernel
theorem dX7_core_159 : decode cX7_core 159 = .ok (.iload_n 1, 1) := by decide +kernel
theorem dX7_core_160 : decode cX7_core 160 = .ok (.iaload, 1) := by decide +kernel
theorem dX7_core_161 : decode cX7_core 161 = .ok (.ireturn, 1) := by decide +kernel
theorem dX7_core_162 : decode cX7_core 162 = .ok (.aload_n 0, 1) := by decide +kernel
theorem dX7_core_163 : decode cX7_core 163 = .ok (.getfield 10, 3) := by decide +kernel
theorem dX7_core_166 : decode cX7_core 166 = .ok (.getfield 89, 3) := by decide +kernel
theorem dX7_core_169 : decode cX7_core 169 = .ok (.getfield 213, 3) := by decide +kernel
theorem dX7_core_172 : decode cX7_core 172 = .ok (.iload_n 1, 1) := by decide +kernel
theorem dX7_core_173 : decode cX7_core 173 = .ok (.iaload, 1) := by decide +kernel
theorem dX7_core_174 : decode cX7_core 174 = .ok (.ireturn, 1) := by decide +kernel
theorem dX7_tenant_0 : decode cX7_tenant 0 = .ok (.aload_n 0, 1) := by decide +kernel
theorem dX7_tenant_1 : decode cX7_tenant 1 = .ok (.iload_n 1, 1) := by decide +kernel
theorem dX7_tenant_2 : decode cX7_tenant 2 = .ok (.invokevirtual 86, 3) := by decide +kernel
theorem dX7_tenant_5 : decode cX7_tenant 5 = .ok (.iload_n 2, 1) := by decide +kernel
theorem dX7_tenant_6 : decode cX7_tenant 6 = .ok (.iconst 0, 1) := by decide +kernel
theorem dX7_tenant_7 : decode cX7_tenant 7 = .ok (.iconst 5, 1) := by decide +kernel
theorem dX7_tenant_8 : decode cX7_tenant 8 = .ok (.invokestatic 33, 3) := by decide +kernel
theorem dX7_tenant_11 : decode cX7_tenant 11 = .ok (.invokestatic 37, 3) := by decide +kernel
theorem dX7_tenant_14 : decode cX7_tenant 14 = .ok (.iload_n 2, 1) := by decide +kernel
theorem dX7_tenant_15 : decode cX7_tenant 15 = .ok (.tableswitch 96 0 4 #[33, 46, 58, 70, 83], 33) := by decide +kernel
theorem dX7_tenant_48 : decode cX7_tenant 48 = .ok (.aload_n 0, 1) := by decide +kernel
theorem dX7_tenant_49 : decode cX7_tenant 49 = .ok (.getfield 10, 3) := by decide +kernel
theorem dX7_tenant_52 : decode cX7_tenant 52 = .ok (.getfield 41, 3) := by decide +kernel
theorem dX7_tenant_55 : decode cX7_tenant 55 = .ok (.getfield 99, 3) := by decide +kernel
theorem dX7_tenant_58 : decode cX7_tenant 58 = .ok (.iload_n 1, 1) := by decide +kernel
theorem dX7_tenant_59 : decode cX7_tenant 59 = .ok (.iaload, 1) := by decide +kernel
theorem dX7_tenant_60 : decode cX7_tenant 60 = .ok (.ireturn, 1) := by decide +kernel
theorem dX7_tenant_61 : decode cX7_tenant 61 = .ok (.aload_n 0, 1) := by decide +kernel
theorem dX7_tenant_62 : decode cX7_tenant 62 = .ok (.getfield 10, 3) := by decide +kernel
theorem dX7_tenant_65 : decode cX7_tenant 65 = .ok (.getfield 89, 3) := by decide +kernel
theorem dX7_tenant_68 : decode cX7_tenant 68 = .ok (.iload_n 1, 1) := by decide +kernel
theorem dX7_tenant_69 : decode cX7_tenant 69 = .ok (.invokevirtual 216, 3) := by decide +kernel
theorem dX7_tenant_72 : decode cX7_tenant 72 = .ok (.ireturn, 1) := by decide +kernel
theorem dX7_tenant_73 : decode cX7_tenant 73 = .ok (.aload_n 0, 1) := by decide +kernel
theorem dX7_tenant_74 : decode cX7_tenant 74 = .ok (.getfield 10, 3) := by decide +kernel
theorem dX7_tenant_77 : decode cX7_tenant 77 = .ok (.getfield 89, 3) := by decide +kernel
theorem dX7_tenant_80 : decode cX7_tenant 80 = .ok (.iload_n 1, 1) := by decide +kernel
theorem dX7_tenant_81 : decode cX7_tenant 81 = .ok (.invokevirtual 219, 3) := by decide +kernel
theorem dX7_tenant_84 : decode cX7_tenant 84 = .ok (.ireturn, 1) := by decide +kernel
theorem dX7_tenant_85 : decode cX7_tenant 85 = .ok (.aload_n 0, 1) := by decide +kernel
theorem dX7_tenant_86 : decode cX7_tenant 86 = .ok (.getfield 10, 3) := by decide +kernel
theorem dX7_tenant_89 : decode cX7_tenant 89 = .ok (.getfield 41, 3) := by decide +kernel
theorem dX7_tenant_92 : decode cX7_tenant 92 = .ok (.getfield 222, 3) := by decide +kernel
theorem dX7_tenant_95 : decode cX7_tenant 95 = .ok (.iload_n 1, 1) := by decide +kernel
theorem dX7_tenant_96 : decode cX7_tenant 96 = .ok (.iaload, 1) := by decide +kernel
theorem dX7_tenant_97 : decode cX7_tenant 97 = .ok (.ireturn, 1) := by decide +kernel
theorem dX7_tenant_98 : decode cX7_tenant 98 = .ok (.aload_n 0, 1) := by decide +kernel
theorem dX7_tenant_99 : decode cX7_tenant 99 = .ok (.getfield 10, 3) := by decide +kernel
theorem dX7_tenant_102 : decode cX7_tenant 102 = .ok (.getfield 41, 3) := by decide +kernel
theorem dX7_tenant_105 : decode cX7_tenant 105 = .ok (.getfield 223, 3) := by decide +kernel
theorem dX7_tenant_108 : decode cX7_tenant 108 = .ok (.iload_n 1, 1) := by decide +kernel
theorem dX7_tenant_109 : decode cX7_tenant 109 = .ok (.iaload, 1) := by decide +kernel
theorem dX7_tenant_110 : decode cX7_tenant 110 = .ok (.ireturn, 1) := by decide +kernel
theorem dX7_tenant_111 : decode cX7_tenant 111 = .ok (.aload_n 0, 1) := by decide +kernel
theorem dX7_tenant_112 : decode cX7_tenant 112 = .ok (.getfield 10, 3) := by decide +kernel
theorem dX7_tenant_115 : decode cX7_tenant 115 = .ok (.iload_n 1, 1) := by decide +kernel
theorem dX7_tenant_116 : decode cX7_tenant 116 = .ok (.invokevirtual 226, 3) := by decide +kernel
theorem dX7_tenant_119 : decode cX7_tenant 119 = .ok (.ireturn, 1) := by decide +kernel
theorem dX7_insurer_0 : decode cX7_insurer 0 = .ok (.aload_n 0, 1) := by decide +kernel
theorem dX7_insurer_1 : decode cX7_insurer 1 = .ok (.iload_n 1, 1) := by decide +kernel
theorem dX7_insurer_2 : decode cX7_insurer 2 = .ok (.invokevirtual 109, 3) := by decide +kernel
theorem dX7_insurer_5 : decode cX7_insurer 5 = .ok (.iload_n 2, 1) := by decide +kernel
theorem dX7_insurer_6 : decode cX7_insurer 6 = .ok (.iconst 0, 1) := by decide +kernel
theorem dX7_insurer_7 : decode cX7_insurer 7 = .ok (.bipush 6, 2) := by decide +kernel
theorem dX7_insurer_9 : decode cX7_insurer 9 = .ok (.invokestatic 33, 3) := by decide +kernel
theorem dX7_insurer_12 : decode cX7_insurer 12 = .ok (.invokestatic 37, 3) := by decide +kernel
theorem dX7_insurer_15 : decode cX7_insurer 15 = .ok (.iload_n 2, 1) := by decide +kernel
theorem dX7_insurer_16 : decode cX7_insurer 16 = .ok (.tableswitch 113 0 5 #[40, 53, 66, 79, 91, 104], 40) := by decide +kernel
theorem dX7_insurer_56 : decode cX7_insurer 56 = .ok (.aload_n 0, 1) := by decide +kernel
theorem dX7_insurer_57 : decode cX7_insurer 57 = .ok (.getfield 10, 3) := by decide +kernel
theorem dX7_insurer_60 : decode cX7_insurer 60 = .ok (.getfield 62, 3) := by decide +kernel
theorem dX7_insurer_63 : decode cX7_insurer 63 = .ok (.getfield 229, 3) := by decide +kernel
theorem dX7_insurer_66 : decode cX7_insurer 66 = .ok (.iload_n 1, 1) := by decide +kernel
theorem dX7_insurer_67 : decode cX7_insurer 67 = .ok (.iaload, 1) := by decide +kernel
theorem dX7_insurer_68 : decode cX7_insurer 68 = .ok (.ireturn, 1) := by decide +kernel
theorem dX7_insurer_69 : decode cX7_insurer 69 = .ok (.aload_n 0, 1) := by decide +kernel
theorem dX7_insurer_70 : decode cX7_insurer 70 = .ok (.getfield 10, 3) := by decide +kernel
theorem dX7_insurer_73 : decode cX7_insurer 73 = .ok (.getfield 62, 3) := by decide +kernel
theorem dX7_insurer_76 : decode cX7_insurer 76 = .ok (.getfield 232, 3) := by decide +kernel
theorem dX7_insurer_79 : decode cX7_insurer 79 = .ok (.iload_n 1, 1) := by decide +kernel
theorem dX7_insurer_80 : decode cX7_insurer 80 = .ok (.iaload, 1) := by decide +kernel
theorem dX7_insurer_81 : decode cX7_insurer 81 = .ok (.ireturn, 1) := by decide +kernel
theorem dX7_insurer_82 : decode cX7_insurer 82 = .ok (.aload_n 0, 1) := by decide +kernel
theorem dX7_insurer_83 : decode cX7_insurer 83 = .ok (.getfield 10, 3) := by decide +kernel
theorem dX7_insurer_86 : decode cX7_insurer 86 = .ok (.getfield 62, 3) := by decide +kernel
theorem dX7_insurer_89 : decode cX7_insurer 89 = .ok (.getfield 235, 3) := by decide +kernel
theorem dX7_insurer_92 : decode cX7_insurer 92 = .ok (.iload_n 1, 1) := by decide +kernel
theorem dX7_insurer_93 : decode cX7_insurer 93 = .ok (.iaload, 1) := by decide +kernel
theorem dX7_insurer_94 : decode cX7_insurer 94 = .ok (.ireturn, 1) := by decide +kernel
theorem dX7_insurer_95 : decode cX7_insurer 95 = .ok (.aload_n 0, 1) := by decide +kernel
theorem dX7_insurer_96 : decode cX7_insurer 96 = .ok (.getfield 10, 3) := by decide +kernel
theorem dX7_insurer_99 : decode cX7_insurer 99 = .ok (.getfield 89, 3) := by decide +kernel
theorem dX7_insurer_102 : decode cX7_insurer 102 = .ok (.iload_n 1, 1) := by decide +kernel
theorem dX7_insurer_103 : decode cX7_insurer 103 = .ok (.invokevirtual 238, 3) := by decide +kernel
theorem dX7_insurer_106 : decode cX7_insurer 106 = .ok (.ireturn, 1) := by decide +kernel
theorem dX7_insurer_107 : decode cX7_insurer 107 = .ok (.aload_n 0, 1) := by decide +kernel
theorem dX7_insurer_108 : decode cX7_insurer 108 = .ok (.getfield 10, 3) := by decide +kernel
theorem dX7_insurer_111 : decode cX7_insurer 111 = .ok (.getfield 62, 3) := by decide +kernel
theorem dX7_insurer_114 : decode cX7_insurer 114 = .ok (.getfield 241, 3) := by decide +kernel
theorem dX7_insurer_117 : decode cX7_insurer 117 = .ok (.iload_n 1, 1) := by decide +kernel
theorem dX7_insurer_118 : decode cX7_insurer 118 = .ok (.iaload, 1) := by decide +kernel
theorem dX7_insurer_119 : decode cX7_insurer 119 = .ok (.ireturn, 1) := by decide +kernel
theorem dX7_insurer_120 : decode cX7_insurer 120 = .ok (.aload_n 0, 1) := by decide +kernel
theorem dX7_insurer_121 : decode cX7_insurer 121 = .ok (.getfield 10, 3) := by decide +kernel
theorem dX7_insurer_124 : decode cX7_insurer 124 = .ok (.iload_n 1, 1) := by decide +kernel
theorem dX7_insurer_125 : decode cX7_insurer 125 = .ok (.invokevirtual 244, 3) := by decide +kernel
theorem dX7_insurer_128 : decode cX7_insurer 128 = .ok (.ireturn, 1) := by decide +kernel
theorem dX7_insurer_129 : decode cX7_insurer 129 = .ok (.aload_n 0, 1) := by decide +kernel
theorem dX7_insurer_130 : decode cX7_insurer 130 = .ok (.getfield 10, 3) := by decide +kernel
theorem dX7_insurer_133 : decode cX7_insurer 133 = .ok (.getfield 62, 3) := by decide +kernel
theorem dX7_insurer_136 : decode cX7_insurer 136 = .ok (.getfield 247, 3) := by decide +kernel
theorem dX7_insurer_139 : decode cX7_insurer 139 = .ok (.iload_n 1, 1) := by decide +kernel
theorem dX7_insurer_140 : decode cX7_insurer 140 = .ok (.iaload, 1) := by decide +kernel
theorem dX7_insurer_141 : decode cX7_insurer 141 = .ok (.ireturn, 1) := by decide +kernel
theorem dX7_owed_0 : decode cX7_owed 0 = .ok (.iload_n 1, 1) := by decide +kernel
theorem dX7_owed_1 : decode cX7_owed 1 = .ok (.iconst 0, 1) := by decide +kernel
theorem dX7_owed_2 : decode cX7_owed 2 = .ok (.bipush 63, 2) := by decide +kernel
theorem dX7_owed_4 : decode cX7_owed 4 = .ok (.invokestatic 33, 3) := by decide +kernel
theorem dX7_owed_7 : decode cX7_owed 7 = .ok (.invokestatic 37, 3) := by decide +kernel
theorem dX7_owed_10 : decode cX7_owed 10 = .ok (.iload_n 2, 1) := by decide +kernel
theorem dX7_owed_11 : decode cX7_owed 11 = .ok (.iconst 0, 1) := by decide +kernel
theorem dX7_owed_12 : decode cX7_owed 12 = .ok (.iconst 1, 1) := by decide +kernel
theorem dX7_owed_13 : decode cX7_owed 13 = .ok (.invokestatic 33, 3) := by decide +kernel
theorem dX7_owed_16 : decode cX7_owed 16 = .ok (.invokestatic 37, 3) := by decide +kernel
theorem dX7_owed_19 : decode cX7_owed 19 = .ok (.iload_n 1, 1) := by decide +kernel
theorem dX7_owed_20 : decode cX7_owed 20 = .ok (.aload_n 0, 1) := by decide +kernel
theorem dX7_owed_21 : decode cX7_owed 21 = .ok (.getfield 10, 3) := by decide +kernel
theorem dX7_owed_24 : decode cX7_owed 24 = .ok (.getfield 157, 3) := by decide +kernel
theorem dX7_owed_27 : decode cX7_owed 27 = .ok (.getfield 161, 3) := by decide +kernel
theorem dX7_owed_30 : decode cX7_owed 30 = .ok (.if_icmp .lt 5, 3) := by decide +kernel
theorem dX7_owed_33 : decode cX7_owed 33 = .ok (.iconst (-1), 1) := by decide +kernel
theorem dX7_owed_34 : decode cX7_owed 34 = .ok (.ireturn, 1) := by decide +kernel
theorem dX7_owed_35 : decode cX7_owed 35 = .ok (.aload_n 0, 1) := by decide +kernel
theorem dX7_owed_36 : decode cX7_owed 36 = .ok (.getfield 10, 3) := by decide +kernel
theorem dX7_owed_39 : decode cX7_owed 39 = .ok (.getfield 157, 3) := by decide +kernel
theorem dX7_owed_42 : decode cX7_owed 42 = .ok (.getfield 250, 3) := by decide +kernel
theorem dX7_owed_45 : decode cX7_owed 45 = .ok (.iload_n 1, 1) := by decide +kernel
theorem dX7_owed_46 : decode cX7_owed 46 = .ok (.iaload, 1) := by decide +kernel
theorem dX7_owed_47 : decode cX7_owed 47 = .ok (.istore_n 3, 1) := by decide +kernel
theorem dX7_owed_48 : decode cX7_owed 48 = .ok (.iload_n 2, 1) := by decide +kernel
theorem dX7_owed_49 : decode cX7_owed 49 = .ok (.ifCond .ne 7, 3) := by decide +kernel
theorem dX7_owed_52 : decode cX7_owed 52 = .ok (.iload_n 3, 1) := by decide +kernel
theorem dX7_owed_53 : decode cX7_owed 53 = .ok (.goto 14, 3) := by decide +kernel
theorem dX7_owed_56 : decode cX7_owed 56 = .ok (.aload_n 0, 1) := by decide +kernel
theorem dX7_owed_57 : decode cX7_owed 57 = .ok (.getfield 10, 3) := by decide +kernel
theorem dX7_owed_60 : decode cX7_owed 60 = .ok (.getfield 157, 3) := by decide +kernel
theorem dX7_owed_63 : decode cX7_owed 63 = .ok (.iload_n 3, 1) := by decide +kernel
theorem dX7_owed_64 : decode cX7_owed 64 = .ok (.invokevirtual 253, 3) := by decide +kernel
theorem dX7_owed_67 : decode cX7_owed 67 = .ok (.ireturn, 1) := by decide +kernel
theorem dX7_weakest_0 : decode cX7_weakest 0 = .ok (.iload_n 1, 1) := by decide +kernel
theorem dX7_weakest_1 : decode cX7_weakest 1 = .ok (.iconst 0, 1) := by decide +kernel
theorem dX7_weakest_2 : decode cX7_weakest 2 = .ok (.bipush 63, 2) := by decide +kernel
theorem dX7_weakest_4 : decode cX7_weakest 4 = .ok (.invokestatic 33, 3) := by decide +kernel
theorem dX7_weakest_7 : decode cX7_weakest 7 = .ok (.invokestatic 37, 3) := by decide +kernel
theorem dX7_weakest_10 : decode cX7_weakest 10 = .ok (.iconst (-1), 1) := by decide +kernel
theorem dX7_weakest_11 : decode cX7_weakest 11 = .ok (.istore_n 2, 1) := by decide +kernel
theorem dX7_weakest_12 : decode cX7_weakest 12 = .ok (.iconst 0, 1) := by decide +kernel
theorem dX7_weakest_13 : decode cX7_weakest 13 = .ok (.istore_n 3, 1) := by decide +kernel
theorem dX7_weakest_14 : decode cX7_weakest 14 = .ok (.iload_n 3, 1) := by decide +kernel
theorem dX7_weakest_15 : decode cX7_weakest 15 = .ok (.iload_n 1, 1) := by decide +kernel
theorem dX7_weakest_16 : decode cX7_weakest 16 = .ok (.if_icmp .gt 21, 3) := by decide +kernel
theorem dX7_weakest_19 : decode cX7_weakest 19 = .ok (.aload_n 0, 1) := by decide +kernel
theorem dX7_weakest_20 : decode cX7_weakest 20 = .ok (.getfield 10, 3) := by decide +kernel
theorem dX7_weakest_23 : decode cX7_weakest 23 = .ok (.getfield 89, 3) := by decide +kernel
theorem dX7_weakest_26 : decode cX7_weakest 26 = .ok (.iload_n 2, 1) := by decide +kernel
theorem dX7_weakest_27 : decode cX7_weakest 27 = .ok (.invokevirtual 256, 3) := by decide +kernel
theorem dX7_weakest_30 : decode cX7_weakest 30 = .ok (.istore_n 2, 1) := by decide +kernel
theorem dX7_weakest_31 : decode cX7_weakest 31 = .ok (.iinc 3 1, 3) := by decide +kernel
theorem dX7_weakest_34 : decode cX7_weakest 34 = .ok (.goto (-20), 3) := by decide +kernel
theorem dX7_weakest_37 : decode cX7_weakest 37 = .ok (.iload_n 2, 1) := by decide +kernel
theorem dX7_weakest_38 : decode cX7_weakest 38 = .ok (.ireturn, 1) := by decide +kernel
theorem dX7_count_0 : decode cX7_count 0 = .ok (.iload_n 1, 1) := by decide +kernel
theorem dX7_count_1 : decode cX7_count 1 = .ok (.iconst 0, 1) := by decide +kernel
theorem dX7_count_2 : decode cX7_count 2 = .ok (.bipush 18, 2) := by decide +kernel
theorem dX7_count_4 : decode cX7_count 4 = .ok (.invokestatic 33, 3) := by decide +kernel
theorem dX7_count_7 : decode cX7_count 7 = .ok (.invokestatic 37, 3) := by decide +kernel
theorem dX7_count_10 : decode cX7_count 10 = .ok (.iload_n 1, 1) := by decide +kernel
theorem dX7_count_11 : decode cX7_count 11 = .ok (.tableswitch 190 0 18 #[89, 97, 105, 116, 127, 138, 149, 160, 190, 190, 190, 190, 190, 190, 190, 190, 174, 190, 182], 89) := by decide +kernel
theorem dX7_count_100 : decode cX7_count 100 = .ok (.aload_n 0, 1) := by decide +kernel
theorem dX7_count_101 : decode cX7_count 101 = .ok (.getfield 10, 3) := by decide +kernel
theorem dX7_count_104 : decode cX7_count 104 = .ok (.getfield 168, 3) := by decide +kernel
theorem dX7_count_107 : decode cX7_count 107 = .ok (.ireturn, 1) := by decide +kernel
theorem dX7_count_108 : decode cX7_count 108 = .ok (.aload_n 0, 1) := by decide +kernel
theorem dX7_count_109 : decode cX7_count 109 = .ok (.getfield 10, 3) := by decide +kernel
theorem dX7_count_112 : decode cX7_count 112 = .ok (.getfield 124, 3) := by decide +kernel
theorem dX7_count_115 : decode cX7_count 115 = .ok (.ireturn, 1) := by decide +kernel
theorem dX7_count_116 : decode cX7_count 116 = .ok (.aload_n 0, 1) := by decide +kernel
theorem dX7_count_117 : decode cX7_count 117 = .ok (.getfield 10, 3) := by decide +kernel
theorem dX7_count_120 : decode cX7_count 120 = .ok (.getfield 41, 3) := by decide +kernel
theorem dX7_count_123 : decode cX7_count 123 = .ok (.getfield 45, 3) := by decide +kernel
theorem dX7_count_126 : decode cX7_count 126 = .ok (.ireturn, 1) := by decide +kernel
theorem dX7_count_127 : decode cX7_count 127 = .ok (.aload_n 0, 1) := by decide +kernel
theorem dX7_count_128 : decode cX7_count 128 = .ok (.getfield 10, 3) := by decide +kernel
theorem dX7_count_131 : decode cX7_count 131 = .ok (.getfield 62, 3) := by decide +kernel
theorem dX7_count_134 : decode cX7_count 134 = .ok (.getfield 66, 3) := by decide +kernel
theorem dX7_count_137 : decode cX7_count 137 = .ok (.ireturn, 1) := by decide +kernel
theorem dX7_count_138 : decode cX7_count 138 = .ok (.aload_n 0, 1) := by decide +kernel
theorem dX7_count_139 : decode cX7_count 139 = .ok (.getfield 10, 3) := by decide +kernel
theorem dX7_count_142 : decode cX7_count 142 = .ok (.getfield 89, 3) := by decide +kernel
theorem dX7_count_145 : decode cX7_count 145 = .ok (.invokevirtual 259, 3) := by decide +kernel
theorem dX7_count_148 : decode cX7_count 148 = .ok (.ireturn, 1) := by decide +kernel
theorem dX7_count_149 : decode cX7_count 149 = .ok (.aload_n 0, 1) := by decide +kernel
theorem dX7_count_150 : decode cX7_count 150 = .ok (.getfield 10, 3) := by decide +kernel
theorem dX7_count_153 : decode cX7_count 153 = .ok (.getfield 89, 3) := by decide +kernel
theorem dX7_count_156 : decode cX7_count 156 = .ok (.invokevirtual 262, 3) := by decide +kernel
theorem dX7_count_159 : decode cX7_count 159 = .ok (.ireturn, 1) := by decide +kernel
theorem dX7_count_160 : decode cX7_count 160 = .ok (.aload_n 0, 1) := by decide +kernel
theorem dX7_count_161 : decode cX7_count 161 = .ok (.getfield 10, 3) := by decide +kernel
theorem dX7_count_164 : decode cX7_count 164 = .ok (.getfield 157, 3) := by decide +kernel
theorem dX7_count_167 : decode cX7_count 167 = .ok (.getfield 161, 3) := by decide +kernel
theorem dX7_count_170 : decode cX7_count 170 = .ok (.ireturn, 1) := by decide +kernel
theorem dX7_count_171 : decode cX7_count 171 = .ok (.aload_n 0, 1) := by decide +kernel
theorem dX7_count_172 : decode cX7_count 172 = .ok (.getfield 10, 3) := by decide +kernel
theorem dX7_count_175 : decode cX7_count 175 = .ok (.getfield 89, 3) := by decide +kernel
theorem dX7_count_178 : decode cX7_count 178 = .ok (.getfield 265, 3) := by decide +kernel
theorem dX7_count_181 : decode cX7_count 181 = .ok (.invokestatic 269, 3) := by decide +kernel
theorem dX7_count_184 : decode cX7_count 184 = .ok (.ireturn, 1) := by decide +kernel
theorem dX7_count_185 : decode cX7_count 185 = .ok (.aload_n 0, 1) := by decide +kernel
theorem dX7_count_186 : decode cX7_count 186 = .ok (.getfield 10, 3) := by decide +kernel
theorem dX7_count_189 : decode cX7_count 189 = .ok (.getfield 135, 3) := by decide +kernel
theorem dX7_count_192 : decode cX7_count 192 = .ok (.ireturn, 1) := by decide +kernel
theorem dX7_count_193 : decode cX7_count 193 = .ok (.aload_n 0, 1) := by decide +kernel
theorem dX7_count_194 : decode cX7_count 194 = .ok (.getfield 22, 3) := by decide +kernel
theorem dX7_count_197 : decode cX7_count 197 = .ok (.getfield 197, 3) := by decide +kernel
theorem dX7_count_200 : decode cX7_count 200 = .ok (.ireturn, 1) := by decide +kernel
theorem dX7_count_201 : decode cX7_count 201 = .ok (.aload_n 0, 1) := by decide +kernel
theorem dX7_count_202 : decode cX7_count 202 = .ok (.getfield 10, 3) := by decide +kernel
theorem dX7_count_205 : decode cX7_count 205 = .ok (.getfield 275, 3) := by decide +kernel
theorem dX7_count_208 : decode cX7_count 208 = .ok (.iload_n 1, 1) := by decide +kernel
theorem dX7_count_209 : decode cX7_count 209 = .ok (.iaload, 1) := by decide +kernel
theorem dX7_count_210 : decode cX7_count 210 = .ok (.ireturn, 1) := by decide +kernel
theorem dX7_setting_0 : decode cX7_setting 0 = .ok (.iload_n 1, 1) := by decide +kernel
theorem dX7_setting_1 : decode cX7_setting 1 = .ok (.invokestatic 72, 3) := by decide +kernel
theorem dX7_setting_4 : decode cX7_setting 4 = .ok (.aload_n 0, 1) := by decide +kernel
theorem dX7_setting_5 : decode cX7_setting 5 = .ok (.getfield 10, 3) := by decide +kernel
theorem dX7_setting_8 : decode cX7_setting 8 = .ok (.getfield 80, 3) := by decide +kernel
theorem dX7_setting_11 : decode cX7_setting 11 = .ok (.iload_n 1, 1) := by decide +kernel
theorem dX7_setting_12 : decode cX7_setting 12 = .ok (.iaload, 1) := by decide +kernel
theorem dX7_setting_13 : decode cX7_setting 13 = .ok (.ireturn, 1) := by decide +kernel
theorem dX7_premium_0 : decode cX7_premium 0 = .ok (.iload_n 1, 1) := by decide +kernel
theorem dX7_premium_1 : decode cX7_premium 1 = .ok (.invokestatic 83, 3) := by decide +kernel
theorem dX7_premium_4 : decode cX7_premium 4 = .ok (.aload_n 0, 1) := by decide +kernel
theorem dX7_premium_5 : decode cX7_premium 5 = .ok (.iload_n 2, 1) := by decide +kernel
theorem dX7_premium_6 : decode cX7_premium 6 = .ok (.invokevirtual 109, 3) := by decide +kernel
theorem dX7_premium_9 : decode cX7_premium 9 = .ok (.iload_n 3, 1) := by decide +kernel
theorem dX7_premium_10 : decode cX7_premium 10 = .ok (.iconst 1, 1) := by decide +kernel
theorem dX7_premium_11 : decode cX7_premium 11 = .ok (.sipush 200, 3) := by decide +kernel
theorem dX7_premium_14 : decode cX7_premium 14 = .ok (.invokestatic 33, 3) := by decide +kernel
theorem dX7_premium_17 : decode cX7_premium 17 = .ok (.invokestatic 37, 3) := by decide +kernel
theorem dX7_premium_20 : decode cX7_premium 20 = .ok (.aload_n 0, 1) := by decide +kernel
theorem dX7_premium_21 : decode cX7_premium 21 = .ok (.getfield 10, 3) := by decide +kernel
theorem dX7_premium_24 : decode cX7_premium 24 = .ok (.iload_n 1, 1) := by decide +kernel
theorem dX7_premium_25 : decode cX7_premium 25 = .ok (.iload_n 2, 1) := by decide +kernel
theorem dX7_premium_26 : decode cX7_premium 26 = .ok (.iload_n 3, 1) := by decide +kernel
theorem dX7_premium_27 : decode cX7_premium 27 = .ok (.aload_n 0, 1) := by decide +kernel
theorem dX7_premium_28 : decode cX7_premium 28 = .ok (.getfield 10, 3) := by decide +kernel
theorem dX7_premium_31 : decode cX7_premium 31 = .ok (.getfield 124, 3) := by decide +kernel
theorem dX7_premium_34 : decode cX7_premium 34 = .ok (.invokevirtual 127, 3) := by decide +kernel
theorem dX7_premium_37 : decode cX7_premium 37 = .ok (.ireturn, 1) := by decide +kernel
theorem dX7_cheapest_0 : decode cX7_cheapest 0 = .ok (.iload_n 1, 1) := by decide +kernel
theorem dX7_cheapest_1 : decode cX7_cheapest 1 = .ok (.invokestatic 83, 3) := by decide +kernel
theorem dX7_cheapest_4 : decode cX7_cheapest 4 = .ok (.iload_n 2, 1) := by decide +kernel
theorem dX7_cheapest_5 : decode cX7_cheapest 5 = .ok (.iconst 1, 1) := by decide +kernel
theorem dX7_cheapest_6 : decode cX7_cheapest 6 = .ok (.sipush 500, 3) := by decide +kernel
theorem dX7_cheapest_9 : decode cX7_cheapest 9 = .ok (.invokestatic 33, 3) := by decide +kernel
theorem dX7_cheapest_12 : decode cX7_cheapest 12 = .ok (.invokestatic 37, 3) := by decide +kernel
theorem dX7_cheapest_15 : decode cX7_cheapest 15 = .ok (.iload_n 3, 1) := by decide +kernel
theorem dX7_cheapest_16 : decode cX7_cheapest 16 = .ok (.iconst 1, 1) := by decide +kernel
theorem dX7_cheapest_17 : decode cX7_cheapest 17 = .ok (.sipush 200, 3) := by decide +kernel
theorem dX7_cheapest_20 : decode cX7_cheapest 20 = .ok (.invokestatic 33, 3) := by decide +kernel
theorem dX7_cheapest_23 : decode cX7_cheapest 23 = .ok (.invokestatic 37, 3) := by decide +kernel
theorem dX7_cheapest_26 : decode cX7_cheapest 26 = .ok (.iconst (-1), 1) := by decide +kernel
theorem dX7_cheapest_27 : decode cX7_cheapest 27 = .ok (.istore 4, 2) := by decide +kernel
theorem dX7_cheapest_29 : decode cX7_cheapest 29 = .ok (.iconst 0, 1) := by decide +kernel
theorem dX7_cheapest_30 : decode cX7_cheapest 30 = .ok (.istore 5, 2) := by decide +kernel
theorem dX7_cheapest_32 : decode cX7_cheapest 32 = .ok (.iconst 0, 1) := by decide +kernel
theorem dX7_cheapest_33 : decode cX7_cheapest 33 = .ok (.istore 6, 2) := by decide +kernel
theorem dX7_cheapest_35 : decode cX7_cheapest 35 = .ok (.iload 6, 2) := by decide +kernel
theorem dX7_cheapest_37 : decode cX7_cheapest 37 = .ok (.aload_n 0, 1) := by decide +kernel
theorem dX7_cheapest_38 : decode cX7_cheapest 38 = .ok (.getfield 10, 3) := by decide +kernel
theorem dX7_cheapest_41 : decode cX7_cheapest 41 = .ok (.getfield 62, 3) := by decide +kernel
theorem dX7_cheapest_44 : decode cX7_cheapest 44 = .ok (.getfield 66, 3) := by decide +kernel
theorem dX7_cheapest_47 : decode cX7_cheapest 47 = .ok (.if_icmp .ge 67, 3) := by decide +kernel
theorem dX7_cheapest_50 : decode cX7_cheapest 50 = .ok (.aload_n 0, 1) := by decide +kernel
theorem dX7_cheapest_51 : decode cX7_cheapest 51 = .ok (.getfield 10, 3) := by decide +kernel
theorem dX7_cheapest_54 : decode cX7_cheapest 54 = .ok (.iload_n 1, 1) := by decide +kernel
theorem dX7_cheapest_55 : decode cX7_cheapest 55 = .ok (.iload 6, 2) := by decide +kernel
theorem dX7_cheapest_57 : decode cX7_cheapest 57 = .ok (.iload_n 3, 1) := by decide +kernel
theorem dX7_cheapest_58 : decode cX7_cheapest 58 = .ok (.aload_n 0, 1) := by decide +kernel
theorem dX7_cheapest_59 : decode cX7_cheapest 59 = .ok (.getfield 10, 3) := by decide +kernel
theorem dX7_cheapest_62 : decode cX7_cheapest 62 = .ok (.getfield 124, 3) := by decide +kernel
theorem dX7_cheapest_65 : decode cX7_cheapest 65 = .ok (.invokevirtual 127, 3) := by decide +kernel
theorem dX7_cheapest_68 : decode cX7_cheapest 68 = .ok (.istore 7, 2) := by decide +kernel
theorem dX7_cheapest_70 : decode cX7_cheapest 70 = .ok (.aload_n 0, 1) := by decide +kernel
theorem dX7_cheapest_71 : decode cX7_cheapest 71 = .ok (.getfield 10, 3) := by decide +kernel
theorem dX7_cheapest_74 : decode cX7_cheapest 74 = .ok (.getfield 62, 3) := by decide +kernel
theorem dX7_cheapest_77 : decode cX7_cheapest 77 = .ok (.getfield 235, 3) := by decide +kernel
theorem dX7_cheapest_80 : decode cX7_cheapest 80 = .ok (.iload 6, 2) := by decide +kernel
theorem dX7_cheapest_82 : decode cX7_cheapest 82 = .ok (.iaload, 1) := by decide +kernel
theorem dX7_cheapest_83 : decode cX7_cheapest 83 = .ok (.iload_n 2, 1) := by decide +kernel
theorem dX7_cheapest_84 : decode cX7_cheapest 84 = .ok (.if_icmp .lt 24, 3) := by decide +kernel
theorem dX7_cheapest_87 : decode cX7_cheapest 87 = .ok (.iload 4, 2) := by decide +kernel
theorem dX7_cheapest_89 : decode cX7_cheapest 89 = .ok (.iconst (-1), 1) := by decide +kernel
theorem dX7_cheapest_90 : decode cX7_cheapest 90 = .ok (.if_icmp .eq 10, 3) := by decide +kernel
theorem dX7_cheapest_93 : decode cX7_cheapest 93 = .ok (.iload 7, 2) := by decide +kernel
theorem dX7_cheapest_95 : decode cX7_cheapest 95 = .ok (.iload 5, 2) := by decide +kernel
theorem dX7_cheapest_97 : decode cX7_cheapest 97 = .ok (.if_icmp .ge 11, 3) := by decide +kernel
theorem dX7_cheapest_100 : decode cX7_cheapest 100 = .ok (.iload 6, 2) := by decide +kernel
theorem dX7_cheapest_102 : decode cX7_cheapest 102 = .ok (.istore 4, 2) := by decide +kernel
theorem dX7_cheapest_104 : decode cX7_cheapest 104 = .ok (.iload 7, 2) := by decide +kernel
theorem dX7_cheapest_106 : decode cX7_cheapest 106 = .ok (.istore 5, 2) := by decide +kernel
theorem dX7_cheapest_108 : decode cX7_cheapest 108 = .ok (.iinc 6 1, 3) := by decide +kernel
theorem dX7_cheapest_111 : decode cX7_cheapest 111 = .ok (.goto (-76), 3) := by decide +kernel
theorem dX7_cheapest_114 : decode cX7_cheapest 114 = .ok (.iload 4, 2) := by decide +kernel
theorem dX7_cheapest_116 : decode cX7_cheapest 116 = .ok (.ireturn, 1) := by decide +kernel
theorem dX7_waitFor_0 : decode cX7_waitFor 0 = .ok (.iload_n 1, 1) := by decide +kernel
theorem dX7_waitFor_1 : decode cX7_waitFor 1 = .ok (.invokestatic 83, 3) := by decide +kernel
theorem dX7_waitFor_4 : decode cX7_waitFor 4 = .ok (.aload_n 0, 1) := by decide +kernel
theorem dX7_waitFor_5 : decode cX7_waitFor 5 = .ok (.iload_n 2, 1) := by decide +kernel
theorem dX7_waitFor_6 : decode cX7_waitFor 6 = .ok (.invokevirtual 109, 3) := by decide +kernel
theorem dX7_waitFor_9 : decode cX7_waitFor 9 = .ok (.iload_n 3, 1) := by decide +kernel
theorem dX7_waitFor_10 : decode cX7_waitFor 10 = .ok (.iconst 1, 1) := by decide +kernel
theorem dX7_waitFor_11 : decode cX7_waitFor 11 = .ok (.sipush 200, 3) := by decide +kernel
theorem dX7_waitFor_14 : decode cX7_waitFor 14 = .ok (.invokestatic 33, 3) := by decide +kernel
theorem dX7_waitFor_17 : decode cX7_waitFor 17 = .ok (.invokestatic 37, 3) := by decide +kernel
theorem dX7_waitFor_20 : decode cX7_waitFor 20 = .ok (.iload 4, 2) := by decide +kernel
theorem dX7_waitFor_22 : decode cX7_waitFor 22 = .ok (.iconst 1, 1) := by decide +kernel
theorem dX7_waitFor_23 : decode cX7_waitFor 23 = .ok (.sipush 10000, 3) := by decide +kernel
theorem dX7_waitFor_26 : decode cX7_waitFor 26 = .ok (.invokestatic 33, 3) := by decide +kernel
theorem dX7_waitFor_29 : decode cX7_waitFor 29 = .ok (.invokestatic 37, 3) := by decide +kernel
theorem dX7_waitFor_32 : decode cX7_waitFor 32 = .ok (.iconst 0, 1) := by decide +kernel
theorem dX7_waitFor_33 : decode cX7_waitFor 33 = .ok (.istore 5, 2) := by decide +kernel
theorem dX7_waitFor_35 : decode cX7_waitFor 35 = .ok (.iload 5, 2) := by decide +kernel
theorem dX7_waitFor_37 : decode cX7_waitFor 37 = .ok (.sipush 200, 3) := by decide +kernel
theorem dX7_waitFor_40 : decode cX7_waitFor 40 = .ok (.if_icmp .gt 56, 3) := by decide +kernel
theorem dX7_waitFor_43 : decode cX7_waitFor 43 = .ok (.iconst 0, 1) := by decide +kernel
theorem dX7_waitFor_44 : decode cX7_waitFor 44 = .ok (.aload_n 0, 1) := by decide +kernel
theorem dX7_waitFor_45 : decode cX7_waitFor 45 = .ok (.getfield 10, 3) := by decide +kernel
theorem dX7_waitFor_48 : decode cX7_waitFor 48 = .ok (.getfield 124, 3) := by decide +kernel
theorem dX7_waitFor_51 : decode cX7_waitFor 51 = .ok (.iload 5, 2) := by decide +kernel
theorem dX7_waitFor_53 : decode cX7_waitFor 53 = .ok (.aload_n 0, 1) := by decide +kernel
theorem dX7_waitFor_54 : decode cX7_waitFor 54 = .ok (.getfield 10, 3) := by decide +kernel
theorem dX7_waitFor_57 : decode cX7_waitFor 57 = .ok (.getfield 80, 3) := by decide +kernel
theorem dX7_waitFor_60 : decode cX7_waitFor 60 = .ok (.bipush 6, 2) := by decide +kernel
theorem dX7_waitFor_62 : decode cX7_waitFor 62 = .ok (.iaload, 1) := by decide +kernel
theorem dX7_waitFor_63 : decode cX7_waitFor 63 = .ok (.imul, 1) := by decide +kernel
theorem dX7_waitFor_64 : decode cX7_waitFor 64 = .ok (.isub, 1) := by decide +kernel
theorem dX7_waitFor_65 : decode cX7_waitFor 65 = .ok (.invokestatic 278, 3) := by decide +kernel
theorem dX7_waitFor_68 : decode cX7_waitFor 68 = .ok (.istore 6, 2) := by decide +kernel
theorem dX7_waitFor_70 : decode cX7_waitFor 70 = .ok (.aload_n 0, 1) := by decide +kernel
theorem dX7_waitFor_71 : decode cX7_waitFor 71 = .ok (.getfield 10, 3) := by decide +kernel
theorem dX7_waitFor_74 : decode cX7_waitFor 74 = .ok (.iload_n 1, 1) := by decide +kernel
theorem dX7_waitFor_75 : decode cX7_waitFor 75 = .ok (.iload_n 2, 1) := by decide +kernel
theorem dX7_waitFor_76 : decode cX7_waitFor 76 = .ok (.iload_n 3, 1) := by decide +kernel
theorem dX7_waitFor_77 : decode cX7_waitFor 77 = .ok (.iload 6, 2) := by decide +kernel
theorem dX7_waitFor_79 : decode cX7_waitFor 79 = .ok (.invokevirtual 127, 3) := by decide +kernel
theorem dX7_waitFor_82 : decode cX7_waitFor 82 = .ok (.iload 4, 2) := by decide +kernel
theorem dX7_waitFor_84 : decode cX7_waitFor 84 = .ok (.if_icmp .gt 6, 3) := by decide +kernel
theorem dX7_waitFor_87 : decode cX7_waitFor 87 = .ok (.iload 5, 2) := by decide +kernel
theorem dX7_waitFor_89 : decode cX7_waitFor 89 = .ok (.ireturn, 1) := by decide +kernel
theorem dX7_waitFor_90 : decode cX7_waitFor 90 = .ok (.iinc 5 1, 3) := by decide +kernel
theorem dX7_waitFor_93 : decode cX7_waitFor 93 = .ok (.goto (-58), 3) := by decide +kernel
theorem dX7_waitFor_96 : decode cX7_waitFor 96 = .ok (.iconst (-1), 1) := by decide +kernel
theorem dX7_waitFor_97 : decode cX7_waitFor 97 = .ok (.ireturn, 1) := by decide +kernel
theorem dX7_ifRead_0 : decode cX7_ifRead 0 = .ok (.iload_n 1, 1) := by decide +kernel
theorem dX7_ifRead_1 : decode cX7_ifRead 1 = .ok (.invokestatic 83, 3) := by decide +kernel
theorem dX7_ifRead_4 : decode cX7_ifRead 4 = .ok (.iload_n 2, 1) := by decide +kernel
theorem dX7_ifRead_5 : decode cX7_ifRead 5 = .ok (.iconst 0, 1) := by decide +kernel
theorem dX7_ifRead_6 : decode cX7_ifRead 6 = .ok (.iconst 4, 1) := by decide +kernel
theorem dX7_ifRead_7 : decode cX7_ifRead 7 = .ok (.invokestatic 33, 3) := by decide +kernel
theorem dX7_ifRead_10 : decode cX7_ifRead 10 = .ok (.invokestatic 37, 3) := by decide +kernel
theorem dX7_ifRead_13 : decode cX7_ifRead 13 = .ok (.iload_n 2, 1) := by decide +kernel
theorem dX7_ifRead_14 : decode cX7_ifRead 14 = .ok (.tableswitch 84 0 3 #[30, 42, 58, 75], 30) := by decide +kernel
theorem dX7_ifRead_44 : decode cX7_ifRead 44 = .ok (.aload_n 0, 1) := by decide +kernel
theorem dX7_ifRead_45 : decode cX7_ifRead 45 = .ok (.getfield 10, 3) := by decide +kernel
theorem dX7_ifRead_48 : decode cX7_ifRead 48 = .ok (.getfield 89, 3) := by decide +kernel
theorem dX7_ifRead_51 : decode cX7_ifRead 51 = .ok (.iload_n 1, 1) := by decide +kernel
theorem dX7_ifRead_52 : decode cX7_ifRead 52 = .ok (.invokevirtual 148, 3) := by decide +kernel
theorem dX7_ifRead_55 : decode cX7_ifRead 55 = .ok (.ireturn, 1) := by decide +kernel
theorem dX7_ifRead_56 : decode cX7_ifRead 56 = .ok (.aload_n 0, 1) := by decide +kernel
theorem dX7_ifRead_57 : decode cX7_ifRead 57 = .ok (.getfield 10, 3) := by decide +kernel
theorem dX7_ifRead_60 : decode cX7_ifRead 60 = .ok (.invokevirtual 284, 3) := by decide +kernel
theorem dX7_ifRead_63 : decode cX7_ifRead 63 = .ok (.iload_n 1, 1) := by decide +kernel
theorem dX7_ifRead_64 : decode cX7_ifRead 64 = .ok (.invokestatic 288, 3) := by decide +kernel
theorem dX7_ifRead_67 : decode cX7_ifRead 67 = .ok (.land, 1) := by decide +kernel
theorem dX7_ifRead_68 : decode cX7_ifRead 68 = .ok (.invokestatic 269, 3) := by decide +kernel
theorem dX7_ifRead_71 : decode cX7_ifRead 71 = .ok (.ireturn, 1) := by decide +kernel
theorem dX7_ifRead_72 : decode cX7_ifRead 72 = .ok (.aload_n 0, 1) := by decide +kernel
theorem dX7_ifRead_73 : decode cX7_ifRead 73 = .ok (.getfield 10, 3) := by decide +kernel
theorem dX7_ifRead_76 : decode cX7_ifRead 76 = .ok (.aload_n 0, 1) := by decide +kernel
theorem dX7_ifRead_77 : decode cX7_ifRead 77 = .ok (.getfield 10, 3) := by decide +kernel
theorem dX7_ifRead_80 : decode cX7_ifRead 80 = .ok (.getfield 80, 3) := by decide +kernel
theorem dX7_ifRead_83 : decode cX7_ifRead 83 = .ok (.iconst 2, 1) := by decide +kernel
theorem dX7_ifRead_84 : decode cX7_ifRead 84 = .ok (.iaload, 1) := by decide +kernel
theorem dX7_ifRead_85 : decode cX7_ifRead 85 = .ok (.invokevirtual 292, 3) := by decide +kernel
theorem dX7_ifRead_88 : decode cX7_ifRead 88 = .ok (.ireturn, 1) := by decide +kernel
theorem dX7_ifRead_89 : decode cX7_ifRead 89 = .ok (.aload_n 0, 1) := by decide +kernel
theorem dX7_ifRead_90 : decode cX7_ifRead 90 = .ok (.getfield 10, 3) := by decide +kernel
theorem dX7_ifRead_93 : decode cX7_ifRead 93 = .ok (.iload_n 1, 1) := by decide +kernel
theorem dX7_ifRead_94 : decode cX7_ifRead 94 = .ok (.invokevirtual 295, 3) := by decide +kernel
theorem dX7_ifRead_97 : decode cX7_ifRead 97 = .ok (.ireturn, 1) := by decide +kernel
theorem dX7_ifRead_98 : decode cX7_ifRead 98 = .ok (.aload_n 0, 1) := by decide +kernel
theorem dX7_ifRead_99 : decode cX7_ifRead 99 = .ok (.getfield 10, 3) := by decide +kernel
theorem dX7_ifRead_102 : decode cX7_ifRead 102 = .ok (.invokevirtual 284, 3) := by decide +kernel
theorem dX7_ifRead_105 : decode cX7_ifRead 105 = .ok (.iload_n 1, 1) := by decide +kernel
theorem dX7_ifRead_106 : decode cX7_ifRead 106 = .ok (.invokestatic 288, 3) := by decide +kernel
theorem dX7_ifRead_109 : decode cX7_ifRead 109 = .ok (.land, 1) := by decide +kernel
theorem dX7_ifRead_110 : decode cX7_ifRead 110 = .ok (.aload_n 0, 1) := by decide +kernel
theorem dX7_ifRead_111 : decode cX7_ifRead 111 = .ok (.getfield 10, 3) := by decide +kernel
theorem dX7_ifRead_114 : decode cX7_ifRead 114 = .ok (.getfield 89, 3) := by decide +kernel
theorem dX7_ifRead_117 : decode cX7_ifRead 117 = .ok (.invokevirtual 298, 3) := by decide +kernel
theorem dX7_ifRead_120 : decode cX7_ifRead 120 = .ok (.land, 1) := by decide +kernel
theorem dX7_ifRead_121 : decode cX7_ifRead 121 = .ok (.invokestatic 269, 3) := by decide +kernel
theorem dX7_ifRead_124 : decode cX7_ifRead 124 = .ok (.ireturn, 1) := by decide +kernel
theorem dX7_gentlest_0 : decode cX7_gentlest 0 = .ok (.aload_n 0, 1) := by decide +kernel
theorem dX7_gentlest_1 : decode cX7_gentlest 1 = .ok (.getfield 10, 3) := by decide +kernel
theorem dX7_gentlest_4 : decode cX7_gentlest 4 = .ok (.invokevirtual 284, 3) := by decide +kernel
theorem dX7_gentlest_7 : decode cX7_gentlest 7 = .ok (.lstore_n 1, 1) := by decide +kernel
theorem dX7_gentlest_8 : decode cX7_gentlest 8 = .ok (.iconst (-1), 1) := by decide +kernel
theorem dX7_gentlest_9 : decode cX7_gentlest 9 = .ok (.istore_n 3, 1) := by decide +kernel
theorem dX7_gentlest_10 : decode cX7_gentlest 10 = .ok (.bipush 64, 2) := by decide +kernel
theorem dX7_gentlest_12 : decode cX7_gentlest 12 = .ok (.istore 4, 2) := by decide +kernel
theorem dX7_gentlest_14 : decode cX7_gentlest 14 = .ok (.iconst 0, 1) := by decide +kernel
theorem dX7_gentlest_15 : decode cX7_gentlest 15 = .ok (.istore 5, 2) := by decide +kernel
theorem dX7_gentlest_17 : decode cX7_gentlest 17 = .ok (.iconst 0, 1) := by decide +kernel
theorem dX7_gentlest_18 : decode cX7_gentlest 18 = .ok (.istore 6, 2) := by decide +kernel
theorem dX7_gentlest_20 : decode cX7_gentlest 20 = .ok (.iload 6, 2) := by decide +kernel
theorem dX7_gentlest_22 : decode cX7_gentlest 22 = .ok (.bipush 64, 2) := by decide +kernel
theorem dX7_gentlest_24 : decode cX7_gentlest 24 = .ok (.if_icmp .ge 100, 3) := by decide +kernel
theorem dX7_gentlest_27 : decode cX7_gentlest 27 = .ok (.aload_n 0, 1) := by decide +kernel
theorem dX7_gentlest_28 : decode cX7_gentlest 28 = .ok (.getfield 10, 3) := by decide +kernel
theorem dX7_gentlest_31 : decode cX7_gentlest 31 = .ok (.getfield 89, 3) := by decide +kernel
theorem dX7_gentlest_34 : decode cX7_gentlest 34 = .ok (.iload 6, 2) := by decide +kernel
theorem dX7_gentlest_36 : decode cX7_gentlest 36 = .ok (.invokevirtual 301, 3) := by decide +kernel
theorem dX7_gentlest_39 : decode cX7_gentlest 39 = .ok (.ifCond .eq 79, 3) := by decide +kernel
theorem dX7_gentlest_42 : decode cX7_gentlest 42 = .ok (.aload_n 0, 1) := by decide +kernel
theorem dX7_gentlest_43 : decode cX7_gentlest 43 = .ok (.getfield 10, 3) := by decide +kernel
theorem dX7_gentlest_46 : decode cX7_gentlest 46 = .ok (.iload 6, 2) := by decide +kernel
theorem dX7_gentlest_48 : decode cX7_gentlest 48 = .ok (.invokevirtual 151, 3) := by decide +kernel
theorem dX7_gentlest_51 : decode cX7_gentlest 51 = .ok (.ifCond .eq 67, 3) := by decide +kernel
theorem dX7_gentlest_54 : decode cX7_gentlest 54 = .ok (.lload_n 1, 1) := by decide +kernel
theorem dX7_gentlest_55 : decode cX7_gentlest 55 = .ok (.iload 6, 2) := by decide +kernel
theorem dX7_gentlest_57 : decode cX7_gentlest 57 = .ok (.invokestatic 288, 3) := by decide +kernel
theorem dX7_gentlest_60 : decode cX7_gentlest 60 = .ok (.land, 1) := by decide +kernel
theorem dX7_gentlest_61 : decode cX7_gentlest 61 = .ok (.invokestatic 269, 3) := by decide +kernel
theorem dX7_gentlest_64 : decode cX7_gentlest 64 = .ok (.istore 7, 2) := by decide +kernel
theorem dX7_gentlest_66 : decode cX7_gentlest 66 = .ok (.aload_n 0, 1) := by decide +kernel
theorem dX7_gentlest_67 : decode cX7_gentlest 67 = .ok (.getfield 10, 3) := by decide +kernel
theorem dX7_gentlest_70 : decode cX7_gentlest 70 = .ok (.getfield 89, 3) := by decide +kernel
theorem dX7_gentlest_73 : decode cX7_gentlest 73 = .ok (.getfield 138, 3) := by decide +kernel
theorem dX7_gentlest_76 : decode cX7_gentlest 76 = .ok (.iload 6, 2) := by decide +kernel
theorem dX7_gentlest_78 : decode cX7_gentlest 78 = .ok (.iaload, 1) := by decide +kernel
theorem dX7_gentlest_79 : decode cX7_gentlest 79 = .ok (.istore 8, 2) := by decide +kernel
theorem dX7_gentlest_81 : decode cX7_gentlest 81 = .ok (.iload_n 3, 1) := by decide +kernel
theorem dX7_gentlest_82 : decode cX7_gentlest 82 = .ok (.iconst (-1), 1) := by decide +kernel
theorem dX7_gentlest_83 : decode cX7_gentlest 83 = .ok (.if_icmp .eq 24, 3) := by decide +kernel
theorem dX7_gentlest_86 : decode cX7_gentlest 86 = .ok (.iload 7, 2) := by decide +kernel
theorem dX7_gentlest_88 : decode cX7_gentlest 88 = .ok (.iload 4, 2) := by decide +kernel
theorem dX7_gentlest_90 : decode cX7_gentlest 90 = .ok (.if_icmp .lt 17, 3) := by decide +kernel
theorem dX7_gentlest_93 : decode cX7_gentlest 93 = .ok (.iload 7, 2) := by decide +kernel
theorem dX7_gentlest_95 : decode cX7_gentlest 95 = .ok (.iload 4, 2) := by decide +kernel
theorem dX7_gentlest_97 : decode cX7_gentlest 97 = .ok (.if_icmp .ne 21, 3) := by decide +kernel
theorem dX7_gentlest_100 : decode cX7_gentlest 100 = .ok (.iload 8, 2) := by decide +kernel
theorem dX7_gentlest_102 : decode cX7_gentlest 102 = .ok (.iload 5, 2) := by decide +kernel
theorem dX7_gentlest_104 : decode cX7_gentlest 104 = .ok (.if_icmp .le 14, 3) := by decide +kernel
theorem dX7_gentlest_107 : decode cX7_gentlest 107 = .ok (.iload 6, 2) := by decide +kernel
theorem dX7_gentlest_109 : decode cX7_gentlest 109 = .ok (.istore_n 3, 1) := by decide +kernel
theorem dX7_gentlest_110 : decode cX7_gentlest 110 = .ok (.iload 7, 2) := by decide +kernel
theorem dX7_gentlest_112 : decode cX7_gentlest 112 = .ok (.istore 4, 2) := by decide +kernel
theorem dX7_gentlest_114 : decode cX7_gentlest 114 = .ok (.iload 8, 2) := by decide +kernel
theorem dX7_gentlest_116 : decode cX7_gentlest 116 = .ok (.istore 5, 2) := by decide +kernel
theorem dX7_gentlest_118 : decode cX7_gentlest 118 = .ok (.iinc 6 1, 3) := by decide +kernel
theorem dX7_gentlest_121 : decode cX7_gentlest 121 = .ok (.goto (-101), 3) := by decide +kernel
theorem dX7_gentlest_124 : decode cX7_gentlest 124 = .ok (.iload_n 3, 1) := by decide +kernel
theorem dX7_gentlest_125 : decode cX7_gentlest 125 = .ok (.ireturn, 1) := by decide +kernel
theorem dX7_savable_0 : decode cX7_savable 0 = .ok (.iload_n 1, 1) := by decide +kernel
theorem dX7_savable_1 : decode cX7_savable 1 = .ok (.iconst 1, 1) := by decide +kernel
theorem dX7_savable_2 : decode cX7_savable 2 = .ok (.bipush 9, 2) := by decide +kernel
theorem dX7_savable_4 : decode cX7_savable 4 = .ok (.invokestatic 33, 3) := by decide +kernel
theorem dX7_savable_7 : decode cX7_savable 7 = .ok (.invokestatic 37, 3) := by decide +kernel
theorem dX7_savable_10 : decode cX7_savable 10 = .ok (.aload_n 0, 1) := by decide +kernel
theorem dX7_savable_11 : decode cX7_savable 11 = .ok (.getfield 16, 3) := by decide +kernel
theorem dX7_savable_14 : decode cX7_savable 14 = .ok (.aload_n 0, 1) := by decide +kernel
theorem dX7_savable_15 : decode cX7_savable 15 = .ok (.getfield 10, 3) := by decide +kernel
theorem dX7_savable_18 : decode cX7_savable 18 = .ok (.invokevirtual 304, 3) := by decide +kernel
theorem dX7_savable_21 : decode cX7_savable 21 = .ok (.iconst 0, 1) := by decide +kernel
theorem dX7_savable_22 : decode cX7_savable 22 = .ok (.istore_n 2, 1) := by decide +kernel
theorem dX7_savable_23 : decode cX7_savable 23 = .ok (.iload_n 2, 1) := by decide +kernel
theorem dX7_savable_24 : decode cX7_savable 24 = .ok (.bipush 64, 2) := by decide +kernel
theorem dX7_savable_26 : decode cX7_savable 26 = .ok (.if_icmp .ge 63, 3) := by decide +kernel
theorem dX7_savable_29 : decode cX7_savable 29 = .ok (.aload_n 0, 1) := by decide +kernel
theorem dX7_savable_30 : decode cX7_savable 30 = .ok (.getfield 16, 3) := by decide +kernel
theorem dX7_savable_33 : decode cX7_savable 33 = .ok (.getfield 157, 3) := by decide +kernel
theorem dX7_savable_36 : decode cX7_savable 36 = .ok (.getfield 161, 3) := by decide +kernel
theorem dX7_savable_39 : decode cX7_savable 39 = .ok (.ifCond .le 50, 3) := by decide +kernel
theorem dX7_savable_42 : decode cX7_savable 42 = .ok (.iconst 0, 1) := by decide +kernel
theorem dX7_savable_43 : decode cX7_savable 43 = .ok (.istore_n 3, 1) := by decide +kernel
theorem dX7_savable_44 : decode cX7_savable 44 = .ok (.iload_n 3, 1) := by decide +kernel
theorem dX7_savable_45 : decode cX7_savable 45 = .ok (.iload_n 1, 1) := by decide +kernel
theorem dX7_savable_46 : decode cX7_savable 46 = .ok (.if_icmp .ge 30, 3) := by decide +kernel
theorem dX7_savable_49 : decode cX7_savable 49 = .ok (.aload_n 0, 1) := by decide +kernel
theorem dX7_savable_50 : decode cX7_savable 50 = .ok (.getfield 16, 3) := by decide +kernel
theorem dX7_savable_53 : decode cX7_savable 53 = .ok (.getfield 157, 3) := by decide +kernel
theorem dX7_savable_56 : decode cX7_savable 56 = .ok (.getfield 161, 3) := by decide +kernel
theorem dX7_savable_59 : decode cX7_savable 59 = .ok (.ifCond .le 17, 3) := by decide +kernel
theorem dX7_savable_62 : decode cX7_savable 62 = .ok (.aload_n 0, 1) := by decide +kernel
theorem dX7_savable_63 : decode cX7_savable 63 = .ok (.getfield 16, 3) := by decide +kernel
theorem dX7_savable_66 : decode cX7_savable 66 = .ok (.invokevirtual 164, 3) := by decide +kernel
theorem dX7_savable_69 : decode cX7_savable 69 = .ok (.pop, 1) := by decide +kernel
theorem dX7_savable_70 : decode cX7_savable 70 = .ok (.iinc 3 1, 3) := by decide +kernel
theorem dX7_savable_73 : decode cX7_savable 73 = .ok (.goto (-29), 3) := by decide +kernel
theorem dX7_savable_76 : decode cX7_savable 76 = .ok (.aload_n 0, 1) := by decide +kernel
theorem dX7_savable_77 : decode cX7_savable 77 = .ok (.getfield 16, 3) := by decide +kernel
theorem dX7_savable_80 : decode cX7_savable 80 = .ok (.invokevirtual 307, 3) := by decide +kernel
theorem dX7_savable_83 : decode cX7_savable 83 = .ok (.iinc 2 1, 3) := by decide +kernel
theorem dX7_savable_86 : decode cX7_savable 86 = .ok (.goto (-63), 3) := by decide +kernel
theorem dX7_savable_89 : decode cX7_savable 89 = .ok (.aload_n 0, 1) := by decide +kernel
theorem dX7_savable_90 : decode cX7_savable 90 = .ok (.getfield 16, 3) := by decide +kernel
theorem dX7_savable_93 : decode cX7_savable 93 = .ok (.getfield 275, 3) := by decide +kernel
theorem dX7_savable_96 : decode cX7_savable 96 = .ok (.bipush 10, 2) := by decide +kernel
theorem dX7_savable_98 : decode cX7_savable 98 = .ok (.iaload, 1) := by decide +kernel
theorem dX7_savable_99 : decode cX7_savable 99 = .ok (.aload_n 0, 1) := by decide +kernel
theorem dX7_savable_100 : decode cX7_savable 100 = .ok (.getfield 10, 3) := by decide +kernel
theorem dX7_savable_103 : decode cX7_savable 103 = .ok (.getfield 275, 3) := by decide +kernel
theorem dX7_savable_106 : decode cX7_savable 106 = .ok (.bipush 10, 2) := by decide +kernel
theorem dX7_savable_108 : decode cX7_savable 108 = .ok (.iaload, 1) := by decide +kernel
theorem dX7_savable_109 : decode cX7_savable 109 = .ok (.isub, 1) := by decide +kernel
theorem dX7_savable_110 : decode cX7_savable 110 = .ok (.ireturn, 1) := by decide +kernel
theorem dX7_atRisk_0 : decode cX7_atRisk 0 = .ok (.aload_n 0, 1) := by decide +kernel
theorem dX7_atRisk_1 : decode cX7_atRisk 1 = .ok (.iload_n 1, 1) := by decide +kernel
theorem dX7_atRisk_2 : decode cX7_atRisk 2 = .ok (.invokevirtual 86, 3) := by decide +kernel
theorem dX7_atRisk_5 : decode cX7_atRisk 5 = .ok (.aload_n 0, 1) := by decide +kernel
theorem dX7_atRisk_6 : decode cX7_atRisk 6 = .ok (.getfield 10, 3) := by decide +kernel
theorem dX7_atRisk_9 : decode cX7_atRisk 9 = .ok (.invokevirtual 284, 3) := by decide +kernel
theorem dX7_atRisk_12 : decode cX7_atRisk 12 = .ok (.aload_n 0, 1) := by decide +kernel
theorem dX7_atRisk_13 : decode cX7_atRisk 13 = .ok (.getfield 10, 3) := by decide +kernel
theorem dX7_atRisk_16 : decode cX7_atRisk 16 = .ok (.getfield 89, 3) := by decide +kernel
theorem dX7_atRisk_19 : decode cX7_atRisk 19 = .ok (.iload_n 1, 1) := by decide +kernel
theorem dX7_atRisk_20 : decode cX7_atRisk 20 = .ok (.invokevirtual 310, 3) := by decide +kernel
theorem dX7_atRisk_23 : decode cX7_atRisk 23 = .ok (.land, 1) := by decide +kernel
theorem dX7_atRisk_24 : decode cX7_atRisk 24 = .ok (.lstore_n 2, 1) := by decide +kernel
theorem dX7_atRisk_25 : decode cX7_atRisk 25 = .ok (.iconst 0, 1) := by decide +kernel
theorem dX7_atRisk_26 : decode cX7_atRisk 26 = .ok (.istore 4, 2) := by decide +kernel
theorem dX7_atRisk_28 : decode cX7_atRisk 28 = .ok (.iconst 0, 1) := by decide +kernel
theorem dX7_atRisk_29 : decode cX7_atRisk 29 = .ok (.istore 5, 2) := by decide +kernel
theorem dX7_atRisk_31 : decode cX7_atRisk 31 = .ok (.iload 5, 2) := by decide +kernel
theorem dX7_atRisk_33 : decode cX7_atRisk 33 = .ok (.bipush 64, 2) := by decide +kernel
theorem dX7_atRisk_35 : decode cX7_atRisk 35 = .ok (.if_icmp .ge 38, 3) := by decide +kernel
theorem dX7_atRisk_38 : decode cX7_atRisk 38 = .ok (.aload_n 0, 1) := by decide +kernel
theorem dX7_atRisk_39 : decode cX7_atRisk 39 = .ok (.getfield 10, 3) := by decide +kernel
theorem dX7_atRisk_42 : decode cX7_atRisk 42 = .ok (.iload 5, 2) := by decide +kernel
theorem dX7_atRisk_44 : decode cX7_atRisk 44 = .ok (.invokevirtual 151, 3) := by decide +kernel
theorem dX7_atRisk_47 : decode cX7_atRisk 47 = .ok (.ifCond .eq 20, 3) := by decide +kernel
theorem dX7_atRisk_50 : decode cX7_atRisk 50 = .ok (.iload 4, 2) := by decide +kernel
theorem dX7_atRisk_52 : decode cX7_atRisk 52 = .ok (.lload_n 2, 1) := by decide +kernel
theorem dX7_atRisk_53 : decode cX7_atRisk 53 = .ok (.iload 5, 2) := by decide +kernel
theorem dX7_atRisk_55 : decode cX7_atRisk 55 = .ok (.invokestatic 288, 3) := by decide +kernel
theorem dX7_atRisk_58 : decode cX7_atRisk 58 = .ok (.land, 1) := by decide +kernel
theorem dX7_atRisk_59 : decode cX7_atRisk 59 = .ok (.invokestatic 269, 3) := by decide +kernel
theorem dX7_atRisk_62 : decode cX7_atRisk 62 = .ok (.invokestatic 278, 3) := by decide +kernel
theorem dX7_atRisk_65 : decode cX7_atRisk 65 = .ok (.istore 4, 2) := by decide +kernel
theorem dX7_atRisk_67 : decode cX7_atRisk 67 = .ok (.iinc 5 1, 3) := by decide +kernel
theorem dX7_atRisk_70 : decode cX7_atRisk 70 = .ok (.goto (-39), 3) := by decide +kernel
theorem dX7_atRisk_73 : decode cX7_atRisk 73 = .ok (.iload 4, 2) := by decide +kernel
theorem dX7_atRisk_75 : decode cX7_atRisk 75 = .ok (.ireturn, 1) := by decide +kernel
theorem dX7_backShare_0 : decode cX7_backShare 0 = .ok (.aload_n 0, 1) := by decide +kernel
theorem dX7_backShare_1 : decode cX7_backShare 1 = .ok (.getfield 10, 3) := by decide +kernel
theorem dX7_backShare_4 : decode cX7_backShare 4 = .ok (.getfield 275, 3) := by decide +kernel
theorem dX7_backShare_7 : decode cX7_backShare 7 = .ok (.bipush 9, 2) := by decide +kernel
theorem dX7_backShare_9 : decode cX7_backShare 9 = .ok (.iaload, 1) := by decide +kernel
theorem dX7_backShare_10 : decode cX7_backShare 10 = .ok (.istore_n 1, 1) := by decide +kernel
theorem dX7_backShare_11 : decode cX7_backShare 11 = .ok (.iload_n 1, 1) := by decide +kernel
theorem dX7_backShare_12 : decode cX7_backShare 12 = .ok (.ifCond .ne 5, 3) := by decide +kernel
theorem dX7_backShare_15 : decode cX7_backShare 15 = .ok (.dconst 0, 1) := by decide +kernel
theorem dX7_backShare_16 : decode cX7_backShare 16 = .ok (.dreturn, 1) := by decide +kernel
theorem dX7_backShare_17 : decode cX7_backShare 17 = .ok (.aload_n 0, 1) := by decide +kernel
theorem dX7_backShare_18 : decode cX7_backShare 18 = .ok (.getfield 10, 3) := by decide +kernel
theorem dX7_backShare_21 : decode cX7_backShare 21 = .ok (.getfield 275, 3) := by decide +kernel
theorem dX7_backShare_24 : decode cX7_backShare 24 = .ok (.bipush 10, 2) := by decide +kernel
theorem dX7_backShare_26 : decode cX7_backShare 26 = .ok (.iaload, 1) := by decide +kernel
theorem dX7_backShare_27 : decode cX7_backShare 27 = .ok (.i2d, 1) := by decide +kernel
theorem dX7_backShare_28 : decode cX7_backShare 28 = .ok (.iload_n 1, 1) := by decide +kernel
theorem dX7_backShare_29 : decode cX7_backShare 29 = .ok (.i2d, 1) := by decide +kernel
theorem dX7_backShare_30 : decode cX7_backShare 30 = .ok (.ddiv, 1) := by decide +kernel
theorem dX7_backShare_31 : decode cX7_backShare 31 = .ok (.dreturn, 1) := by decide +kernel
theorem dX7_digest_0 : decode cX7_digest 0 = .ok (.ldc2_w 313, 3) := by decide +kernel
theorem dX7_digest_3 : decode cX7_digest 3 = .ok (.lstore_n 1, 1) := by decide +kernel
theorem dX7_digest_4 : decode cX7_digest 4 = .ok (.iconst 0, 1) := by decide +kernel
theorem dX7_digest_5 : decode cX7_digest 5 = .ok (.istore_n 3, 1) := by decide +kernel
theorem dX7_digest_6 : decode cX7_digest 6 = .ok (.iload_n 3, 1) := by decide +kernel
theorem dX7_digest_7 : decode cX7_digest 7 = .ok (.bipush 19, 2) := by decide +kernel
theorem dX7_digest_9 : decode cX7_digest 9 = .ok (.if_icmp .ge 20, 3) := by decide +kernel
theorem dX7_digest_12 : decode cX7_digest 12 = .ok (.lload_n 1, 1) := by decide +kernel
theorem dX7_digest_13 : decode cX7_digest 13 = .ok (.aload_n 0, 1) := by decide +kernel
theorem dX7_digest_14 : decode cX7_digest 14 = .ok (.iload_n 3, 1) := by decide +kernel
theorem dX7_digest_15 : decode cX7_digest 15 = .ok (.invokevirtual 315, 3) := by decide +kernel
theorem dX7_digest_18 : decode cX7_digest 18 = .ok (.i2l, 1) := by decide +kernel
theorem dX7_digest_19 : decode cX7_digest 19 = .ok (.invokestatic 318, 3) := by decide +kernel
theorem dX7_digest_22 : decode cX7_digest 22 = .ok (.lstore_n 1, 1) := by decide +kernel
theorem dX7_digest_23 : decode cX7_digest 23 = .ok (.iinc 3 1, 3) := by decide +kernel
theorem dX7_digest_26 : decode cX7_digest 26 = .ok (.goto (-20), 3) := by decide +kernel
theorem dX7_digest_29 : decode cX7_digest 29 = .ok (.iconst 0, 1) := by decide +kernel
theorem dX7_digest_30 : decode cX7_digest 30 = .ok (.istore_n 3, 1) := by decide +kernel
theorem dX7_digest_31 : decode cX7_digest 31 = .ok (.iload_n 3, 1) := by decide +kernel
theorem dX7_digest_32 : decode cX7_digest 32 = .ok (.bipush 8, 2) := by decide +kernel
theorem dX7_digest_34 : decode cX7_digest 34 = .ok (.if_icmp .ge 20, 3) := by decide +kernel
theorem dX7_digest_37 : decode cX7_digest 37 = .ok (.lload_n 1, 1) := by decide +kernel
theorem dX7_digest_38 : decode cX7_digest 38 = .ok (.aload_n 0, 1) := by decide +kernel
theorem dX7_digest_39 : decode cX7_digest 39 = .ok (.iload_n 3, 1) := by decide +kernel
theorem dX7_digest_40 : decode cX7_digest 40 = .ok (.invokevirtual 322, 3) := by decide +kernel
theorem dX7_digest_43 : decode cX7_digest 43 = .ok (.i2l, 1) := by decide +kernel
theorem dX7_digest_44 : decode cX7_digest 44 = .ok (.invokestatic 318, 3) := by decide +kernel
theorem dX7_digest_47 : decode cX7_digest 47 = .ok (.lstore_n 1, 1) := by decide +kernel
theorem dX7_digest_48 : decode cX7_digest 48 = .ok (.iinc 3 1, 3) := by decide +kernel
theorem dX7_digest_51 : decode cX7_digest 51 = .ok (.goto (-20), 3) := by decide +kernel
theorem dX7_digest_54 : decode cX7_digest 54 = .ok (.aload_n 0, 1) := by decide +kernel
theorem dX7_digest_55 : decode cX7_digest 55 = .ok (.lload_n 1, 1) := by decide +kernel
theorem dX7_digest_56 : decode cX7_digest 56 = .ok (.invokevirtual 325, 3) := by decide +kernel
theorem dX7_digest_59 : decode cX7_digest 59 = .ok (.lstore_n 1, 1) := by decide +kernel
theorem dX7_digest_60 : decode cX7_digest 60 = .ok (.aload_n 0, 1) := by decide +kernel
theorem dX7_digest_61 : decode cX7_digest 61 = .ok (.lload_n 1, 1) := by decide +kernel
theorem dX7_digest_62 : decode cX7_digest 62 = .ok (.invokevirtual 329, 3) := by decide +kernel
theorem dX7_digest_65 : decode cX7_digest 65 = .ok (.lstore_n 1, 1) := by decide +kernel
theorem dX7_digest_66 : decode cX7_digest 66 = .ok (.aload_n 0, 1) := by decide +kernel
theorem dX7_digest_67 : decode cX7_digest 67 = .ok (.lload_n 1, 1) := by decide +kernel
theorem dX7_digest_68 : decode cX7_digest 68 = .ok (.invokevirtual 332, 3) := by decide +kernel
theorem dX7_digest_71 : decode cX7_digest 71 = .ok (.lstore_n 1, 1) := by decide +kernel
theorem dX7_digest_72 : decode cX7_digest 72 = .ok (.aload_n 0, 1) := by decide +kernel
theorem dX7_digest_73 : decode cX7_digest 73 = .ok (.lload_n 1, 1) := by decide +kernel
theorem dX7_digest_74 : decode cX7_digest 74 = .ok (.invokevirtual 335, 3) := by decide +kernel
theorem dX7_digest_77 : decode cX7_digest 77 = .ok (.lstore_n 1, 1) := by decide +kernel
theorem dX7_digest_78 : decode cX7_digest 78 = .ok (.iconst (-1), 1) := by decide +kernel
theorem dX7_digest_79 : decode cX7_digest 79 = .ok (.istore_n 3, 1) := by decide +kernel
theorem dX7_digest_80 : decode cX7_digest 80 = .ok (.iconst 0, 1) := by decide +kernel
theorem dX7_digest_81 : decode cX7_digest 81 = .ok (.istore 4, 2) := by decide +kernel
theorem dX7_digest_83 : decode cX7_digest 83 = .ok (.iload 4, 2) := by decide +kernel
theorem dX7_digest_85 : decode cX7_digest 85 = .ok (.bipush 8, 2) := by decide +kernel
theorem dX7_digest_87 : decode cX7_digest 87 = .ok (.if_icmp .ge 28, 3) := by decide +kernel
theorem dX7_digest_90 : decode cX7_digest 90 = .ok (.aload_n 0, 1) := by decide +kernel
theorem dX7_digest_91 : decode cX7_digest 91 = .ok (.getfield 10, 3) := by decide +kernel
theorem dX7_digest_94 : decode cX7_digest 94 = .ok (.getfield 89, 3) := by decide +kernel
theorem dX7_digest_97 : decode cX7_digest 97 = .ok (.iload_n 3, 1) := by decide +kernel
theorem dX7_digest_98 : decode cX7_digest 98 = .ok (.invokevirtual 256, 3) := by decide +kernel
theorem dX7_digest_101 : decode cX7_digest 101 = .ok (.istore_n 3, 1) := by decide +kernel
theorem dX7_digest_102 : decode cX7_digest 102 = .ok (.lload_n 1, 1) := by decide +kernel
theorem dX7_digest_103 : decode cX7_digest 103 = .ok (.iload_n 3, 1) := by decide +kernel
theorem dX7_digest_104 : decode cX7_digest 104 = .ok (.i2l, 1) := by decide +kernel
theorem dX7_digest_105 : decode cX7_digest 105 = .ok (.invokestatic 318, 3) := by decide +kernel
theorem dX7_digest_108 : decode cX7_digest 108 = .ok (.lstore_n 1, 1) := by decide +kernel
theorem dX7_digest_109 : decode cX7_digest 109 = .ok (.iinc 4 1, 3) := by decide +kernel
theorem dX7_digest_112 : decode cX7_digest 112 = .ok (.goto (-29), 3) := by decide +kernel
theorem dX7_digest_115 : decode cX7_digest 115 = .ok (.lload_n 1, 1) := by decide +kernel
theorem dX7_digest_116 : decode cX7_digest 116 = .ok (.aload_n 0, 1) := by decide +kernel
theorem dX7_digest_117 : decode cX7_digest 117 = .ok (.invokevirtual 338, 3) := by decide +kernel
theorem dX7_digest_120 : decode cX7_digest 120 = .ok (.i2l, 1) := by decide +kernel
theorem dX7_digest_121 : decode cX7_digest 121 = .ok (.invokestatic 318, 3) := by decide +kernel
theorem dX7_digest_124 : decode cX7_digest 124 = .ok (.lstore_n 1, 1) := by decide +kernel
theorem dX7_digest_125 : decode cX7_digest 125 = .ok (.lload_n 1, 1) := by decide +kernel
theorem dX7_digest_126 : decode cX7_digest 126 = .ok (.aload_n 0, 1) := by decide +kernel
theorem dX7_digest_127 : decode cX7_digest 127 = .ok (.iconst 1, 1) := by decide +kernel
theorem dX7_digest_128 : decode cX7_digest 128 = .ok (.invokevirtual 341, 3) := by decide +kernel
theorem dX7_digest_131 : decode cX7_digest 131 = .ok (.i2l, 1) := by decide +kernel
theorem dX7_digest_132 : decode cX7_digest 132 = .ok (.invokestatic 318, 3) := by decide +kernel
theorem dX7_digest_135 : decode cX7_digest 135 = .ok (.lstore_n 1, 1) := by decide +kernel
theorem dX7_digest_136 : decode cX7_digest 136 = .ok (.lload_n 1, 1) := by decide +kernel
theorem dX7_digest_137 : decode cX7_digest 137 = .ok (.aload_n 0, 1) := by decide +kernel
theorem dX7_digest_138 : decode cX7_digest 138 = .ok (.iconst 3, 1) := by decide +kernel
theorem dX7_digest_139 : decode cX7_digest 139 = .ok (.invokevirtual 341, 3) := by decide +kernel
theorem dX7_digest_142 : decode cX7_digest 142 = .ok (.i2l, 1) := by decide +kernel
theorem dX7_digest_143 : decode cX7_digest 143 = .ok (.invokestatic 318, 3) := by decide +kernel
theorem dX7_digest_146 : decode cX7_digest 146 = .ok (.lstore_n 1, 1) := by decide +kernel
theorem dX7_digest_147 : decode cX7_digest 147 = .ok (.lload_n 1, 1) := by decide +kernel
theorem dX7_digest_148 : decode cX7_digest 148 = .ok (.aload_n 0, 1) := by decide +kernel
theorem dX7_digest_149 : decode cX7_digest 149 = .ok (.invokevirtual 344, 3) := by decide +kernel
theorem dX7_digest_152 : decode cX7_digest 152 = .ok (.invokestatic 348, 3) := by decide +kernel
theorem dX7_digest_155 : decode cX7_digest 155 = .ok (.invokestatic 318, 3) := by decide +kernel
theorem dX7_digest_158 : decode cX7_digest 158 = .ok (.lstore_n 1, 1) := by decide +kernel
theorem dX7_digest_159 : decode cX7_digest 159 = .ok (.aload_n 0, 1) := by decide +kernel
theorem dX7_digest_160 : decode cX7_digest 160 = .ok (.lload_n 1, 1) := by decide +kernel
theorem dX7_digest_161 : decode cX7_digest 161 = .ok (.invokevirtual 352, 3) := by decide +kernel
theorem dX7_digest_164 : decode cX7_digest 164 = .ok (.lreturn, 1) := by decide +kernel
theorem dX7_mixed_0 : decode cX7_mixed 0 = .ok (.ldc2_w 355, 3) := by decide +kernel
theorem dX7_mixed_3 : decode cX7_mixed 3 = .ok (.lload_n 0, 1) := by decide +kernel
theorem dX7_mixed_4 : decode cX7_mixed 4 = .ok (.lmul, 1) := by decide +kernel
theorem dX7_mixed_5 : decode cX7_mixed 5 = .ok (.lload_n 2, 1) := by decide +kernel
theorem dX7_mixed_6 : decode cX7_mixed 6 = .ok (.ladd, 1) := by decide +kernel
theorem dX7_mixed_7 : decode cX7_mixed 7 = .ok (.lreturn, 1) := by decide +kernel
theorem dX7_withCores_0 : decode cX7_withCores 0 = .ok (.aload_n 0, 1) := by decide +kernel
theorem dX7_withCores_1 : decode cX7_withCores 1 = .ok (.getfield 10, 3) := by decide +kernel
theorem dX7_withCores_4 : decode cX7_withCores 4 = .ok (.invokevirtual 284, 3) := by decide +kernel
theorem dX7_withCores_7 : decode cX7_withCores 7 = .ok (.lstore_n 3, 1) := by decide +kernel
theorem dX7_withCores_8 : decode cX7_withCores 8 = .ok (.lload_n 1, 1) := by decide +kernel
theorem dX7_withCores_9 : decode cX7_withCores 9 = .ok (.lstore 5, 2) := by decide +kernel
theorem dX7_withCores_11 : decode cX7_withCores 11 = .ok (.iconst 0, 1) := by decide +kernel
theorem dX7_withCores_12 : decode cX7_withCores 12 = .ok (.istore 7, 2) := by decide +kernel
theorem dX7_withCores_14 : decode cX7_withCores 14 = .ok (.iload 7, 2) := by decide +kernel
theorem dX7_withCores_16 : decode cX7_withCores 16 = .ok (.bipush 64, 2) := by decide +kernel
theorem dX7_withCores_18 : decode cX7_withCores 18 = .ok (.if_icmp .ge 59, 3) := by decide +kernel
theorem dX7_withCores_21 : decode cX7_withCores 21 = .ok (.iconst 0, 1) := by decide +kernel
theorem dX7_withCores_22 : decode cX7_withCores 22 = .ok (.istore 8, 2) := by decide +kernel
theorem dX7_withCores_24 : decode cX7_withCores 24 = .ok (.iload 8, 2) := by decide +kernel
theorem dX7_withCores_26 : decode cX7_withCores 26 = .ok (.bipush 9, 2) := by decide +kernel
theorem dX7_withCores_28 : decode cX7_withCores 28 = .ok (.if_icmp .ge 25, 3) := by decide +kernel
theorem dX7_withCores_31 : decode cX7_withCores 31 = .ok (.lload 5, 2) := by decide +kernel
theorem dX7_withCores_33 : decode cX7_withCores 33 = .ok (.aload_n 0, 1) := by decide +kernel
theorem dX7_withCores_34 : decode cX7_withCores 34 = .ok (.iload 7, 2) := by decide +kernel
theorem dX7_withCores_36 : decode cX7_withCores 36 = .ok (.iload 8, 2) := by decide +kernel
theorem dX7_withCores_38 : decode cX7_withCores 38 = .ok (.invokevirtual 357, 3) := by decide +kernel
theorem dX7_withCores_41 : decode cX7_withCores 41 = .ok (.i2l, 1) := by decide +kernel
theorem dX7_withCores_42 : decode cX7_withCores 42 = .ok (.invokestatic 318, 3) := by decide +kernel
theorem dX7_withCores_45 : decode cX7_withCores 45 = .ok (.lstore 5, 2) := by decide +kernel
theorem dX7_withCores_47 : decode cX7_withCores 47 = .ok (.iinc 8 1, 3) := by decide +kernel
theorem dX7_withCores_50 : decode cX7_withCores 50 = .ok (.goto (-26), 3) := by decide +kernel
theorem dX7_withCores_53 : decode cX7_withCores 53 = .ok (.lload 5, 2) := by decide +kernel
theorem dX7_withCores_55 : decode cX7_withCores 55 = .ok (.lload_n 3, 1) := by decide +kernel
theorem dX7_withCores_56 : decode cX7_withCores 56 = .ok (.iload 7, 2) := by decide +kernel
theorem dX7_withCores_58 : decode cX7_withCores 58 = .ok (.invokestatic 288, 3) := by decide +kernel
theorem dX7_withCores_61 : decode cX7_withCores 61 = .ok (.land, 1) := by decide +kernel
theorem dX7_withCores_62 : decode cX7_withCores 62 = .ok (.invokestatic 269, 3) := by decide +kernel
theorem dX7_withCores_65 : decode cX7_withCores 65 = .ok (.i2l, 1) := by decide +kernel
theorem dX7_withCores_66 : decode cX7_withCores 66 = .ok (.invokestatic 318, 3) := by decide +kernel
theorem dX7_withCores_69 : decode cX7_withCores 69 = .ok (.lstore 5, 2) := by decide +kernel
theorem dX7_withCores_71 : decode cX7_withCores 71 = .ok (.iinc 7 1, 3) := by decide +kernel
theorem dX7_withCores_74 : decode cX7_withCores 74 = .ok (.goto (-60), 3) := by decide +kernel
theorem dX7_withCores_77 : decode cX7_withCores 77 = .ok (.lload 5, 2) := by decide +kernel
theorem dX7_withCores_79 : decode cX7_withCores 79 = .ok (.lreturn, 1) := by decide +kernel
theorem dX7_withTenants_0 : decode cX7_withTenants 0 = .ok (.lload_n 1, 1) := by decide +kernel
theorem dX7_withTenants_1 : decode cX7_withTenants 1 = .ok (.lstore_n 3, 1) := by decide +kernel
theorem dX7_withTenants_2 : decode cX7_withTenants 2 = .ok (.iconst 0, 1) := by decide +kernel
theorem dX7_withTenants_3 : decode cX7_withTenants 3 = .ok (.istore 5, 2) := by decide +kernel
theorem dX7_withTenants_5 : decode cX7_withTenants 5 = .ok (.iload 5, 2) := by decide +kernel
theorem dX7_withTenants_7 : decode cX7_withTenants 7 = .ok (.aload_n 0, 1) := by decide +kernel
theorem dX7_withTenants_8 : decode cX7_withTenants 8 = .ok (.getfield 10, 3) := by decide +kernel
theorem dX7_withTenants_11 : decode cX7_withTenants 11 = .ok (.getfield 41, 3) := by decide +kernel
theorem dX7_withTenants_14 : decode cX7_withTenants 14 = .ok (.getfield 45, 3) := by decide +kernel
theorem dX7_withTenants_17 : decode cX7_withTenants 17 = .ok (.if_icmp .ge 51, 3) := by decide +kernel
theorem dX7_withTenants_20 : decode cX7_withTenants 20 = .ok (.iconst 0, 1) := by decide +kernel
theorem dX7_withTenants_21 : decode cX7_withTenants 21 = .ok (.istore 6, 2) := by decide +kernel
theorem dX7_withTenants_23 : decode cX7_withTenants 23 = .ok (.iload 6, 2) := by decide +kernel
theorem dX7_withTenants_25 : decode cX7_withTenants 25 = .ok (.bipush 6, 2) := by decide +kernel
theorem dX7_withTenants_27 : decode cX7_withTenants 27 = .ok (.if_icmp .ge 23, 3) := by decide +kernel
theorem dX7_withTenants_30 : decode cX7_withTenants 30 = .ok (.lload_n 3, 1) := by decide +kernel
theorem dX7_withTenants_31 : decode cX7_withTenants 31 = .ok (.aload_n 0, 1) := by decide +kernel
theorem dX7_withTenants_32 : decode cX7_withTenants 32 = .ok (.iload 5, 2) := by decide +kernel
theorem dX7_withTenants_34 : decode cX7_withTenants 34 = .ok (.iload 6, 2) := by decide +kernel
theorem dX7_withTenants_36 : decode cX7_withTenants 36 = .ok (.invokevirtual 360, 3) := by decide +kernel
theorem dX7_withTenants_39 : decode cX7_withTenants 39 = .ok (.i2l, 1) := by decide +kernel
theorem dX7_withTenants_40 : decode cX7_withTenants 40 = .ok (.invokestatic 318, 3) := by decide +kernel
theorem dX7_withTenants_43 : decode cX7_withTenants 43 = .ok (.lstore_n 3, 1) := by decide +kernel
theorem dX7_withTenants_44 : decode cX7_withTenants 44 = .ok (.iinc 6 1, 3) := by decide +kernel
theorem dX7_withTenants_47 : decode cX7_withTenants 47 = .ok (.goto (-24), 3) := by decide +kernel
theorem dX7_withTenants_50 : decode cX7_withTenants 50 = .ok (.lload_n 3, 1) := by decide +kernel
theorem dX7_withTenants_51 : decode cX7_withTenants 51 = .ok (.aload_n 0, 1) := by decide +kernel
theorem dX7_withTenants_52 : decode cX7_withTenants 52 = .ok (.iload 5, 2) := by decide +kernel
theorem dX7_withTenants_54 : decode cX7_withTenants 54 = .ok (.invokevirtual 363, 3) := by decide +kernel
theorem dX7_withTenants_57 : decode cX7_withTenants 57 = .ok (.i2l, 1) := by decide +kernel
theorem dX7_withTenants_58 : decode cX7_withTenants 58 = .ok (.invokestatic 318, 3) := by decide +kernel
theorem dX7_withTenants_61 : decode cX7_withTenants 61 = .ok (.lstore_n 3, 1) := by decide +kernel
theorem dX7_withTenants_62 : decode cX7_withTenants 62 = .ok (.iinc 5 1, 3) := by decide +kernel
theorem dX7_withTenants_65 : decode cX7_withTenants 65 = .ok (.goto (-60), 3) := by decide +kernel
theorem dX7_withTenants_68 : decode cX7_withTenants 68 = .ok (.lload_n 3, 1) := by decide +kernel
theorem dX7_withTenants_69 : decode cX7_withTenants 69 = .ok (.lreturn, 1) := by decide +kernel
theorem dX7_withInsurers_0 : decode cX7_withInsurers 0 = .ok (.lload_n 1, 1) := by decide +kernel
theorem dX7_withInsurers_1 : decode cX7_withInsurers 1 = .ok (.lstore_n 3, 1) := by decide +kernel
theorem dX7_withInsurers_2 : decode cX7_withInsurers 2 = .ok (.iconst 0, 1) := by decide +kernel
theorem dX7_withInsurers_3 : decode cX7_withInsurers 3 = .ok (.istore 5, 2) := by decide +kernel
theorem dX7_withInsurers_5 : decode cX7_withInsurers 5 = .ok (.iload 5, 2) := by decide +kernel
theorem dX7_withInsurers_7 : decode cX7_withInsurers 7 = .ok (.aload_n 0, 1) := by decide +kernel
theorem dX7_withInsurers_8 : decode cX7_withInsurers 8 = .ok (.getfield 10, 3) := by decide +kernel
theorem dX7_withInsurers_11 : decode cX7_withInsurers 11 = .ok (.getfield 62, 3) := by decide +kernel
theorem dX7_withInsurers_14 : decode cX7_withInsurers 14 = .ok (.getfield 66, 3) := by decide +kernel
theorem dX7_withInsurers_17 : decode cX7_withInsurers 17 = .ok (.if_icmp .ge 39, 3) := by decide +kernel
theorem dX7_withInsurers_20 : decode cX7_withInsurers 20 = .ok (.iconst 0, 1) := by decide +kernel
theorem dX7_withInsurers_21 : decode cX7_withInsurers 21 = .ok (.istore 6, 2) := by decide +kernel
theorem dX7_withInsurers_23 : decode cX7_withInsurers 23 = .ok (.iload 6, 2) := by decide +kernel
theorem dX7_withInsurers_25 : decode cX7_withInsurers 25 = .ok (.bipush 7, 2) := by decide +kernel
theorem dX7_withInsurers_27 : decode cX7_withInsurers 27 = .ok (.if_icmp .ge 23, 3) := by decide +kernel
theorem dX7_withInsurers_30 : decode cX7_withInsurers 30 = .ok (.lload_n 3, 1) := by decide +kernel
theorem dX7_withInsurers_31 : decode cX7_withInsurers 31 = .ok (.aload_n 0, 1) := by decide +kernel
theorem dX7_withInsurers_32 : decode cX7_withInsurers 32 = .ok (.iload 5, 2) := by decide +kernel
theorem dX7_withInsurers_34 : decode cX7_withInsurers 34 = .ok (.iload 6, 2) := by decide +kernel
theorem dX7_withInsurers_36 : decode cX7_withInsurers 36 = .ok (.invokevirtual 366, 3) := by decide +kernel
theorem dX7_withInsurers_39 : decode cX7_withInsurers 39 = .ok (.i2l, 1) := by decide +kernel
theorem dX7_withInsurers_40 : decode cX7_withInsurers 40 = .ok (.invokestatic 318, 3) := by decide +kernel
theorem dX7_withInsurers_43 : decode cX7_withInsurers 43 = .ok (.lstore_n 3, 1) := by decide +kernel
theorem dX7_withInsurers_44 : decode cX7_withInsurers 44 = .ok (.iinc 6 1, 3) := by decide +kernel
theorem dX7_withInsurers_47 : decode cX7_withInsurers 47 = .ok (.goto (-24), 3) := by decide +kernel
theorem dX7_withInsurers_50 : decode cX7_withInsurers 50 = .ok (.iinc 5 1, 3) := by decide +kernel
theorem dX7_withInsurers_53 : decode cX7_withInsurers 53 = .ok (.goto (-48), 3) := by decide +kernel
theorem dX7_withInsurers_56 : decode cX7_withInsurers 56 = .ok (.lload_n 3, 1) := by decide +kernel
theorem dX7_withInsurers_57 : decode cX7_withInsurers 57 = .ok (.lreturn, 1) := by decide +kernel
theorem dX7_withDebts_0 : decode cX7_withDebts 0 = .ok (.lload_n 1, 1) := by decide +kernel
theorem dX7_withDebts_1 : decode cX7_withDebts 1 = .ok (.lstore_n 3, 1) := by decide +kernel
theorem dX7_withDebts_2 : decode cX7_withDebts 2 = .ok (.iconst 0, 1) := by decide +kernel
theorem dX7_withDebts_3 : decode cX7_withDebts 3 = .ok (.istore 5, 2) := by decide +kernel
theorem dX7_withDebts_5 : decode cX7_withDebts 5 = .ok (.iload 5, 2) := by decide +kernel
theorem dX7_withDebts_7 : decode cX7_withDebts 7 = .ok (.aload_n 0, 1) := by decide +kernel
theorem dX7_withDebts_8 : decode cX7_withDebts 8 = .ok (.getfield 10, 3) := by decide +kernel
theorem dX7_withDebts_11 : decode cX7_withDebts 11 = .ok (.getfield 157, 3) := by decide +kernel
theorem dX7_withDebts_14 : decode cX7_withDebts 14 = .ok (.getfield 161, 3) := by decide +kernel
theorem dX7_withDebts_17 : decode cX7_withDebts 17 = .ok (.if_icmp .ge 35, 3) := by decide +kernel
theorem dX7_withDebts_20 : decode cX7_withDebts 20 = .ok (.lload_n 3, 1) := by decide +kernel
theorem dX7_withDebts_21 : decode cX7_withDebts 21 = .ok (.aload_n 0, 1) := by decide +kernel
theorem dX7_withDebts_22 : decode cX7_withDebts 22 = .ok (.iload 5, 2) := by decide +kernel
theorem dX7_withDebts_24 : decode cX7_withDebts 24 = .ok (.iconst 0, 1) := by decide +kernel
theorem dX7_withDebts_25 : decode cX7_withDebts 25 = .ok (.invokevirtual 369, 3) := by decide +kernel
theorem dX7_withDebts_28 : decode cX7_withDebts 28 = .ok (.i2l, 1) := by decide +kernel
theorem dX7_withDebts_29 : decode cX7_withDebts 29 = .ok (.invokestatic 318, 3) := by decide +kernel
theorem dX7_withDebts_32 : decode cX7_withDebts 32 = .ok (.lstore_n 3, 1) := by decide +kernel
theorem dX7_withDebts_33 : decode cX7_withDebts 33 = .ok (.lload_n 3, 1) := by decide +kernel
theorem dX7_withDebts_34 : decode cX7_withDebts 34 = .ok (.aload_n 0, 1) := by decide +kernel
theorem dX7_withDebts_35 : decode cX7_withDebts 35 = .ok (.iload 5, 2) := by decide +kernel
theorem dX7_withDebts_37 : decode cX7_withDebts 37 = .ok (.iconst 1, 1) := by decide +kernel
theorem dX7_withDebts_38 : decode cX7_withDebts 38 = .ok (.invokevirtual 369, 3) := by decide +kernel
theorem dX7_withDebts_41 : decode cX7_withDebts 41 = .ok (.i2l, 1) := by decide +kernel
theorem dX7_withDebts_42 : decode cX7_withDebts 42 = .ok (.invokestatic 318, 3) := by decide +kernel
theorem dX7_withDebts_45 : decode cX7_withDebts 45 = .ok (.lstore_n 3, 1) := by decide +kernel
theorem dX7_withDebts_46 : decode cX7_withDebts 46 = .ok (.iinc 5 1, 3) := by decide +kernel
theorem dX7_withDebts_49 : decode cX7_withDebts 49 = .ok (.goto (-44), 3) := by decide +kernel
theorem dX7_withDebts_52 : decode cX7_withDebts 52 = .ok (.lload_n 3, 1) := by decide +kernel
theorem dX7_withDebts_53 : decode cX7_withDebts 53 = .ok (.lreturn, 1) := by decide +kernel
theorem dX7_withText_0 : decode cX7_withText 0 = .ok (.lload_n 1, 1) := by decide +kernel
theorem dX7_withText_1 : decode cX7_withText 1 = .ok (.aload_n 0, 1) := by decide +kernel
theorem dX7_withText_2 : decode cX7_withText 2 = .ok (.getfield 29, 3) := by decide +kernel
theorem dX7_withText_5 : decode cX7_withText 5 = .ok (.getfield 174, 3) := by decide +kernel
theorem dX7_withText_8 : decode cX7_withText 8 = .ok (.i2l, 1) := by decide +kernel
theorem dX7_withText_9 : decode cX7_withText 9 = .ok (.invokestatic 318, 3) := by decide +kernel
theorem dX7_withText_12 : decode cX7_withText 12 = .ok (.lstore_n 3, 1) := by decide +kernel
theorem dX7_withText_13 : decode cX7_withText 13 = .ok (.iconst 0, 1) := by decide +kernel
theorem dX7_withText_14 : decode cX7_withText 14 = .ok (.istore 5, 2) := by decide +kernel
theorem dX7_withText_16 : decode cX7_withText 16 = .ok (.iload 5, 2) := by decide +kernel
theorem dX7_withText_18 : decode cX7_withText 18 = .ok (.aload_n 0, 1) := by decide +kernel
theorem dX7_withText_19 : decode cX7_withText 19 = .ok (.getfield 29, 3) := by decide +kernel
theorem dX7_withText_22 : decode cX7_withText 22 = .ok (.getfield 174, 3) := by decide +kernel
theorem dX7_withText_25 : decode cX7_withText 25 = .ok (.if_icmp .ge 24, 3) := by decide +kernel
theorem dX7_withText_28 : decode cX7_withText 28 = .ok (.lload_n 3, 1) := by decide +kernel
theorem dX7_withText_29 : decode cX7_withText 29 = .ok (.aload_n 0, 1) := by decide +kernel
theorem dX7_withText_30 : decode cX7_withText 30 = .ok (.getfield 29, 3) := by decide +kernel
theorem dX7_withText_33 : decode cX7_withText 33 = .ok (.iload 5, 2) := by decide +kernel
theorem dX7_withText_35 : decode cX7_withText 35 = .ok (.invokevirtual 372, 3) := by decide +kernel
theorem dX7_withText_38 : decode cX7_withText 38 = .ok (.i2l, 1) := by decide +kernel
theorem dX7_withText_39 : decode cX7_withText 39 = .ok (.invokestatic 318, 3) := by decide +kernel
theorem dX7_withText_42 : decode cX7_withText 42 = .ok (.lstore_n 3, 1) := by decide +kernel
theorem dX7_withText_43 : decode cX7_withText 43 = .ok (.iinc 5 1, 3) := by decide +kernel
theorem dX7_withText_46 : decode cX7_withText 46 = .ok (.goto (-30), 3) := by decide +kernel
theorem dX7_withText_49 : decode cX7_withText 49 = .ok (.lload_n 3, 1) := by decide +kernel
theorem dX7_withText_50 : decode cX7_withText 50 = .ok (.lreturn, 1) := by decide +kernel
theorem dX7_bitsOfShare_0 : decode cX7_bitsOfShare 0 = .ok (.dload_n 0, 1) := by decide +kernel
theorem dX7_bitsOfShare_1 : decode cX7_bitsOfShare 1 = .ok (.dconst 0, 1) := by decide +kernel
theorem dX7_bitsOfShare_2 : decode cX7_bitsOfShare 2 = .ok (.dcmp .g, 1) := by decide +kernel
theorem dX7_bitsOfShare_3 : decode cX7_bitsOfShare 3 = .ok (.ifCond .gt 5, 3) := by decide +kernel
theorem dX7_bitsOfShare_6 : decode cX7_bitsOfShare 6 = .ok (.lconst 0, 1) := by decide +kernel
theorem dX7_bitsOfShare_7 : decode cX7_bitsOfShare 7 = .ok (.lreturn, 1) := by decide +kernel
theorem dX7_bitsOfShare_8 : decode cX7_bitsOfShare 8 = .ok (.dload_n 0, 1) := by decide +kernel
theorem dX7_bitsOfShare_9 : decode cX7_bitsOfShare 9 = .ok (.dstore_n 2, 1) := by decide +kernel
theorem dX7_bitsOfShare_10 : decode cX7_bitsOfShare 10 = .ok (.ldc2_w 375, 3) := by decide +kernel
theorem dX7_bitsOfShare_13 : decode cX7_bitsOfShare 13 = .ok (.lstore 4, 2) := by decide +kernel
theorem dX7_bitsOfShare_15 : decode cX7_bitsOfShare 15 = .ok (.iconst 1, 1) := by decide +kernel
theorem dX7_bitsOfShare_16 : decode cX7_bitsOfShare 16 = .ok (.istore 6, 2) := by decide +kernel
theorem dX7_bitsOfShare_18 : decode cX7_bitsOfShare 18 = .ok (.iload 6, 2) := by decide +kernel
theorem dX7_bitsOfShare_20 : decode cX7_bitsOfShare 20 = .ok (.sipush 1023, 3) := by decide +kernel
theorem dX7_bitsOfShare_23 : decode cX7_bitsOfShare 23 = .ok (.if_icmp .ge 27, 3) := by decide +kernel
theorem dX7_bitsOfShare_26 : decode cX7_bitsOfShare 26 = .ok (.dload_n 2, 1) := by decide +kernel
theorem dX7_bitsOfShare_27 : decode cX7_bitsOfShare 27 = .ok (.dconst 1, 1) := by decide +kernel
theorem dX7_bitsOfShare_28 : decode cX7_bitsOfShare 28 = .ok (.dcmp .g, 1) := by decide +kernel
theorem dX7_bitsOfShare_29 : decode cX7_bitsOfShare 29 = .ok (.ifCond .ge 21, 3) := by decide +kernel
theorem dX7_bitsOfShare_32 : decode cX7_bitsOfShare 32 = .ok (.dload_n 2, 1) := by decide +kernel
theorem dX7_bitsOfShare_33 : decode cX7_bitsOfShare 33 = .ok (.ldc2_w 377, 3) := by decide +kernel
theorem dX7_bitsOfShare_36 : decode cX7_bitsOfShare 36 = .ok (.dmul, 1) := by decide +kernel
theorem dX7_bitsOfShare_37 : decode cX7_bitsOfShare 37 = .ok (.dstore_n 2, 1) := by decide +kernel
theorem dX7_bitsOfShare_38 : decode cX7_bitsOfShare 38 = .ok (.lload 4, 2) := by decide +kernel
theorem dX7_bitsOfShare_40 : decode cX7_bitsOfShare 40 = .ok (.lconst 1, 1) := by decide +kernel
theorem dX7_bitsOfShare_41 : decode cX7_bitsOfShare 41 = .ok (.lsub, 1) := by decide +kernel
theorem dX7_bitsOfShare_42 : decode cX7_bitsOfShare 42 = .ok (.lstore 4, 2) := by decide +kernel
theorem dX7_bitsOfShare_44 : decode cX7_bitsOfShare 44 = .ok (.iinc 6 1, 3) := by decide +kernel
theorem dX7_bitsOfShare_47 : decode cX7_bitsOfShare 47 = .ok (.goto (-29), 3) := by decide +kernel
theorem dX7_bitsOfShare_50 : decode cX7_bitsOfShare 50 = .ok (.dload_n 2, 1) := by decide +kernel
theorem dX7_bitsOfShare_51 : decode cX7_bitsOfShare 51 = .ok (.dconst 1, 1) := by decide +kernel
theorem dX7_bitsOfShare_52 : decode cX7_bitsOfShare 52 = .ok (.dsub, 1) := by decide +kernel
theorem dX7_bitsOfShare_53 : decode cX7_bitsOfShare 53 = .ok (.ldc2_w 379, 3) := by decide +kernel
theorem dX7_bitsOfShare_56 : decode cX7_bitsOfShare 56 = .ok (.dmul, 1) := by decide +kernel
theorem dX7_bitsOfShare_57 : decode cX7_bitsOfShare 57 = .ok (.d2l, 1) := by decide +kernel
theorem dX7_bitsOfShare_58 : decode cX7_bitsOfShare 58 = .ok (.lstore 6, 2) := by decide +kernel
theorem dX7_bitsOfShare_60 : decode cX7_bitsOfShare 60 = .ok (.lload 4, 2) := by decide +kernel
theorem dX7_bitsOfShare_62 : decode cX7_bitsOfShare 62 = .ok (.bipush 52, 2) := by decide +kernel
theorem dX7_bitsOfShare_64 : decode cX7_bitsOfShare 64 = .ok (.lshl, 1) := by decide +kernel
theorem dX7_bitsOfShare_65 : decode cX7_bitsOfShare 65 = .ok (.lload 6, 2) := by decide +kernel
theorem dX7_bitsOfShare_67 : decode cX7_bitsOfShare 67 = .ok (.ladd, 1) := by decide +kernel
theorem dX7_bitsOfShare_68 : decode cX7_bitsOfShare 68 = .ok (.lreturn, 1) := by decide +kernel
theorem dX7_canDoStep_0 : decode cX7_canDoStep 0 = .ok (.aload_n 0, 1) := by decide +kernel
theorem dX7_canDoStep_1 : decode cX7_canDoStep 1 = .ok (.getfield 29, 3) := by decide +kernel
theorem dX7_canDoStep_4 : decode cX7_canDoStep 4 = .ok (.iload_n 2, 1) := by decide +kernel
theorem dX7_canDoStep_5 : decode cX7_canDoStep 5 = .ok (.iconst 1, 1) := by decide +kernel
theorem dX7_canDoStep_6 : decode cX7_canDoStep 6 = .ok (.iadd, 1) := by decide +kernel
theorem dX7_canDoStep_7 : decode cX7_canDoStep 7 = .ok (.invokevirtual 381, 3) := by decide +kernel
theorem dX7_canDoStep_10 : decode cX7_canDoStep 10 = .ok (.istore_n 3, 1) := by decide +kernel
theorem dX7_canDoStep_11 : decode cX7_canDoStep 11 = .ok (.aload_n 0, 1) := by decide +kernel
theorem dX7_canDoStep_12 : decode cX7_canDoStep 12 = .ok (.getfield 29, 3) := by decide +kernel
theorem dX7_canDoStep_15 : decode cX7_canDoStep 15 = .ok (.iload_n 2, 1) := by decide +kernel
theorem dX7_canDoStep_16 : decode cX7_canDoStep 16 = .ok (.invokevirtual 372, 3) := by decide +kernel
theorem dX7_canDoStep_19 : decode cX7_canDoStep 19 = .ok (.lookupswitch 97 #[(98, 78), (114, 33), (119, 65)], 33) := by decide +kernel
theorem dX7_canDoStep_52 : decode cX7_canDoStep 52 = .ok (.aload_n 0, 1) := by decide +kernel
theorem dX7_canDoStep_53 : decode cX7_canDoStep 53 = .ok (.getfield 10, 3) := by decide +kernel
theorem dX7_canDoStep_56 : decode cX7_canDoStep 56 = .ok (.getfield 89, 3) := by decide +kernel
theorem dX7_canDoStep_59 : decode cX7_canDoStep 59 = .ok (.iload_n 3, 1) := by decide +kernel
theorem dX7_canDoStep_60 : decode cX7_canDoStep 60 = .ok (.iload_n 1, 1) := by decide +kernel
theorem dX7_canDoStep_61 : decode cX7_canDoStep 61 = .ok (.invokevirtual 384, 3) := by decide +kernel
theorem dX7_canDoStep_64 : decode cX7_canDoStep 64 = .ok (.ifCond .eq 18, 3) := by decide +kernel
theorem dX7_canDoStep_67 : decode cX7_canDoStep 67 = .ok (.aload_n 0, 1) := by decide +kernel
theorem dX7_canDoStep_68 : decode cX7_canDoStep 68 = .ok (.getfield 10, 3) := by decide +kernel
theorem dX7_canDoStep_71 : decode cX7_canDoStep 71 = .ok (.iload_n 3, 1) := by decide +kernel
theorem dX7_canDoStep_72 : decode cX7_canDoStep 72 = .ok (.invokevirtual 151, 3) := by decide +kernel
theorem dX7_canDoStep_75 : decode cX7_canDoStep 75 = .ok (.ifCond .eq 7, 3) := by decide +kernel
theorem dX7_canDoStep_78 : decode cX7_canDoStep 78 = .ok (.iconst 1, 1) := by decide +kernel
theorem dX7_canDoStep_79 : decode cX7_canDoStep 79 = .ok (.goto 4, 3) := by decide +kernel
theorem dX7_canDoStep_82 : decode cX7_canDoStep 82 = .ok (.iconst 0, 1) := by decide +kernel
theorem dX7_canDoStep_83 : decode cX7_canDoStep 83 = .ok (.ireturn, 1) := by decide +kernel
theorem dX7_canDoStep_84 : decode cX7_canDoStep 84 = .ok (.aload_n 0, 1) := by decide +kernel
theorem dX7_canDoStep_85 : decode cX7_canDoStep 85 = .ok (.getfield 10, 3) := by decide +kernel
theorem dX7_canDoStep_88 : decode cX7_canDoStep 88 = .ok (.getfield 89, 3) := by decide +kernel
theorem dX7_canDoStep_91 : decode cX7_canDoStep 91 = .ok (.iload_n 3, 1) := by decide +kernel
theorem dX7_canDoStep_92 : decode cX7_canDoStep 92 = .ok (.iload_n 1, 1) := by decide +kernel
theorem dX7_canDoStep_93 : decode cX7_canDoStep 93 = .ok (.invokevirtual 384, 3) := by decide +kernel
theorem dX7_canDoStep_96 : decode cX7_canDoStep 96 = .ok (.ireturn, 1) := by decide +kernel
theorem dX7_canDoStep_97 : decode cX7_canDoStep 97 = .ok (.aload_n 0, 1) := by decide +kernel
theorem dX7_canDoStep_98 : decode cX7_canDoStep 98 = .ok (.getfield 10, 3) := by decide +kernel
theorem dX7_canDoStep_101 : decode cX7_canDoStep 101 = .ok (.getfield 157, 3) := by decide +kernel
theorem dX7_canDoStep_104 : decode cX7_canDoStep 104 = .ok (.getfield 161, 3) := by decide +kernel
theorem dX7_canDoStep_107 : decode cX7_canDoStep 107 = .ok (.ifCond .le 7, 3) := by decide +kernel
theorem dX7_canDoStep_110 : decode cX7_canDoStep 110 = .ok (.iconst 1, 1) := by decide +kernel
theorem dX7_canDoStep_111 : decode cX7_canDoStep 111 = .ok (.goto 4, 3) := by decide +kernel
theorem dX7_canDoStep_114 : decode cX7_canDoStep 114 = .ok (.iconst 0, 1) := by decide +kernel
theorem dX7_canDoStep_115 : decode cX7_canDoStep 115 = .ok (.ireturn, 1) := by decide +kernel
theorem dX7_canDoStep_116 : decode cX7_canDoStep 116 = .ok (.aload_n 0, 1) := by decide +kernel
theorem dX7_canDoStep_117 : decode cX7_canDoStep 117 = .ok (.getfield 10, 3) := by decide +kernel
theorem dX7_canDoStep_120 : decode cX7_canDoStep 120 = .ok (.getfield 168, 3) := by decide +kernel
theorem dX7_canDoStep_123 : decode cX7_canDoStep 123 = .ok (.aload_n 0, 1) := by decide +kernel
theorem dX7_canDoStep_124 : decode cX7_canDoStep 124 = .ok (.getfield 29, 3) := by decide +kernel
theorem dX7_canDoStep_127 : decode cX7_canDoStep 127 = .ok (.iload_n 2, 1) := by decide +kernel
theorem dX7_canDoStep_128 : decode cX7_canDoStep 128 = .ok (.iconst 1, 1) := by decide +kernel
theorem dX7_canDoStep_129 : decode cX7_canDoStep 129 = .ok (.iadd, 1) := by decide +kernel
theorem dX7_canDoStep_130 : decode cX7_canDoStep 130 = .ok (.invokevirtual 387, 3) := by decide +kernel
theorem dX7_canDoStep_133 : decode cX7_canDoStep 133 = .ok (.iadd, 1) := by decide +kernel
theorem dX7_canDoStep_134 : decode cX7_canDoStep 134 = .ok (.sipush 10000, 3) := by decide +kernel
theorem dX7_canDoStep_137 : decode cX7_canDoStep 137 = .ok (.if_icmp .gt 7, 3) := by decide +kernel
theorem dX7_canDoStep_140 : decode cX7_canDoStep 140 = .ok (.iconst 1, 1) := by decide +kernel
theorem dX7_canDoStep_141 : decode cX7_canDoStep 141 = .ok (.goto 4, 3) := by decide +kernel
theorem dX7_canDoStep_144 : decode cX7_canDoStep 144 = .ok (.iconst 0, 1) := by decide +kernel
theorem dX7_canDoStep_145 : decode cX7_canDoStep 145 = .ok (.ireturn, 1) := by decide +kernel
theorem dX7_doStep_0 : decode cX7_doStep 0 = .ok (.aload_n 0, 1) := by decide +kernel
theorem dX7_doStep_1 : decode cX7_doStep 1 = .ok (.getfield 29, 3) := by decide +kernel
theorem dX7_doStep_4 : decode cX7_doStep 4 = .ok (.iload_n 1, 1) := by decide +kernel
theorem dX7_doStep_5 : decode cX7_doStep 5 = .ok (.iconst 1, 1) := by decide +kernel
theorem dX7_doStep_6 : decode cX7_doStep 6 = .ok (.iadd, 1) := by decide +kernel
theorem dX7_doStep_7 : decode cX7_doStep 7 = .ok (.invokevirtual 381, 3) := by decide +kernel
theorem dX7_doStep_10 : decode cX7_doStep 10 = .ok (.istore_n 2, 1) := by decide +kernel
theorem dX7_doStep_11 : decode cX7_doStep 11 = .ok (.aload_n 0, 1) := by decide +kernel
theorem dX7_doStep_12 : decode cX7_doStep 12 = .ok (.getfield 29, 3) := by decide +kernel
theorem dX7_doStep_15 : decode cX7_doStep 15 = .ok (.iload_n 1, 1) := by decide +kernel
theorem dX7_doStep_16 : decode cX7_doStep 16 = .ok (.invokevirtual 372, 3) := by decide +kernel
theorem dX7_doStep_19 : decode cX7_doStep 19 = .ok (.lookupswitch 87 #[(98, 76), (114, 33), (119, 45)], 33) := by decide +kernel
theorem dX7_doStep_52 : decode cX7_doStep 52 = .ok (.aload_n 0, 1) := by decide +kernel
theorem dX7_doStep_53 : decode cX7_doStep 53 = .ok (.getfield 10, 3) := by decide +kernel
theorem dX7_doStep_56 : decode cX7_doStep 56 = .ok (.iload_n 2, 1) := by decide +kernel
theorem dX7_doStep_57 : decode cX7_doStep 57 = .ok (.invokevirtual 154, 3) := by decide +kernel
theorem dX7_doStep_60 : decode cX7_doStep 60 = .ok (.pop, 1) := by decide +kernel
theorem dX7_doStep_61 : decode cX7_doStep 61 = .ok (.goto 62, 3) := by decide +kernel
theorem dX7_doStep_64 : decode cX7_doStep 64 = .ok (.aload_n 0, 1) := by decide +kernel
theorem dX7_doStep_65 : decode cX7_doStep 65 = .ok (.getfield 10, 3) := by decide +kernel
theorem dX7_doStep_68 : decode cX7_doStep 68 = .ok (.iload_n 2, 1) := by decide +kernel
theorem dX7_doStep_69 : decode cX7_doStep 69 = .ok (.aload_n 0, 1) := by decide +kernel
theorem dX7_doStep_70 : decode cX7_doStep 70 = .ok (.getfield 29, 3) := by decide +kernel
theorem dX7_doStep_73 : decode cX7_doStep 73 = .ok (.iload_n 1, 1) := by decide +kernel
theorem dX7_doStep_74 : decode cX7_doStep 74 = .ok (.iconst 4, 1) := by decide +kernel
theorem dX7_doStep_75 : decode cX7_doStep 75 = .ok (.iadd, 1) := by decide +kernel
theorem dX7_doStep_76 : decode cX7_doStep 76 = .ok (.invokevirtual 372, 3) := by decide +kernel
theorem dX7_doStep_79 : decode cX7_doStep 79 = .ok (.bipush 49, 2) := by decide +kernel
theorem dX7_doStep_81 : decode cX7_doStep 81 = .ok (.if_icmp .ne 7, 3) := by decide +kernel
theorem dX7_doStep_84 : decode cX7_doStep 84 = .ok (.iconst 1, 1) := by decide +kernel
theorem dX7_doStep_85 : decode cX7_doStep 85 = .ok (.goto 4, 3) := by decide +kernel
theorem dX7_doStep_88 : decode cX7_doStep 88 = .ok (.iconst 0, 1) := by decide +kernel
theorem dX7_doStep_89 : decode cX7_doStep 89 = .ok (.invokevirtual 144, 3) := by decide +kernel
theorem dX7_doStep_92 : decode cX7_doStep 92 = .ok (.goto 31, 3) := by decide +kernel
theorem dX7_doStep_95 : decode cX7_doStep 95 = .ok (.aload_n 0, 1) := by decide +kernel
theorem dX7_doStep_96 : decode cX7_doStep 96 = .ok (.getfield 10, 3) := by decide +kernel
theorem dX7_doStep_99 : decode cX7_doStep 99 = .ok (.invokevirtual 164, 3) := by decide +kernel
theorem dX7_doStep_102 : decode cX7_doStep 102 = .ok (.pop, 1) := by decide +kernel
theorem dX7_doStep_103 : decode cX7_doStep 103 = .ok (.goto 20, 3) := by decide +kernel
theorem dX7_doStep_106 : decode cX7_doStep 106 = .ok (.aload_n 0, 1) := by decide +kernel
theorem dX7_doStep_107 : decode cX7_doStep 107 = .ok (.getfield 10, 3) := by decide +kernel
theorem dX7_doStep_110 : decode cX7_doStep 110 = .ok (.aload_n 0, 1) := by decide +kernel
theorem dX7_doStep_111 : decode cX7_doStep 111 = .ok (.getfield 29, 3) := by decide +kernel
theorem dX7_doStep_114 : decode cX7_doStep 114 = .ok (.iload_n 1, 1) := by decide +kernel
theorem dX7_doStep_115 : decode cX7_doStep 115 = .ok (.iconst 1, 1) := by decide +kernel
theorem dX7_doStep_116 : decode cX7_doStep 116 = .ok (.iadd, 1) := by decide +kernel
theorem dX7_doStep_117 : decode cX7_doStep 117 = .ok (.invokevirtual 387, 3) := by decide +kernel
theorem dX7_doStep_120 : decode cX7_doStep 120 = .ok (.invokevirtual 171, 3) := by decide +kernel
theorem dX7_doStep_123 : decode cX7_doStep 123 = .ok (.return_, 1) := by decide +kernel
theorem dX7_within_0 : decode cX7_within 0 = .ok (.iload_n 1, 1) := by decide +kernel
theorem dX7_within_1 : decode cX7_within 1 = .ok (.iload_n 0, 1) := by decide +kernel
theorem dX7_within_2 : decode cX7_within 2 = .ok (.if_icmp .gt 12, 3) := by decide +kernel
theorem dX7_within_5 : decode cX7_within 5 = .ok (.iload_n 0, 1) := by decide +kernel
theorem dX7_within_6 : decode cX7_within 6 = .ok (.iload_n 2, 1) := by decide +kernel
theorem dX7_within_7 : decode cX7_within 7 = .ok (.if_icmp .gt 7, 3) := by decide +kernel
theorem dX7_within_10 : decode cX7_within 10 = .ok (.iconst 1, 1) := by decide +kernel
theorem dX7_within_11 : decode cX7_within 11 = .ok (.goto 4, 3) := by decide +kernel
theorem dX7_within_14 : decode cX7_within 14 = .ok (.iconst 0, 1) := by decide +kernel
theorem dX7_within_15 : decode cX7_within 15 = .ok (.ireturn, 1) := by decide +kernel
theorem dX7_isCore_0 : decode cX7_isCore 0 = .ok (.iload_n 0, 1) := by decide +kernel
theorem dX7_isCore_1 : decode cX7_isCore 1 = .ok (.iconst 0, 1) := by decide +kernel
theorem dX7_isCore_2 : decode cX7_isCore 2 = .ok (.bipush 63, 2) := by decide +kernel
theorem dX7_isCore_4 : decode cX7_isCore 4 = .ok (.invokestatic 33, 3) := by decide +kernel
theorem dX7_isCore_7 : decode cX7_isCore 7 = .ok (.ireturn, 1) := by decide +kernel
theorem dX7_requireCore_0 : decode cX7_requireCore 0 = .ok (.iload_n 0, 1) := by decide +kernel
theorem dX7_requireCore_1 : decode cX7_requireCore 1 = .ok (.invokestatic 390, 3) := by decide +kernel
theorem dX7_requireCore_4 : decode cX7_requireCore 4 = .ok (.ifCond .ne 14, 3) := by decide +kernel
theorem dX7_requireCore_7 : decode cX7_requireCore 7 = .ok (.new 393, 3) := by decide +kernel
theorem dX7_requireCore_10 : decode cX7_requireCore 10 = .ok (.dup, 1) := by decide +kernel
theorem dX7_requireCore_11 : decode cX7_requireCore 11 = .ok (.ldc_w 395, 3) := by decide +kernel
theorem dX7_requireCore_14 : decode cX7_requireCore 14 = .ok (.invokespecial 397, 3) := by decide +kernel
theorem dX7_requireCore_17 : decode cX7_requireCore 17 = .ok (.athrow, 1) := by decide +kernel
theorem dX7_requireCore_18 : decode cX7_requireCore 18 = .ok (.return_, 1) := by decide +kernel
theorem dX7_requireTenant_0 : decode cX7_requireTenant 0 = .ok (.aload_n 0, 1) := by decide +kernel
theorem dX7_requireTenant_1 : decode cX7_requireTenant 1 = .ok (.getfield 10, 3) := by decide +kernel
theorem dX7_requireTenant_4 : decode cX7_requireTenant 4 = .ok (.getfield 41, 3) := by decide +kernel
theorem dX7_requireTenant_7 : decode cX7_requireTenant 7 = .ok (.iload_n 1, 1) := by decide +kernel
theorem dX7_requireTenant_8 : decode cX7_requireTenant 8 = .ok (.invokevirtual 115, 3) := by decide +kernel
theorem dX7_requireTenant_11 : decode cX7_requireTenant 11 = .ok (.ifCond .ne 14, 3) := by decide +kernel
theorem dX7_requireTenant_14 : decode cX7_requireTenant 14 = .ok (.new 393, 3) := by decide +kernel
theorem dX7_requireTenant_17 : decode cX7_requireTenant 17 = .ok (.dup, 1) := by decide +kernel
theorem dX7_requireTenant_18 : decode cX7_requireTenant 18 = .ok (.ldc_w 400, 3) := by decide +kernel
theorem dX7_requireTenant_21 : decode cX7_requireTenant 21 = .ok (.invokespecial 397, 3) := by decide +kernel
theorem dX7_requireTenant_24 : decode cX7_requireTenant 24 = .ok (.athrow, 1) := by decide +kernel
theorem dX7_requireTenant_25 : decode cX7_requireTenant 25 = .ok (.return_, 1) := by decide +kernel
theorem dX7_requireInsurer_0 : decode cX7_requireInsurer 0 = .ok (.aload_n 0, 1) := by decide +kernel
theorem dX7_requireInsurer_1 : decode cX7_requireInsurer 1 = .ok (.getfield 10, 3) := by decide +kernel
theorem dX7_requireInsurer_4 : decode cX7_requireInsurer 4 = .ok (.getfield 62, 3) := by decide +kernel
theorem dX7_requireInsurer_7 : decode cX7_requireInsurer 7 = .ok (.iload_n 1, 1) := by decide +kernel
theorem dX7_requireInsurer_8 : decode cX7_requireInsurer 8 = .ok (.invokevirtual 402, 3) := by decide +kernel
theorem dX7_requireInsurer_11 : decode cX7_requireInsurer 11 = .ok (.ifCond .ne 14, 3) := by decide +kernel
theorem dX7_requireInsurer_14 : decode cX7_requireInsurer 14 = .ok (.new 393, 3) := by decide +kernel
theorem dX7_requireInsurer_17 : decode cX7_requireInsurer 17 = .ok (.dup, 1) := by decide +kernel
theorem dX7_requireInsurer_18 : decode cX7_requireInsurer 18 = .ok (.ldc_w 403, 3) := by decide +kernel
theorem dX7_requireInsurer_21 : decode cX7_requireInsurer 21 = .ok (.invokespecial 397, 3) := by decide +kernel
theorem dX7_requireInsurer_24 : decode cX7_requireInsurer 24 = .ok (.athrow, 1) := by decide +kernel
theorem dX7_requireInsurer_25 : decode cX7_requireInsurer 25 = .ok (.return_, 1) := by decide +kernel
theorem dX7_requireSetting_0 : decode cX7_requireSetting 0 = .ok (.iload_n 0, 1) := by decide +kernel
theorem dX7_requireSetting_1 : decode cX7_requireSetting 1 = .ok (.iconst 0, 1) := by decide +kernel
theorem dX7_requireSetting_2 : decode cX7_requireSetting 2 = .ok (.bipush 7, 2) := by decide +kernel
theorem dX7_requireSetting_4 : decode cX7_requireSetting 4 = .ok (.invokestatic 33, 3) := by decide +kernel
theorem dX7_requireSetting_7 : decode cX7_requireSetting 7 = .ok (.ifCond .ne 14, 3) := by decide +kernel
theorem dX7_requireSetting_10 : decode cX7_requireSetting 10 = .ok (.new 393, 3) := by decide +kernel
theorem dX7_requireSetting_13 : decode cX7_requireSetting 13 = .ok (.dup, 1) := by decide +kernel
theorem dX7_requireSetting_14 : decode cX7_requireSetting 14 = .ok (.ldc_w 405, 3) := by decide +kernel
theorem dX7_requireSetting_17 : decode cX7_requireSetting 17 = .ok (.invokespecial 397, 3) := by decide +kernel
theorem dX7_requireSetting_20 : decode cX7_requireSetting 20 = .ok (.athrow, 1) := by decide +kernel
theorem dX7_requireSetting_21 : decode cX7_requireSetting 21 = .ok (.return_, 1) := by decide +kernel
theorem dX7_requireArgument_0 : decode cX7_requireArgument 0 = .ok (.iload_n 0, 1) := by decide +kernel
theorem dX7_requireArgument_1 : decode cX7_requireArgument 1 = .ok (.ifCond .ne 14, 3) := by decide +kernel
theorem dX7_requireArgument_4 : decode cX7_requireArgument 4 = .ok (.new 407, 3) := by decide +kernel
theorem dX7_requireArgument_7 : decode cX7_requireArgument 7 = .ok (.dup, 1) := by decide +kernel
theorem dX7_requireArgument_8 : decode cX7_requireArgument 8 = .ok (.ldc_w 409, 3) := by decide +kernel
theorem dX7_requireArgument_11 : decode cX7_requireArgument 11 = .ok (.invokespecial 411, 3) := by decide +kernel
theorem dX7_requireArgument_14 : decode cX7_requireArgument 14 = .ok (.athrow, 1) := by decide +kernel
theorem dX7_requireArgument_15 : decode cX7_requireArgument 15 = .ok (.return_, 1) := by decide +kernel
theorem dX7_requireState_0 : decode cX7_requireState 0 = .ok (.iload_n 0, 1) := by decide +kernel
theorem dX7_requireState_1 : decode cX7_requireState 1 = .ok (.ifCond .ne 14, 3) := by decide +kernel
theorem dX7_requireState_4 : decode cX7_requireState 4 = .ok (.new 412, 3) := by decide +kernel
theorem dX7_requireState_7 : decode cX7_requireState 7 = .ok (.dup, 1) := by decide +kernel
theorem dX7_requireState_8 : decode cX7_requireState 8 = .ok (.ldc_w 414, 3) := by decide +kernel
theorem dX7_requireState_11 : decode cX7_requireState 11 = .ok (.invokespecial 416, 3) := by decide +kernel
theorem dX7_requireState_14 : decode cX7_requireState 14 = .ok (.athrow, 1) := by decide +kernel
theorem dX7_requireState_15 : decode cX7_requireState 15 = .ok (.return_, 1) := by decide +kernel
theorem dX7_maskOf_0 : decode cX7_maskOf 0 = .ok (.lconst 1, 1) := by decide +kernel
theorem dX7_maskOf_1 : decode cX7_maskOf 1 = .ok (.iload_n 0, 1) := by decide +kernel
theorem dX7_maskOf_2 : decode cX7_maskOf 2 = .ok (.lshl, 1) := by decide +kernel
theorem dX7_maskOf_3 : decode cX7_maskOf 3 = .ok (.lreturn, 1) := by decide +kernel
theorem dX7_linesOf_0 : decode cX7_linesOf 0 = .ok (.ldc2_w 417, 3) := by decide +kernel
theorem dX7_linesOf_3 : decode cX7_linesOf 3 = .ok (.iload_n 0, 1) := by decide +kernel
theorem dX7_linesOf_4 : decode cX7_linesOf 4 = .ok (.bipush 8, 2) := by decide +kernel
theorem dX7_linesOf_6 : decode cX7_linesOf 6 = .ok (.idiv, 1) := by decide +kernel
theorem dX7_linesOf_7 : decode cX7_linesOf 7 = .ok (.bipush 8, 2) := by decide +kernel
theorem dX7_linesOf_9 : decode cX7_linesOf 9 = .ok (.imul, 1) := by decide +kernel
theorem dX7_linesOf_10 : decode cX7_linesOf 10 = .ok (.lshl, 1) := by decide +kernel
theorem dX7_linesOf_11 : decode cX7_linesOf 11 = .ok (.lstore_n 1, 1) := by decide +kernel
theorem dX7_linesOf_12 : decode cX7_linesOf 12 = .ok (.ldc2_w 419, 3) := by decide +kernel
theorem dX7_linesOf_15 : decode cX7_linesOf 15 = .ok (.iload_n 0, 1) := by decide +kernel
theorem dX7_linesOf_16 : decode cX7_linesOf 16 = .ok (.bipush 8, 2) := by decide +kernel
theorem dX7_linesOf_18 : decode cX7_linesOf 18 = .ok (.irem, 1) := by decide +kernel
theorem dX7_linesOf_19 : decode cX7_linesOf 19 = .ok (.lshl, 1) := by decide +kernel
theorem dX7_linesOf_20 : decode cX7_linesOf 20 = .ok (.lstore_n 3, 1) := by decide +kernel
theorem dX7_linesOf_21 : decode cX7_linesOf 21 = .ok (.lload_n 1, 1) := by decide +kernel
theorem dX7_linesOf_22 : decode cX7_linesOf 22 = .ok (.lload_n 3, 1) := by decide +kernel
theorem dX7_linesOf_23 : decode cX7_linesOf 23 = .ok (.lor, 1) := by decide +kernel
theorem dX7_linesOf_24 : decode cX7_linesOf 24 = .ok (.iload_n 0, 1) := by decide +kernel
theorem dX7_linesOf_25 : decode cX7_linesOf 25 = .ok (.invokestatic 421, 3) := by decide +kernel
theorem dX7_linesOf_28 : decode cX7_linesOf 28 = .ok (.ldc2_w 424, 3) := by decide +kernel
theorem dX7_linesOf_31 : decode cX7_linesOf 31 = .ok (.lxor, 1) := by decide +kernel
theorem dX7_linesOf_32 : decode cX7_linesOf 32 = .ok (.land, 1) := by decide +kernel
theorem dX7_linesOf_33 : decode cX7_linesOf 33 = .ok (.lreturn, 1) := by decide +kernel
theorem dX7_copyRow_0 : decode cX7_copyRow 0 = .ok (.aload_n 0, 1) := by decide +kernel
theorem dX7_copyRow_1 : decode cX7_copyRow 1 = .ok (.iconst 0, 1) := by decide +kernel
theorem dX7_copyRow_2 : decode cX7_copyRow 2 = .ok (.aload_n 1, 1) := by decide +kernel
theorem dX7_copyRow_3 : decode cX7_copyRow 3 = .ok (.iconst 0, 1) := by decide +kernel
theorem dX7_copyRow_4 : decode cX7_copyRow 4 = .ok (.aload_n 0, 1) := by decide +kernel
theorem dX7_copyRow_5 : decode cX7_copyRow 5 = .ok (.arraylength, 1) := by decide +kernel
theorem dX7_copyRow_6 : decode cX7_copyRow 6 = .ok (.aload_n 1, 1) := by decide +kernel
theorem dX7_copyRow_7 : decode cX7_copyRow 7 = .ok (.arraylength, 1) := by decide +kernel
theorem dX7_copyRow_8 : decode cX7_copyRow 8 = .ok (.invokestatic 426, 3) := by decide +kernel
theorem dX7_copyRow_11 : decode cX7_copyRow 11 = .ok (.invokestatic 429, 3) := by decide +kernel
theorem dX7_copyRow_14 : decode cX7_copyRow 14 = .ok (.return_, 1) := by decide +kernel
theorem dX8_init_0 : decode cX8_init 0 = .ok (.aload_n 0, 1) := by decide +kernel
theorem dX8_init_1 : decode cX8_init 1 = .ok (.invokespecial 1, 3) := by decide +kernel
theorem dX8_init_4 : decode cX8_init 4 = .ok (.aload_n 0, 1) := by decide +kernel
theorem dX8_init_5 : decode cX8_init 5 = .ok (.sipush 2195, 3) := by decide +kernel
theorem dX8_init_8 : decode cX8_init 8 = .ok (.newarray .int, 2) := by decide +kernel
theorem dX8_init_10 : decode cX8_init 10 = .ok (.putfield 7, 3) := by decide +kernel
theorem dX8_init_13 : decode cX8_init 13 = .ok (.aload_n 0, 1) := by decide +kernel
theorem dX8_init_14 : decode cX8_init 14 = .ok (.sipush 2195, 3) := by decide +kernel
theorem dX8_init_17 : decode cX8_init 17 = .ok (.newarray .int, 2) := by decide +kernel
theorem dX8_init_19 : decode cX8_init 19 = .ok (.putfield 13, 3) := by decide +kernel
theorem dX8_init_22 : decode cX8_init 22 = .ok (.aload_n 0, 1) := by decide +kernel
theorem dX8_init_23 : decode cX8_init 23 = .ok (.sipush 13170, 3) := by decide +kernel
theorem dX8_init_26 : decode cX8_init 26 = .ok (.newarray .int, 2) := by decide +kernel
theorem dX8_init_28 : decode cX8_init 28 = .ok (.putfield 16, 3) := by decide +kernel
theorem dX8_init_31 : decode cX8_init 31 = .ok (.aload_n 0, 1) := by decide +kernel
theorem dX8_init_32 : decode cX8_init 32 = .ok (.bipush 60, 2) := by decide +kernel
theorem dX8_init_34 : decode cX8_init 34 = .ok (.newarray .int, 2) := by decide +kernel
theorem dX8_init_36 : decode cX8_init 36 = .ok (.putfield 19, 3) := by decide +kernel
theorem dX8_init_39 : decode cX8_init 39 = .ok (.aload_n 0, 1) := by decide +kernel
theorem dX8_init_40 : decode cX8_init 40 = .ok (.bipush 32, 2) := by decide +kernel
theorem dX8_init_42 : decode cX8_init 42 = .ok (.newarray .int, 2) := by decide +kernel
theorem dX8_init_44 : decode cX8_init 44 = .ok (.putfield 22, 3) := by decide +kernel
theorem dX8_init_47 : decode cX8_init 47 = .ok (.aload_n 0, 1) := by decide +kernel
theorem dX8_init_48 : decode cX8_init 48 = .ok (.bipush 32, 2) := by decide +kernel
theorem dX8_init_50 : decode cX8_init 50 = .ok (.newarray .int, 2) := by decide +kernel
theorem dX8_init_52 : decode cX8_init 52 = .ok (.putfield 25, 3) := by decide +kernel
theorem dX8_init_55 : decode cX8_init 55 = .ok (.aload_n 0, 1) := by decide +kernel
theorem dX8_init_56 : decode cX8_init 56 = .ok (.bipush 32, 2) := by decide +kernel
theorem dX8_init_58 : decode cX8_init 58 = .ok (.newarray .int, 2) := by decide +kernel
theorem dX8_init_60 : decode cX8_init 60 = .ok (.putfield 28, 3) := by decide +kernel
theorem dX8_init_63 : decode cX8_init 63 = .ok (.aload_n 0, 1) := by decide +kernel
theorem dX8_init_64 : decode cX8_init 64 = .ok (.bipush 64, 2) := by decide +kernel
theorem dX8_init_66 : decode cX8_init 66 = .ok (.newarray .int, 2) := by decide +kernel
theorem dX8_init_68 : decode cX8_init 68 = .ok (.putfield 31, 3) := by decide +kernel
theorem dX8_init_71 : decode cX8_init 71 = .ok (.aload_n 0, 1) := by decide +kernel
theorem dX8_init_72 : decode cX8_init 72 = .ok (.getfield 7, 3) := by decide +kernel
theorem dX8_init_75 : decode cX8_init 75 = .ok (.bipush 15, 2) := by decide +kernel
theorem dX8_init_77 : decode cX8_init 77 = .ok (.iconst 2, 1) := by decide +kernel
theorem dX8_init_78 : decode cX8_init 78 = .ok (.iastore, 1) := by decide +kernel
theorem dX8_init_79 : decode cX8_init 79 = .ok (.aload_n 0, 1) := by decide +kernel
theorem dX8_init_80 : decode cX8_init 80 = .ok (.getfield 7, 3) := by decide +kernel
theorem dX8_init_83 : decode cX8_init 83 = .ok (.bipush 16, 2) := by decide +kernel
theorem dX8_init_85 : decode cX8_init 85 = .ok (.iconst 4, 1) := by decide +kernel
theorem dX8_init_86 : decode cX8_init 86 = .ok (.iastore, 1) := by decide +kernel
theorem dX8_init_87 : decode cX8_init 87 = .ok (.aload_n 0, 1) := by decide +kernel
theorem dX8_init_88 : decode cX8_init 88 = .ok (.getfield 7, 3) := by decide +kernel
theorem dX8_init_91 : decode cX8_init 91 = .ok (.bipush 17, 2) := by decide +kernel
theorem dX8_init_93 : decode cX8_init 93 = .ok (.iconst 3, 1) := by decide +kernel
theorem dX8_init_94 : decode cX8_init 94 = .ok (.iastore, 1) := by decide +kernel
theorem dX8_init_95 : decode cX8_init 95 = .ok (.aload_n 0, 1) := by decide +kernel
theorem dX8_init_96 : decode cX8_init 96 = .ok (.getfield 7, 3) := by decide +kernel
theorem dX8_init_99 : decode cX8_init 99 = .ok (.bipush 18, 2) := by decide +kernel
theorem dX8_init_101 : decode cX8_init 101 = .ok (.iconst 5, 1) := by decide +kernel
theorem dX8_init_102 : decode cX8_init 102 = .ok (.iastore, 1) := by decide +kernel
theorem dX8_init_103 : decode cX8_init 103 = .ok (.aload_n 0, 1) := by decide +kernel
theorem dX8_init_104 : decode cX8_init 104 = .ok (.getfield 7, 3) := by decide +kernel
theorem dX8_init_107 : decode cX8_init 107 = .ok (.bipush 19, 2) := by decide +kernel
theorem dX8_init_109 : decode cX8_init 109 = .ok (.bipush 20, 2) := by decide +kernel
theorem dX8_init_111 : decode cX8_init 111 = .ok (.iastore, 1) := by decide +kernel
theorem dX8_init_112 : decode cX8_init 112 = .ok (.aload_n 0, 1) := by decide +kernel
theorem dX8_init_113 : decode cX8_init 113 = .ok (.getfield 7, 3) := by decide +kernel
theorem dX8_init_116 : decode cX8_init 116 = .ok (.bipush 20, 2) := by decide +kernel
theorem dX8_init_118 : decode cX8_init 118 = .ok (.bipush 60, 2) := by decide +kernel
theorem dX8_init_120 : decode cX8_init 120 = .ok (.iastore, 1) := by decide +kernel
theorem dX8_init_121 : decode cX8_init 121 = .ok (.aload_n 0, 1) := by decide +kernel
theorem dX8_init_122 : decode cX8_init 122 = .ok (.getfield 7, 3) := by decide +kernel
theorem dX8_init_125 : decode cX8_init 125 = .ok (.bipush 21, 2) := by decide +kernel
theorem dX8_init_127 : decode cX8_init 127 = .ok (.iconst 2, 1) := by decide +kernel
theorem dX8_init_128 : decode cX8_init 128 = .ok (.iastore, 1) := by decide +kernel
theorem dX8_init_129 : decode cX8_init 129 = .ok (.aload_n 0, 1) := by decide +kernel
theorem dX8_init_130 : decode cX8_init 130 = .ok (.getfield 7, 3) := by decide +kernel
theorem dX8_init_133 : decode cX8_init 133 = .ok (.bipush 22, 2) := by decide +kernel
theorem dX8_init_135 : decode cX8_init 135 = .ok (.bipush 10, 2) := by decide +kernel
theorem dX8_init_137 : decode cX8_init 137 = .ok (.iastore, 1) := by decide +kernel
theorem dX8_init_138 : decode cX8_init 138 = .ok (.iconst 0, 1) := by decide +kernel
theorem dX8_init_139 : decode cX8_init 139 = .ok (.istore_n 1, 1) := by decide +kernel
theorem dX8_init_140 : decode cX8_init 140 = .ok (.iload_n 1, 1) := by decide +kernel
theorem dX8_init_141 : decode cX8_init 141 = .ok (.bipush 64, 2) := by decide +kernel
theorem dX8_init_143 : decode cX8_init 143 = .ok (.if_icmp .ge 17, 3) := by decide +kernel
theorem dX8_init_146 : decode cX8_init 146 = .ok (.aload_n 0, 1) := by decide +kernel
theorem dX8_init_147 : decode cX8_init 147 = .ok (.iload_n 1, 1) := by decide +kernel
theorem dX8_init_148 : decode cX8_init 148 = .ok (.iconst 1, 1) := by decide +kernel
theorem dX8_init_149 : decode cX8_init 149 = .ok (.bipush 100, 2) := by decide +kernel
theorem dX8_init_151 : decode cX8_init 151 = .ok (.invokevirtual 34, 3) := by decide +kernel
theorem dX8_init_154 : decode cX8_init 154 = .ok (.iinc 1 1, 3) := by decide +kernel
theorem dX8_init_157 : decode cX8_init 157 = .ok (.goto (-17), 3) := by decide +kernel
theorem dX8_init_160 : decode cX8_init 160 = .ok (.return_, 1) := by decide +kernel
theorem dX8_thrown_0 : decode cX8_thrown 0 = .ok (.aload_n 0, 1) := by decide +kernel
theorem dX8_thrown_1 : decode cX8_thrown 1 = .ok (.getfield 38, 3) := by decide +kernel
theorem dX8_thrown_4 : decode cX8_thrown 4 = .ok (.ireturn, 1) := by decide +kernel
theorem dX8_fails_0 : decode cX8_fails 0 = .ok (.aload_n 0, 1) := by decide +kernel
theorem dX8_fails_1 : decode cX8_fails 1 = .ok (.iload_n 1, 1) := by decide +kernel
theorem dX8_fails_2 : decode cX8_fails 2 = .ok (.putfield 38, 3) := by decide +kernel
theorem dX8_fails_5 : decode cX8_fails 5 = .ok (.iconst 0, 1) := by decide +kernel
theorem dX8_fails_6 : decode cX8_fails 6 = .ok (.ireturn, 1) := by decide +kernel
theorem dX8_within_0 : decode cX8_within 0 = .ok (.iload_n 0, 1) := by decide +kernel
theorem dX8_within_1 : decode cX8_within 1 = .ok (.iload_n 1, 1) := by decide +kernel
theorem dX8_within_2 : decode cX8_within 2 = .ok (.if_icmp .lt 12, 3) := by decide +kernel
theorem dX8_within_5 : decode cX8_within 5 = .ok (.iload_n 0, 1) := by decide +kernel
theorem dX8_within_6 : decode cX8_within 6 = .ok (.iload_n 2, 1) := by decide +kernel
theorem dX8_within_7 : decode cX8_within 7 = .ok (.if_icmp .gt 7, 3) := by decide +kernel
theorem dX8_within_10 : decode cX8_within 10 = .ok (.iconst 1, 1) := by decide +kernel
theorem dX8_within_11 : decode cX8_within 11 = .ok (.goto 4, 3) := by decide +kernel
theorem dX8_within_14 : decode cX8_within 14 = .ok (.iconst 0, 1) := by decide +kernel
theorem dX8_within_15 : decode cX8_within 15 = .ok (.ireturn, 1) := by decide +kernel
theorem dX8_less_0 : decode cX8_less 0 = .ok (.iload_n 0, 1) := by decide +kernel
theorem dX8_less_1 : decode cX8_less 1 = .ok (.iload_n 1, 1) := by decide +kernel
theorem dX8_less_2 : decode cX8_less 2 = .ok (.if_icmp .ge 7, 3) := by decide +kernel
theorem dX8_less_5 : decode cX8_less 5 = .ok (.iload_n 0, 1) := by decide +kernel
theorem dX8_less_6 : decode cX8_less 6 = .ok (.goto 4, 3) := by decide +kernel
theorem dX8_less_9 : decode cX8_less 9 = .ok (.iload_n 1, 1) := by decide +kernel
theorem dX8_less_10 : decode cX8_less 10 = .ok (.ireturn, 1) := by decide +kernel
theorem dX8_notBelow_0 : decode cX8_notBelow 0 = .ok (.iload_n 0, 1) := by decide +kernel
theorem dX8_notBelow_1 : decode cX8_notBelow 1 = .ok (.ifCond .ge 7, 3) := by decide +kernel
theorem dX8_notBelow_4 : decode cX8_notBelow 4 = .ok (.iconst 0, 1) := by decide +kernel
theorem dX8_notBelow_5 : decode cX8_notBelow 5 = .ok (.goto 4, 3) := by decide +kernel
theorem dX8_notBelow_8 : decode cX8_notBelow 8 = .ok (.iload_n 0, 1) := by decide +kernel
theorem dX8_notBelow_9 : decode cX8_notBelow 9 = .ok (.ireturn, 1) := by decide +kernel
theorem dX8_isCore_0 : decode cX8_isCore 0 = .ok (.iload_n 0, 1) := by decide +kernel
theorem dX8_isCore_1 : decode cX8_isCore 1 = .ok (.iconst 0, 1) := by decide +kernel
theorem dX8_isCore_2 : decode cX8_isCore 2 = .ok (.bipush 63, 2) := by decide +kernel
theorem dX8_isCore_4 : decode cX8_isCore 4 = .ok (.invokestatic 42, 3) := by decide +kernel
theorem dX8_isCore_7 : decode cX8_isCore 7 = .ok (.ireturn, 1) := by decide +kernel
theorem dX8_isTenant_0 : decode cX8_isTenant 0 = .ok (.iload_n 1, 1) := by decide +kernel
theorem dX8_isTenant_1 : decode cX8_isTenant 1 = .ok (.iconst 0, 1) := by decide +kernel
theorem dX8_isTenant_2 : decode cX8_isTenant 2 = .ok (.aload_n 0, 1) := by decide +kernel
theorem dX8_isTenant_3 : decode cX8_isTenant 3 = .ok (.getfield 7, 3) := by decide +kernel
theorem dX8_isTenant_6 : decode cX8_isTenant 6 = .ok (.iconst 2, 1) := by decide +kernel
theorem dX8_isTenant_7 : decode cX8_isTenant 7 = .ok (.iaload, 1) := by decide +kernel
theorem dX8_isTenant_8 : decode cX8_isTenant 8 = .ok (.iconst 1, 1) := by decide +kernel
theorem dX8_isTenant_9 : decode cX8_isTenant 9 = .ok (.isub, 1) := by decide +kernel
theorem dX8_isTenant_10 : decode cX8_isTenant 10 = .ok (.invokestatic 42, 3) := by decide +kernel
theorem dX8_isTenant_13 : decode cX8_isTenant 13 = .ok (.ireturn, 1) := by decide +kernel
theorem dX8_isInsurer_0 : decode cX8_isInsurer 0 = .ok (.iload_n 1, 1) := by decide +kernel
theorem dX8_isInsurer_1 : decode cX8_isInsurer 1 = .ok (.iconst 0, 1) := by decide +kernel
theorem dX8_isInsurer_2 : decode cX8_isInsurer 2 = .ok (.aload_n 0, 1) := by decide +kernel
theorem dX8_isInsurer_3 : decode cX8_isInsurer 3 = .ok (.getfield 7, 3) := by decide +kernel
theorem dX8_isInsurer_6 : decode cX8_isInsurer 6 = .ok (.iconst 3, 1) := by decide +kernel
theorem dX8_isInsurer_7 : decode cX8_isInsurer 7 = .ok (.iaload, 1) := by decide +kernel
theorem dX8_isInsurer_8 : decode cX8_isInsurer 8 = .ok (.iconst 1, 1) := by decide +kernel
theorem dX8_isInsurer_9 : decode cX8_isInsurer 9 = .ok (.isub, 1) := by decide +kernel
theorem dX8_isInsurer_10 : decode cX8_isInsurer 10 = .ok (.invokestatic 42, 3) := by decide +kernel
theorem dX8_isInsurer_13 : decode cX8_isInsurer 13 = .ok (.ireturn, 1) := by decide +kernel
theorem dX8_of_0 : decode cX8_of 0 = .ok (.aload_n 0, 1) := by decide +kernel
theorem dX8_of_1 : decode cX8_of 1 = .ok (.getfield 7, 3) := by decide +kernel
theorem dX8_of_4 : decode cX8_of 4 = .ok (.bipush 59, 2) := by decide +kernel
theorem dX8_of_6 : decode cX8_of 6 = .ok (.bipush 9, 2) := by decide +kernel
theorem dX8_of_8 : decode cX8_of 8 = .ok (.iload_n 1, 1) := by decide +kernel
theorem dX8_of_9 : decode cX8_of 9 = .ok (.imul, 1) := by decide +kernel
theorem dX8_of_10 : decode cX8_of 10 = .ok (.iadd, 1) := by decide +kernel
theorem dX8_of_11 : decode cX8_of 11 = .ok (.iload_n 2, 1) := by decide +kernel
theorem dX8_of_12 : decode cX8_of 12 = .ok (.iadd, 1) := by decide +kernel
theorem dX8_of_13 : decode cX8_of 13 = .ok (.iaload, 1) := by decide +kernel
theorem dX8_of_14 : decode cX8_of 14 = .ok (.ireturn, 1) := by decide +kernel
theorem dX8_lay_0 : decode cX8_lay 0 = .ok (.aload_n 0, 1) := by decide +kernel
theorem dX8_lay_1 : decode cX8_lay 1 = .ok (.getfield 7, 3) := by decide +kernel
theorem dX8_lay_4 : decode cX8_lay 4 = .ok (.bipush 59, 2) := by decide +kernel
theorem dX8_lay_6 : decode cX8_lay 6 = .ok (.bipush 9, 2) := by decide +kernel
theorem dX8_lay_8 : decode cX8_lay 8 = .ok (.iload_n 1, 1) := by decide +kernel
theorem dX8_lay_9 : decode cX8_lay 9 = .ok (.imul, 1) := by decide +kernel
theorem dX8_lay_10 : decode cX8_lay 10 = .ok (.iadd, 1) := by decide +kernel
theorem dX8_lay_11 : decode cX8_lay 11 = .ok (.iload_n 2, 1) := by decide +kernel
theorem dX8_lay_12 : decode cX8_lay 12 = .ok (.iadd, 1) := by decide +kernel
theorem dX8_lay_13 : decode cX8_lay 13 = .ok (.iload_n 3, 1) := by decide +kernel
theorem dX8_lay_14 : decode cX8_lay 14 = .ok (.iastore, 1) := by decide +kernel
theorem dX8_lay_15 : decode cX8_lay 15 = .ok (.return_, 1) := by decide +kernel
theorem dX8_ofTenant_0 : decode cX8_ofTenant 0 = .ok (.aload_n 0, 1) := by decide +kernel
theorem dX8_ofTenant_1 : decode cX8_ofTenant 1 = .ok (.getfield 7, 3) := by decide +kernel
theorem dX8_ofTenant_4 : decode cX8_ofTenant 4 = .ok (.bipush 23, 2) := by decide +kernel
theorem dX8_ofTenant_6 : decode cX8_ofTenant 6 = .ok (.iconst 3, 1) := by decide +kernel
theorem dX8_ofTenant_7 : decode cX8_ofTenant 7 = .ok (.iload_n 1, 1) := by decide +kernel
theorem dX8_ofTenant_8 : decode cX8_ofTenant 8 = .ok (.imul, 1) := by decide +kernel
theorem dX8_ofTenant_9 : decode cX8_ofTenant 9 = .ok (.iadd, 1) := by decide +kernel
theorem dX8_ofTenant_10 : decode cX8_ofTenant 10 = .ok (.iload_n 2, 1) := by decide +kernel
theorem dX8_ofTenant_11 : decode cX8_ofTenant 11 = .ok (.iadd, 1) := by decide +kernel
theorem dX8_ofTenant_12 : decode cX8_ofTenant 12 = .ok (.iaload, 1) := by decide +kernel
theorem dX8_ofTenant_13 : decode cX8_ofTenant 13 = .ok (.ireturn, 1) := by decide +kernel
theorem dX8_ofInsurer_0 : decode cX8_ofInsurer 0 = .ok (.aload_n 0, 1) := by decide +kernel
theorem dX8_ofInsurer_1 : decode cX8_ofInsurer 1 = .ok (.getfield 7, 3) := by decide +kernel
theorem dX8_ofInsurer_4 : decode cX8_ofInsurer 4 = .ok (.bipush 41, 2) := by decide +kernel
theorem dX8_ofInsurer_6 : decode cX8_ofInsurer 6 = .ok (.bipush 6, 2) := by decide +kernel
theorem dX8_ofInsurer_8 : decode cX8_ofInsurer 8 = .ok (.iload_n 1, 1) := by decide +kernel
theorem dX8_ofInsurer_9 : decode cX8_ofInsurer 9 = .ok (.imul, 1) := by decide +kernel
theorem dX8_ofInsurer_10 : decode cX8_ofInsurer 10 = .ok (.iadd, 1) := by decide +kernel
theorem dX8_ofInsurer_11 : decode cX8_ofInsurer 11 = .ok (.iload_n 2, 1) := by decide +kernel
theorem dX8_ofInsurer_12 : decode cX8_ofInsurer 12 = .ok (.iadd, 1) := by decide +kernel
theorem dX8_ofInsurer_13 : decode cX8_ofInsurer 13 = .ok (.iaload, 1) := by decide +kernel
theorem dX8_ofInsurer_14 : decode cX8_ofInsurer 14 = .ok (.ireturn, 1) := by decide +kernel
theorem dX8_rule_0 : decode cX8_rule 0 = .ok (.aload_n 0, 1) := by decide +kernel
theorem dX8_rule_1 : decode cX8_rule 1 = .ok (.getfield 7, 3) := by decide +kernel
theorem dX8_rule_4 : decode cX8_rule 4 = .ok (.bipush 15, 2) := by decide +kernel
theorem dX8_rule_6 : decode cX8_rule 6 = .ok (.iload_n 1, 1) := by decide +kernel
theorem dX8_rule_7 : decode cX8_rule 7 = .ok (.iadd, 1) := by decide +kernel
theorem dX8_rule_8 : decode cX8_rule 8 = .ok (.iaload, 1) := by decide +kernel
theorem dX8_rule_9 : decode cX8_rule 9 = .ok (.ireturn, 1) := by decide +kernel
theorem dX8_save_0 : decode cX8_save 0 = .ok (.aload_n 0, 1) := by decide +kernel
theorem dX8_save_1 : decode cX8_save 1 = .ok (.getfield 46, 3) := by decide +kernel
theorem dX8_save_4 : decode cX8_save 4 = .ok (.bipush 6, 2) := by decide +kernel
theorem dX8_save_6 : decode cX8_save 6 = .ok (.if_icmp .ne 44, 3) := by decide +kernel
theorem dX8_save_9 : decode cX8_save 9 = .ok (.iconst 0, 1) := by decide +kernel
theorem dX8_save_10 : decode cX8_save 10 = .ok (.istore_n 1, 1) := by decide +kernel
theorem dX8_save_11 : decode cX8_save 11 = .ok (.iload_n 1, 1) := by decide +kernel
theorem dX8_save_12 : decode cX8_save 12 = .ok (.sipush 10975, 3) := by decide +kernel
theorem dX8_save_15 : decode cX8_save 15 = .ok (.if_icmp .ge 25, 3) := by decide +kernel
theorem dX8_save_18 : decode cX8_save 18 = .ok (.aload_n 0, 1) := by decide +kernel
theorem dX8_save_19 : decode cX8_save 19 = .ok (.getfield 16, 3) := by decide +kernel
theorem dX8_save_22 : decode cX8_save 22 = .ok (.iload_n 1, 1) := by decide +kernel
theorem dX8_save_23 : decode cX8_save 23 = .ok (.aload_n 0, 1) := by decide +kernel
theorem dX8_save_24 : decode cX8_save 24 = .ok (.getfield 16, 3) := by decide +kernel
theorem dX8_save_27 : decode cX8_save 27 = .ok (.sipush 2195, 3) := by decide +kernel
theorem dX8_save_30 : decode cX8_save 30 = .ok (.iload_n 1, 1) := by decide +kernel
theorem dX8_save_31 : decode cX8_save 31 = .ok (.iadd, 1) := by decide +kernel
theorem dX8_save_32 : decode cX8_save 32 = .ok (.iaload, 1) := by decide +kernel
theorem dX8_save_33 : decode cX8_save 33 = .ok (.iastore, 1) := by decide +kernel
theorem dX8_save_34 : decode cX8_save 34 = .ok (.iinc 1 1, 3) := by decide +kernel
theorem dX8_save_37 : decode cX8_save 37 = .ok (.goto (-26), 3) := by decide +kernel
theorem dX8_save_40 : decode cX8_save 40 = .ok (.aload_n 0, 1) := by decide +kernel
theorem dX8_save_41 : decode cX8_save 41 = .ok (.dup, 1) := by decide +kernel
theorem dX8_save_42 : decode cX8_save 42 = .ok (.getfield 46, 3) := by decide +kernel
theorem dX8_save_45 : decode cX8_save 45 = .ok (.iconst 1, 1) := by decide +kernel
theorem dX8_save_46 : decode cX8_save 46 = .ok (.isub, 1) := by decide +kernel
theorem dX8_save_47 : decode cX8_save 47 = .ok (.putfield 46, 3) := by decide +kernel
theorem dX8_save_50 : decode cX8_save 50 = .ok (.iconst 0, 1) := by decide +kernel
theorem dX8_save_51 : decode cX8_save 51 = .ok (.istore_n 1, 1) := by decide +kernel
theorem dX8_save_52 : decode cX8_save 52 = .ok (.iload_n 1, 1) := by decide +kernel
theorem dX8_save_53 : decode cX8_save 53 = .ok (.sipush 2195, 3) := by decide +kernel
theorem dX8_save_56 : decode cX8_save 56 = .ok (.if_icmp .ge 30, 3) := by decide +kernel
theorem dX8_save_59 : decode cX8_save 59 = .ok (.aload_n 0, 1) := by decide +kernel
theorem dX8_save_60 : decode cX8_save 60 = .ok (.getfield 16, 3) := by decide +kernel
theorem dX8_save_63 : decode cX8_save 63 = .ok (.sipush 2195, 3) := by decide +kernel
theorem dX8_save_66 : decode cX8_save 66 = .ok (.aload_n 0, 1) := by decide +kernel
theorem dX8_save_67 : decode cX8_save 67 = .ok (.getfield 46, 3) := by decide +kernel
theorem dX8_save_70 : decode cX8_save 70 = .ok (.imul, 1) := by decide +kernel
theorem dX8_save_71 : decode cX8_save 71 = .ok (.iload_n 1, 1) := by decide +kernel
theorem dX8_save_72 : decode cX8_save 72 = .ok (.iadd, 1) := by decide +kernel
theorem dX8_save_73 : decode cX8_save 73 = .ok (.aload_n 0, 1) := by decide +kernel
theorem dX8_save_74 : decode cX8_save 74 = .ok (.getfield 7, 3) := by decide +kernel
theorem dX8_save_77 : decode cX8_save 77 = .ok (.iload_n 1, 1) := by decide +kernel
theorem dX8_save_78 : decode cX8_save 78 = .ok (.iaload, 1) := by decide +kernel
theorem dX8_save_79 : decode cX8_save 79 = .ok (.iastore, 1) := by decide +kernel
theorem dX8_save_80 : decode cX8_save 80 = .ok (.iinc 1 1, 3) := by decide +kernel
theorem dX8_save_83 : decode cX8_save 83 = .ok (.goto (-31), 3) := by decide +kernel
theorem dX8_save_86 : decode cX8_save 86 = .ok (.aload_n 0, 1) := by decide +kernel
theorem dX8_save_87 : decode cX8_save 87 = .ok (.dup, 1) := by decide +kernel
theorem dX8_save_88 : decode cX8_save 88 = .ok (.getfield 46, 3) := by decide +kernel
theorem dX8_save_91 : decode cX8_save 91 = .ok (.iconst 1, 1) := by decide +kernel
theorem dX8_save_92 : decode cX8_save 92 = .ok (.iadd, 1) := by decide +kernel
theorem dX8_save_93 : decode cX8_save 93 = .ok (.putfield 46, 3) := by decide +kernel
theorem dX8_save_96 : decode cX8_save 96 = .ok (.return_, 1) := by decide +kernel
theorem dX8_keep_0 : decode cX8_keep 0 = .ok (.iconst 0, 1) := by decide +kernel
theorem dX8_keep_1 : decode cX8_keep 1 = .ok (.istore_n 1, 1) := by decide +kernel
theorem dX8_keep_2 : decode cX8_keep 2 = .ok (.iload_n 1, 1) := by decide +kernel
theorem dX8_keep_3 : decode cX8_keep 3 = .ok (.sipush 2195, 3) := by decide +kernel
theorem dX8_keep_6 : decode cX8_keep 6 = .ok (.if_icmp .ge 21, 3) := by decide +kernel
theorem dX8_keep_9 : decode cX8_keep 9 = .ok (.aload_n 0, 1) := by decide +kernel
theorem dX8_keep_10 : decode cX8_keep 10 = .ok (.getfield 13, 3) := by decide +kernel
theorem dX8_keep_13 : decode cX8_keep 13 = .ok (.iload_n 1, 1) := by decide +kernel
theorem dX8_keep_14 : decode cX8_keep 14 = .ok (.aload_n 0, 1) := by decide +kernel
theorem dX8_keep_15 : decode cX8_keep 15 = .ok (.getfield 7, 3) := by decide +kernel
theorem dX8_keep_18 : decode cX8_keep 18 = .ok (.iload_n 1, 1) := by decide +kernel
theorem dX8_keep_19 : decode cX8_keep 19 = .ok (.iaload, 1) := by decide +kernel
theorem dX8_keep_20 : decode cX8_keep 20 = .ok (.iastore, 1) := by decide +kernel
theorem dX8_keep_21 : decode cX8_keep 21 = .ok (.iinc 1 1, 3) := by decide +kernel
theorem dX8_keep_24 : decode cX8_keep 24 = .ok (.goto (-22), 3) := by decide +kernel
theorem dX8_keep_27 : decode cX8_keep 27 = .ok (.return_, 1) := by decide +kernel
theorem dX8_bring_0 : decode cX8_bring 0 = .ok (.iconst 0, 1) := by decide +kernel
theorem dX8_bring_1 : decode cX8_bring 1 = .ok (.istore_n 1, 1) := by decide +kernel
theorem dX8_bring_2 : decode cX8_bring 2 = .ok (.iload_n 1, 1) := by decide +kernel
theorem dX8_bring_3 : decode cX8_bring 3 = .ok (.sipush 2195, 3) := by decide +kernel
theorem dX8_bring_6 : decode cX8_bring 6 = .ok (.if_icmp .ge 21, 3) := by decide +kernel
theorem dX8_bring_9 : decode cX8_bring 9 = .ok (.aload_n 0, 1) := by decide +kernel
theorem dX8_bring_10 : decode cX8_bring 10 = .ok (.getfield 7, 3) := by decide +kernel
theorem dX8_bring_13 : decode cX8_bring 13 = .ok (.iload_n 1, 1) := by decide +kernel
theorem dX8_bring_14 : decode cX8_bring 14 = .ok (.aload_n 0, 1) := by decide +kernel
theorem dX8_bring_15 : decode cX8_bring 15 = .ok (.getfield 13, 3) := by decide +kernel
theorem dX8_bring_18 : decode cX8_bring 18 = .ok (.iload_n 1, 1) := by decide +kernel
theorem dX8_bring_19 : decode cX8_bring 19 = .ok (.iaload, 1) := by decide +kernel
theorem dX8_bring_20 : decode cX8_bring 20 = .ok (.iastore, 1) := by decide +kernel
theorem dX8_bring_21 : decode cX8_bring 21 = .ok (.iinc 1 1, 3) := by decide +kernel
theorem dX8_bring_24 : decode cX8_bring 24 = .ok (.goto (-22), 3) := by decide +kernel
theorem dX8_bring_27 : decode cX8_bring 27 = .ok (.return_, 1) := by decide +kernel
theorem dX8_addTenant_0 : decode cX8_addTenant 0 = .ok (.aload_n 0, 1) := by decide +kernel
theorem dX8_addTenant_1 : decode cX8_addTenant 1 = .ok (.iconst 0, 1) := by decide +kernel
theorem dX8_addTenant_2 : decode cX8_addTenant 2 = .ok (.putfield 38, 3) := by decide +kernel
theorem dX8_addTenant_5 : decode cX8_addTenant 5 = .ok (.iload_n 1, 1) := by decide +kernel
theorem dX8_addTenant_6 : decode cX8_addTenant 6 = .ok (.iconst 0, 1) := by decide +kernel
theorem dX8_addTenant_7 : decode cX8_addTenant 7 = .ok (.sipush 10000, 3) := by decide +kernel
theorem dX8_addTenant_10 : decode cX8_addTenant 10 = .ok (.invokestatic 42, 3) := by decide +kernel
theorem dX8_addTenant_13 : decode cX8_addTenant 13 = .ok (.ifCond .ne 9, 3) := by decide +kernel
theorem dX8_addTenant_16 : decode cX8_addTenant 16 = .ok (.aload_n 0, 1) := by decide +kernel
theorem dX8_addTenant_17 : decode cX8_addTenant 17 = .ok (.iconst 1, 1) := by decide +kernel
theorem dX8_addTenant_18 : decode cX8_addTenant 18 = .ok (.invokevirtual 49, 3) := by decide +kernel
theorem dX8_addTenant_21 : decode cX8_addTenant 21 = .ok (.ireturn, 1) := by decide +kernel
theorem dX8_addTenant_22 : decode cX8_addTenant 22 = .ok (.aload_n 0, 1) := by decide +kernel
theorem dX8_addTenant_23 : decode cX8_addTenant 23 = .ok (.getfield 7, 3) := by decide +kernel
theorem dX8_addTenant_26 : decode cX8_addTenant 26 = .ok (.iconst 2, 1) := by decide +kernel
theorem dX8_addTenant_27 : decode cX8_addTenant 27 = .ok (.iaload, 1) := by decide +kernel
theorem dX8_addTenant_28 : decode cX8_addTenant 28 = .ok (.bipush 6, 2) := by decide +kernel
theorem dX8_addTenant_30 : decode cX8_addTenant 30 = .ok (.if_icmp .ne 9, 3) := by decide +kernel
theorem dX8_addTenant_33 : decode cX8_addTenant 33 = .ok (.aload_n 0, 1) := by decide +kernel
theorem dX8_addTenant_34 : decode cX8_addTenant 34 = .ok (.iconst 2, 1) := by decide +kernel
theorem dX8_addTenant_35 : decode cX8_addTenant 35 = .ok (.invokevirtual 49, 3) := by decide +kernel
theorem dX8_addTenant_38 : decode cX8_addTenant 38 = .ok (.ireturn, 1) := by decide +kernel
theorem dX8_addTenant_39 : decode cX8_addTenant 39 = .ok (.aload_n 0, 1) := by decide +kernel
theorem dX8_addTenant_40 : decode cX8_addTenant 40 = .ok (.invokevirtual 53, 3) := by decide +kernel
theorem dX8_addTenant_43 : decode cX8_addTenant 43 = .ok (.aload_n 0, 1) := by decide +kernel
theorem dX8_addTenant_44 : decode cX8_addTenant 44 = .ok (.getfield 7, 3) := by decide +kernel
theorem dX8_addTenant_47 : decode cX8_addTenant 47 = .ok (.bipush 23, 2) := by decide +kernel
theorem dX8_addTenant_49 : decode cX8_addTenant 49 = .ok (.iconst 3, 1) := by decide +kernel
theorem dX8_addTenant_50 : decode cX8_addTenant 50 = .ok (.aload_n 0, 1) := by decide +kernel
theorem dX8_addTenant_51 : decode cX8_addTenant 51 = .ok (.getfield 7, 3) := by decide +kernel
theorem dX8_addTenant_54 : decode cX8_addTenant 54 = .ok (.iconst 2, 1) := by decide +kernel
theorem dX8_addTenant_55 : decode cX8_addTenant 55 = .ok (.iaload, 1) := by decide +kernel
theorem dX8_addTenant_56 : decode cX8_addTenant 56 = .ok (.imul, 1) := by decide +kernel
theorem dX8_addTenant_57 : decode cX8_addTenant 57 = .ok (.iadd, 1) := by decide +kernel
theorem dX8_addTenant_58 : decode cX8_addTenant 58 = .ok (.iload_n 1, 1) := by decide +kernel
theorem dX8_addTenant_59 : decode cX8_addTenant 59 = .ok (.iastore, 1) := by decide +kernel
theorem dX8_addTenant_60 : decode cX8_addTenant 60 = .ok (.aload_n 0, 1) := by decide +kernel
theorem dX8_addTenant_61 : decode cX8_addTenant 61 = .ok (.getfield 7, 3) := by decide +kernel
theorem dX8_addTenant_64 : decode cX8_addTenant 64 = .ok (.iconst 2, 1) := by decide +kernel
theorem dX8_addTenant_65 : decode cX8_addTenant 65 = .ok (.dup2, 1) := by decide +kernel
theorem dX8_addTenant_66 : decode cX8_addTenant 66 = .ok (.iaload, 1) := by decide +kernel
theorem dX8_addTenant_67 : decode cX8_addTenant 67 = .ok (.iconst 1, 1) := by decide +kernel
theorem dX8_addTenant_68 : decode cX8_addTenant 68 = .ok (.iadd, 1) := by decide +kernel
theorem dX8_addTenant_69 : decode cX8_addTenant 69 = .ok (.iastore, 1) := by decide +kernel
theorem dX8_addTenant_70 : decode cX8_addTenant 70 = .ok (.aload_n 0, 1) := by decide +kernel
theorem dX8_addTenant_71 : decode cX8_addTenant 71 = .ok (.getfield 7, 3) := by decide +kernel
theorem dX8_addTenant_74 : decode cX8_addTenant 74 = .ok (.iconst 2, 1) := by decide +kernel
theorem dX8_addTenant_75 : decode cX8_addTenant 75 = .ok (.iaload, 1) := by decide +kernel
theorem dX8_addTenant_76 : decode cX8_addTenant 76 = .ok (.iconst 1, 1) := by decide +kernel
theorem dX8_addTenant_77 : decode cX8_addTenant 77 = .ok (.isub, 1) := by decide +kernel
theorem dX8_addTenant_78 : decode cX8_addTenant 78 = .ok (.ireturn, 1) := by decide +kernel
theorem dX8_addInsurer_0 : decode cX8_addInsurer 0 = .ok (.aload_n 0, 1) := by decide +kernel
theorem dX8_addInsurer_1 : decode cX8_addInsurer 1 = .ok (.iconst 0, 1) := by decide +kernel
theorem dX8_addInsurer_2 : decode cX8_addInsurer 2 = .ok (.putfield 38, 3) := by decide +kernel
theorem dX8_addInsurer_5 : decode cX8_addInsurer 5 = .ok (.iload_n 1, 1) := by decide +kernel
theorem dX8_addInsurer_6 : decode cX8_addInsurer 6 = .ok (.iconst 0, 1) := by decide +kernel
theorem dX8_addInsurer_7 : decode cX8_addInsurer 7 = .ok (.sipush 10000, 3) := by decide +kernel
theorem dX8_addInsurer_10 : decode cX8_addInsurer 10 = .ok (.invokestatic 42, 3) := by decide +kernel
theorem dX8_addInsurer_13 : decode cX8_addInsurer 13 = .ok (.ifCond .eq 25, 3) := by decide +kernel
theorem dX8_addInsurer_16 : decode cX8_addInsurer 16 = .ok (.iload_n 2, 1) := by decide +kernel
theorem dX8_addInsurer_17 : decode cX8_addInsurer 17 = .ok (.iconst 1, 1) := by decide +kernel
theorem dX8_addInsurer_18 : decode cX8_addInsurer 18 = .ok (.sipush 200, 3) := by decide +kernel
theorem dX8_addInsurer_21 : decode cX8_addInsurer 21 = .ok (.invokestatic 42, 3) := by decide +kernel
theorem dX8_addInsurer_24 : decode cX8_addInsurer 24 = .ok (.ifCond .eq 14, 3) := by decide +kernel
theorem dX8_addInsurer_27 : decode cX8_addInsurer 27 = .ok (.iload_n 3, 1) := by decide +kernel
theorem dX8_addInsurer_28 : decode cX8_addInsurer 28 = .ok (.iconst 1, 1) := by decide +kernel
theorem dX8_addInsurer_29 : decode cX8_addInsurer 29 = .ok (.sipush 500, 3) := by decide +kernel
theorem dX8_addInsurer_32 : decode cX8_addInsurer 32 = .ok (.invokestatic 42, 3) := by decide +kernel
theorem dX8_addInsurer_35 : decode cX8_addInsurer 35 = .ok (.ifCond .ne 9, 3) := by decide +kernel
theorem dX8_addInsurer_38 : decode cX8_addInsurer 38 = .ok (.aload_n 0, 1) := by decide +kernel
theorem dX8_addInsurer_39 : decode cX8_addInsurer 39 = .ok (.iconst 1, 1) := by decide +kernel
theorem dX8_addInsurer_40 : decode cX8_addInsurer 40 = .ok (.invokevirtual 49, 3) := by decide +kernel
theorem dX8_addInsurer_43 : decode cX8_addInsurer 43 = .ok (.ireturn, 1) := by decide +kernel
theorem dX8_addInsurer_44 : decode cX8_addInsurer 44 = .ok (.aload_n 0, 1) := by decide +kernel
theorem dX8_addInsurer_45 : decode cX8_addInsurer 45 = .ok (.getfield 7, 3) := by decide +kernel
theorem dX8_addInsurer_48 : decode cX8_addInsurer 48 = .ok (.iconst 3, 1) := by decide +kernel
theorem dX8_addInsurer_49 : decode cX8_addInsurer 49 = .ok (.iaload, 1) := by decide +kernel
theorem dX8_addInsurer_50 : decode cX8_addInsurer 50 = .ok (.iconst 3, 1) := by decide +kernel
theorem dX8_addInsurer_51 : decode cX8_addInsurer 51 = .ok (.if_icmp .ne 9, 3) := by decide +kernel
theorem dX8_addInsurer_54 : decode cX8_addInsurer 54 = .ok (.aload_n 0, 1) := by decide +kernel
theorem dX8_addInsurer_55 : decode cX8_addInsurer 55 = .ok (.iconst 2, 1) := by decide +kernel
theorem dX8_addInsurer_56 : decode cX8_addInsurer 56 = .ok (.invokevirtual 49, 3) := by decide +kernel
theorem dX8_addInsurer_59 : decode cX8_addInsurer 59 = .ok (.ireturn, 1) := by decide +kernel
theorem dX8_addInsurer_60 : decode cX8_addInsurer 60 = .ok (.aload_n 0, 1) := by decide +kernel
theorem dX8_addInsurer_61 : decode cX8_addInsurer 61 = .ok (.invokevirtual 53, 3) := by decide +kernel
theorem dX8_addInsurer_64 : decode cX8_addInsurer 64 = .ok (.bipush 41, 2) := by decide +kernel
theorem dX8_addInsurer_66 : decode cX8_addInsurer 66 = .ok (.bipush 6, 2) := by decide +kernel
theorem dX8_addInsurer_68 : decode cX8_addInsurer 68 = .ok (.aload_n 0, 1) := by decide +kernel
theorem dX8_addInsurer_69 : decode cX8_addInsurer 69 = .ok (.getfield 7, 3) := by decide +kernel
theorem dX8_addInsurer_72 : decode cX8_addInsurer 72 = .ok (.iconst 3, 1) := by decide +kernel
theorem dX8_addInsurer_73 : decode cX8_addInsurer 73 = .ok (.iaload, 1) := by decide +kernel
theorem dX8_addInsurer_74 : decode cX8_addInsurer 74 = .ok (.imul, 1) := by decide +kernel
theorem dX8_addInsurer_75 : decode cX8_addInsurer 75 = .ok (.iadd, 1) := by decide +kernel
theorem dX8_addInsurer_76 : decode cX8_addInsurer 76 = .ok (.istore 4, 2) := by decide +kernel
theorem dX8_addInsurer_78 : decode cX8_addInsurer 78 = .ok (.aload_n 0, 1) := by decide +kernel
theorem dX8_addInsurer_79 : decode cX8_addInsurer 79 = .ok (.getfield 7, 3) := by decide +kernel
theorem dX8_addInsurer_82 : decode cX8_addInsurer 82 = .ok (.iload 4, 2) := by decide +kernel
theorem dX8_addInsurer_84 : decode cX8_addInsurer 84 = .ok (.iconst 0, 1) := by decide +kernel
theorem dX8_addInsurer_85 : decode cX8_addInsurer 85 = .ok (.iadd, 1) := by decide +kernel
theorem dX8_addInsurer_86 : decode cX8_addInsurer 86 = .ok (.iload_n 1, 1) := by decide +kernel
theorem dX8_addInsurer_87 : decode cX8_addInsurer 87 = .ok (.iastore, 1) := by decide +kernel
theorem dX8_addInsurer_88 : decode cX8_addInsurer 88 = .ok (.aload_n 0, 1) := by decide +kernel
theorem dX8_addInsurer_89 : decode cX8_addInsurer 89 = .ok (.getfield 7, 3) := by decide +kernel
theorem dX8_addInsurer_92 : decode cX8_addInsurer 92 = .ok (.iload 4, 2) := by decide +kernel
theorem dX8_addInsurer_94 : decode cX8_addInsurer 94 = .ok (.iconst 1, 1) := by decide +kernel
theorem dX8_addInsurer_95 : decode cX8_addInsurer 95 = .ok (.iadd, 1) := by decide +kernel
theorem dX8_addInsurer_96 : decode cX8_addInsurer 96 = .ok (.iload_n 2, 1) := by decide +kernel
theorem dX8_addInsurer_97 : decode cX8_addInsurer 97 = .ok (.iastore, 1) := by decide +kernel
theorem dX8_addInsurer_98 : decode cX8_addInsurer 98 = .ok (.aload_n 0, 1) := by decide +kernel
theorem dX8_addInsurer_99 : decode cX8_addInsurer 99 = .ok (.getfield 7, 3) := by decide +kernel
theorem dX8_addInsurer_102 : decode cX8_addInsurer 102 = .ok (.iload 4, 2) := by decide +kernel
theorem dX8_addInsurer_104 : decode cX8_addInsurer 104 = .ok (.iconst 2, 1) := by decide +kernel
theorem dX8_addInsurer_105 : decode cX8_addInsurer 105 = .ok (.iadd, 1) := by decide +kernel
theorem dX8_addInsurer_106 : decode cX8_addInsurer 106 = .ok (.iload_n 3, 1) := by decide +kernel
theorem dX8_addInsurer_107 : decode cX8_addInsurer 107 = .ok (.iastore, 1) := by decide +kernel
theorem dX8_addInsurer_108 : decode cX8_addInsurer 108 = .ok (.aload_n 0, 1) := by decide +kernel
theorem dX8_addInsurer_109 : decode cX8_addInsurer 109 = .ok (.getfield 7, 3) := by decide +kernel
theorem dX8_addInsurer_112 : decode cX8_addInsurer 112 = .ok (.iconst 3, 1) := by decide +kernel
theorem dX8_addInsurer_113 : decode cX8_addInsurer 113 = .ok (.dup2, 1) := by decide +kernel
theorem dX8_addInsurer_114 : decode cX8_addInsurer 114 = .ok (.iaload, 1) := by decide +kernel
theorem dX8_addInsurer_115 : decode cX8_addInsurer 115 = .ok (.iconst 1, 1) := by decide +kernel
theorem dX8_addInsurer_116 : decode cX8_addInsurer 116 = .ok (.iadd, 1) := by decide +kernel
theorem dX8_addInsurer_117 : decode cX8_addInsurer 117 = .ok (.iastore, 1) := by decide +kernel
theorem dX8_addInsurer_118 : decode cX8_addInsurer 118 = .ok (.aload_n 0, 1) := by decide +kernel
theorem dX8_addInsurer_119 : decode cX8_addInsurer 119 = .ok (.getfield 7, 3) := by decide +kernel
theorem dX8_addInsurer_122 : decode cX8_addInsurer 122 = .ok (.iconst 3, 1) := by decide +kernel
theorem dX8_addInsurer_123 : decode cX8_addInsurer 123 = .ok (.iaload, 1) := by decide +kernel
theorem dX8_addInsurer_124 : decode cX8_addInsurer 124 = .ok (.iconst 1, 1) := by decide +kernel
theorem dX8_addInsurer_125 : decode cX8_addInsurer 125 = .ok (.isub, 1) := by decide +kernel
theorem dX8_addInsurer_126 : decode cX8_addInsurer 126 = .ok (.ireturn, 1) := by decide +kernel
theorem dX8_mostOf_0 : decode cX8_mostOf 0 = .ok (.iload_n 0, 1) := by decide +kernel
theorem dX8_mostOf_1 : decode cX8_mostOf 1 = .ok (.tableswitch 56 0 7 #[47, 47, 47, 50, 56, 56, 53, 50], 47) := by decide +kernel
theorem dX8_mostOf_48 : decode cX8_mostOf 48 = .ok (.bipush 20, 2) := by decide +kernel
theorem dX8_mostOf_50 : decode cX8_mostOf 50 = .ok (.ireturn, 1) := by decide +kernel
theorem dX8_mostOf_51 : decode cX8_mostOf 51 = .ok (.bipush 50, 2) := by decide +kernel
theorem dX8_mostOf_53 : decode cX8_mostOf 53 = .ok (.ireturn, 1) := by decide +kernel
theorem dX8_mostOf_54 : decode cX8_mostOf 54 = .ok (.bipush 10, 2) := by decide +kernel
theorem dX8_mostOf_56 : decode cX8_mostOf 56 = .ok (.ireturn, 1) := by decide +kernel
theorem dX8_mostOf_57 : decode cX8_mostOf 57 = .ok (.bipush 100, 2) := by decide +kernel
theorem dX8_mostOf_59 : decode cX8_mostOf 59 = .ok (.ireturn, 1) := by decide +kernel
theorem dX8_set_0 : decode cX8_set 0 = .ok (.aload_n 0, 1) := by decide +kernel
theorem dX8_set_1 : decode cX8_set 1 = .ok (.iconst 0, 1) := by decide +kernel
theorem dX8_set_2 : decode cX8_set 2 = .ok (.putfield 38, 3) := by decide +kernel
theorem dX8_set_5 : decode cX8_set 5 = .ok (.iload_n 1, 1) := by decide +kernel
theorem dX8_set_6 : decode cX8_set 6 = .ok (.iconst 0, 1) := by decide +kernel
theorem dX8_set_7 : decode cX8_set 7 = .ok (.bipush 7, 2) := by decide +kernel
theorem dX8_set_9 : decode cX8_set 9 = .ok (.invokestatic 42, 3) := by decide +kernel
theorem dX8_set_12 : decode cX8_set 12 = .ok (.ifCond .ne 9, 3) := by decide +kernel
theorem dX8_set_15 : decode cX8_set 15 = .ok (.aload_n 0, 1) := by decide +kernel
theorem dX8_set_16 : decode cX8_set 16 = .ok (.iconst 1, 1) := by decide +kernel
theorem dX8_set_17 : decode cX8_set 17 = .ok (.invokevirtual 49, 3) := by decide +kernel
theorem dX8_set_20 : decode cX8_set 20 = .ok (.ireturn, 1) := by decide +kernel
theorem dX8_set_21 : decode cX8_set 21 = .ok (.iload_n 2, 1) := by decide +kernel
theorem dX8_set_22 : decode cX8_set 22 = .ok (.iconst 0, 1) := by decide +kernel
theorem dX8_set_23 : decode cX8_set 23 = .ok (.iload_n 1, 1) := by decide +kernel
theorem dX8_set_24 : decode cX8_set 24 = .ok (.invokestatic 56, 3) := by decide +kernel
theorem dX8_set_27 : decode cX8_set 27 = .ok (.invokestatic 42, 3) := by decide +kernel
theorem dX8_set_30 : decode cX8_set 30 = .ok (.ifCond .ne 9, 3) := by decide +kernel
theorem dX8_set_33 : decode cX8_set 33 = .ok (.aload_n 0, 1) := by decide +kernel
theorem dX8_set_34 : decode cX8_set 34 = .ok (.iconst 2, 1) := by decide +kernel
theorem dX8_set_35 : decode cX8_set 35 = .ok (.invokevirtual 49, 3) := by decide +kernel
theorem dX8_set_38 : decode cX8_set 38 = .ok (.ireturn, 1) := by decide +kernel
theorem dX8_set_39 : decode cX8_set 39 = .ok (.aload_n 0, 1) := by decide +kernel
theorem dX8_set_40 : decode cX8_set 40 = .ok (.invokevirtual 53, 3) := by decide +kernel
theorem dX8_set_43 : decode cX8_set 43 = .ok (.aload_n 0, 1) := by decide +kernel
theorem dX8_set_44 : decode cX8_set 44 = .ok (.iload_n 1, 1) := by decide +kernel
theorem dX8_set_45 : decode cX8_set 45 = .ok (.invokevirtual 59, 3) := by decide +kernel
theorem dX8_set_48 : decode cX8_set 48 = .ok (.istore_n 3, 1) := by decide +kernel
theorem dX8_set_49 : decode cX8_set 49 = .ok (.aload_n 0, 1) := by decide +kernel
theorem dX8_set_50 : decode cX8_set 50 = .ok (.getfield 7, 3) := by decide +kernel
theorem dX8_set_53 : decode cX8_set 53 = .ok (.bipush 15, 2) := by decide +kernel
theorem dX8_set_55 : decode cX8_set 55 = .ok (.iload_n 1, 1) := by decide +kernel
theorem dX8_set_56 : decode cX8_set 56 = .ok (.iadd, 1) := by decide +kernel
theorem dX8_set_57 : decode cX8_set 57 = .ok (.iload_n 2, 1) := by decide +kernel
theorem dX8_set_58 : decode cX8_set 58 = .ok (.iastore, 1) := by decide +kernel
theorem dX8_set_59 : decode cX8_set 59 = .ok (.iload_n 3, 1) := by decide +kernel
theorem dX8_set_60 : decode cX8_set 60 = .ok (.ireturn, 1) := by decide +kernel
theorem dX8_areTicks_0 : decode cX8_areTicks 0 = .ok (.iload_n 0, 1) := by decide +kernel
theorem dX8_areTicks_1 : decode cX8_areTicks 1 = .ok (.iconst 1, 1) := by decide +kernel
theorem dX8_areTicks_2 : decode cX8_areTicks 2 = .ok (.sipush 200, 3) := by decide +kernel
theorem dX8_areTicks_5 : decode cX8_areTicks 5 = .ok (.invokestatic 42, 3) := by decide +kernel
theorem dX8_areTicks_8 : decode cX8_areTicks 8 = .ok (.ireturn, 1) := by decide +kernel
theorem dX8_isLeased_0 : decode cX8_isLeased 0 = .ok (.aload_n 0, 1) := by decide +kernel
theorem dX8_isLeased_1 : decode cX8_isLeased 1 = .ok (.iload_n 1, 1) := by decide +kernel
theorem dX8_isLeased_2 : decode cX8_isLeased 2 = .ok (.iconst 2, 1) := by decide +kernel
theorem dX8_isLeased_3 : decode cX8_isLeased 3 = .ok (.invokevirtual 62, 3) := by decide +kernel
theorem dX8_isLeased_6 : decode cX8_isLeased 6 = .ok (.ifCond .le 7, 3) := by decide +kernel
theorem dX8_isLeased_9 : decode cX8_isLeased 9 = .ok (.iconst 1, 1) := by decide +kernel
theorem dX8_isLeased_10 : decode cX8_isLeased 10 = .ok (.goto 4, 3) := by decide +kernel
theorem dX8_isLeased_13 : decode cX8_isLeased 13 = .ok (.iconst 0, 1) := by decide +kernel
theorem dX8_isLeased_14 : decode cX8_isLeased 14 = .ok (.ireturn, 1) := by decide +kernel
theorem dX8_isOwed_0 : decode cX8_isOwed 0 = .ok (.aload_n 0, 1) := by decide +kernel
theorem dX8_isOwed_1 : decode cX8_isOwed 1 = .ok (.iload_n 1, 1) := by decide +kernel
theorem dX8_isOwed_2 : decode cX8_isOwed 2 = .ok (.bipush 6, 2) := by decide +kernel
theorem dX8_isOwed_4 : decode cX8_isOwed 4 = .ok (.invokevirtual 62, 3) := by decide +kernel
theorem dX8_isOwed_7 : decode cX8_isOwed 7 = .ok (.ifCond .le 7, 3) := by decide +kernel
theorem dX8_isOwed_10 : decode cX8_isOwed 10 = .ok (.iconst 1, 1) := by decide +kernel
theorem dX8_isOwed_11 : decode cX8_isOwed 11 = .ok (.goto 4, 3) := by decide +kernel
theorem dX8_isOwed_14 : decode cX8_isOwed 14 = .ok (.iconst 0, 1) := by decide +kernel
theorem dX8_isOwed_15 : decode cX8_isOwed 15 = .ok (.ireturn, 1) := by decide +kernel
theorem dX8_lease_0 : decode cX8_lease 0 = .ok (.aload_n 0, 1) := by decide +kernel
theorem dX8_lease_1 : decode cX8_lease 1 = .ok (.iconst 0, 1) := by decide +kernel
theorem dX8_lease_2 : decode cX8_lease 2 = .ok (.putfield 38, 3) := by decide +kernel
theorem dX8_lease_5 : decode cX8_lease 5 = .ok (.iload_n 1, 1) := by decide +kernel
theorem dX8_lease_6 : decode cX8_lease 6 = .ok (.invokestatic 66, 3) := by decide +kernel
theorem dX8_lease_9 : decode cX8_lease 9 = .ok (.ifCond .eq 11, 3) := by decide +kernel
theorem dX8_lease_12 : decode cX8_lease 12 = .ok (.aload_n 0, 1) := by decide +kernel
theorem dX8_lease_13 : decode cX8_lease 13 = .ok (.iload_n 2, 1) := by decide +kernel
theorem dX8_lease_14 : decode cX8_lease 14 = .ok (.invokevirtual 70, 3) := by decide +kernel
theorem dX8_lease_17 : decode cX8_lease 17 = .ok (.ifCond .ne 9, 3) := by decide +kernel
theorem dX8_lease_20 : decode cX8_lease 20 = .ok (.aload_n 0, 1) := by decide +kernel
theorem dX8_lease_21 : decode cX8_lease 21 = .ok (.iconst 1, 1) := by decide +kernel
theorem dX8_lease_22 : decode cX8_lease 22 = .ok (.invokevirtual 49, 3) := by decide +kernel
theorem dX8_lease_25 : decode cX8_lease 25 = .ok (.ireturn, 1) := by decide +kernel
theorem dX8_lease_26 : decode cX8_lease 26 = .ok (.iload_n 3, 1) := by decide +kernel
theorem dX8_lease_27 : decode cX8_lease 27 = .ok (.invokestatic 73, 3) := by decide +kernel
theorem dX8_lease_30 : decode cX8_lease 30 = .ok (.ifCond .ne 9, 3) := by decide +kernel
theorem dX8_lease_33 : decode cX8_lease 33 = .ok (.aload_n 0, 1) := by decide +kernel
theorem dX8_lease_34 : decode cX8_lease 34 = .ok (.iconst 2, 1) := by decide +kernel
theorem dX8_lease_35 : decode cX8_lease 35 = .ok (.invokevirtual 49, 3) := by decide +kernel
theorem dX8_lease_38 : decode cX8_lease 38 = .ok (.ireturn, 1) := by decide +kernel
theorem dX8_lease_39 : decode cX8_lease 39 = .ok (.iload_n 3, 1) := by decide +kernel
theorem dX8_lease_40 : decode cX8_lease 40 = .ok (.aload_n 0, 1) := by decide +kernel
theorem dX8_lease_41 : decode cX8_lease 41 = .ok (.iconst 0, 1) := by decide +kernel
theorem dX8_lease_42 : decode cX8_lease 42 = .ok (.invokevirtual 59, 3) := by decide +kernel
theorem dX8_lease_45 : decode cX8_lease 45 = .ok (.imul, 1) := by decide +kernel
theorem dX8_lease_46 : decode cX8_lease 46 = .ok (.istore 4, 2) := by decide +kernel
theorem dX8_lease_48 : decode cX8_lease 48 = .ok (.aload_n 0, 1) := by decide +kernel
theorem dX8_lease_49 : decode cX8_lease 49 = .ok (.iload_n 1, 1) := by decide +kernel
theorem dX8_lease_50 : decode cX8_lease 50 = .ok (.invokevirtual 76, 3) := by decide +kernel
theorem dX8_lease_53 : decode cX8_lease 53 = .ok (.ifCond .ne 14, 3) := by decide +kernel
theorem dX8_lease_56 : decode cX8_lease 56 = .ok (.aload_n 0, 1) := by decide +kernel
theorem dX8_lease_57 : decode cX8_lease 57 = .ok (.iload_n 2, 1) := by decide +kernel
theorem dX8_lease_58 : decode cX8_lease 58 = .ok (.iconst 0, 1) := by decide +kernel
theorem dX8_lease_59 : decode cX8_lease 59 = .ok (.invokevirtual 79, 3) := by decide +kernel
theorem dX8_lease_62 : decode cX8_lease 62 = .ok (.iload 4, 2) := by decide +kernel
theorem dX8_lease_64 : decode cX8_lease 64 = .ok (.if_icmp .ge 9, 3) := by decide +kernel
theorem dX8_lease_67 : decode cX8_lease 67 = .ok (.aload_n 0, 1) := by decide +kernel
theorem dX8_lease_68 : decode cX8_lease 68 = .ok (.iconst 3, 1) := by decide +kernel
theorem dX8_lease_69 : decode cX8_lease 69 = .ok (.invokevirtual 49, 3) := by decide +kernel
theorem dX8_lease_72 : decode cX8_lease 72 = .ok (.ireturn, 1) := by decide +kernel
theorem dX8_lease_73 : decode cX8_lease 73 = .ok (.aload_n 0, 1) := by decide +kernel
theorem dX8_lease_74 : decode cX8_lease 74 = .ok (.invokevirtual 53, 3) := by decide +kernel
theorem dX8_lease_77 : decode cX8_lease 77 = .ok (.aload_n 0, 1) := by decide +kernel
theorem dX8_lease_78 : decode cX8_lease 78 = .ok (.getfield 7, 3) := by decide +kernel
theorem dX8_lease_81 : decode cX8_lease 81 = .ok (.bipush 23, 2) := by decide +kernel
theorem dX8_lease_83 : decode cX8_lease 83 = .ok (.iconst 3, 1) := by decide +kernel
theorem dX8_lease_84 : decode cX8_lease 84 = .ok (.iload_n 2, 1) := by decide +kernel
theorem dX8_lease_85 : decode cX8_lease 85 = .ok (.imul, 1) := by decide +kernel
theorem dX8_lease_86 : decode cX8_lease 86 = .ok (.iadd, 1) := by decide +kernel
theorem dX8_lease_87 : decode cX8_lease 87 = .ok (.dup2, 1) := by decide +kernel
theorem dX8_lease_88 : decode cX8_lease 88 = .ok (.iaload, 1) := by decide +kernel
theorem dX8_lease_89 : decode cX8_lease 89 = .ok (.iload 4, 2) := by decide +kernel
theorem dX8_lease_91 : decode cX8_lease 91 = .ok (.isub, 1) := by decide +kernel
theorem dX8_lease_92 : decode cX8_lease 92 = .ok (.iastore, 1) := by decide +kernel
theorem dX8_lease_93 : decode cX8_lease 93 = .ok (.aload_n 0, 1) := by decide +kernel
theorem dX8_lease_94 : decode cX8_lease 94 = .ok (.getfield 7, 3) := by decide +kernel
theorem dX8_lease_97 : decode cX8_lease 97 = .ok (.bipush 12, 2) := by decide +kernel
theorem dX8_lease_99 : decode cX8_lease 99 = .ok (.dup2, 1) := by decide +kernel
theorem dX8_lease_100 : decode cX8_lease 100 = .ok (.iaload, 1) := by decide +kernel
theorem dX8_lease_101 : decode cX8_lease 101 = .ok (.iload 4, 2) := by decide +kernel
theorem dX8_lease_103 : decode cX8_lease 103 = .ok (.iadd, 1) := by decide +kernel
theorem dX8_lease_104 : decode cX8_lease 104 = .ok (.iastore, 1) := by decide +kernel
theorem dX8_lease_105 : decode cX8_lease 105 = .ok (.aload_n 0, 1) := by decide +kernel
theorem dX8_lease_106 : decode cX8_lease 106 = .ok (.iload_n 1, 1) := by decide +kernel
theorem dX8_lease_107 : decode cX8_lease 107 = .ok (.iconst 2, 1) := by decide +kernel
theorem dX8_lease_108 : decode cX8_lease 108 = .ok (.iload_n 2, 1) := by decide +kernel
theorem dX8_lease_109 : decode cX8_lease 109 = .ok (.iconst 1, 1) := by decide +kernel
theorem dX8_lease_110 : decode cX8_lease 110 = .ok (.iadd, 1) := by decide +kernel
theorem dX8_lease_111 : decode cX8_lease 111 = .ok (.invokevirtual 34, 3) := by decide +kernel
theorem dX8_lease_114 : decode cX8_lease 114 = .ok (.aload_n 0, 1) := by decide +kernel
theorem dX8_lease_115 : decode cX8_lease 115 = .ok (.iload_n 1, 1) := by decide +kernel
theorem dX8_lease_116 : decode cX8_lease 116 = .ok (.iconst 3, 1) := by decide +kernel
theorem dX8_lease_117 : decode cX8_lease 117 = .ok (.iload_n 3, 1) := by decide +kernel
theorem dX8_lease_118 : decode cX8_lease 118 = .ok (.invokevirtual 34, 3) := by decide +kernel
theorem dX8_lease_121 : decode cX8_lease 121 = .ok (.aload_n 0, 1) := by decide +kernel
theorem dX8_lease_122 : decode cX8_lease 122 = .ok (.iload_n 2, 1) := by decide +kernel
theorem dX8_lease_123 : decode cX8_lease 123 = .ok (.iconst 0, 1) := by decide +kernel
theorem dX8_lease_124 : decode cX8_lease 124 = .ok (.invokevirtual 79, 3) := by decide +kernel
theorem dX8_lease_127 : decode cX8_lease 127 = .ok (.ireturn, 1) := by decide +kernel
theorem dX8_premiumBy_0 : decode cX8_premiumBy 0 = .ok (.bipush 10, 2) := by decide +kernel
theorem dX8_premiumBy_2 : decode cX8_premiumBy 2 = .ok (.iload 4, 2) := by decide +kernel
theorem dX8_premiumBy_4 : decode cX8_premiumBy 4 = .ok (.iadd, 1) := by decide +kernel
theorem dX8_premiumBy_5 : decode cX8_premiumBy 5 = .ok (.bipush 100, 2) := by decide +kernel
theorem dX8_premiumBy_7 : decode cX8_premiumBy 7 = .ok (.iadd, 1) := by decide +kernel
theorem dX8_premiumBy_8 : decode cX8_premiumBy 8 = .ok (.aload_n 0, 1) := by decide +kernel
theorem dX8_premiumBy_9 : decode cX8_premiumBy 9 = .ok (.iload_n 1, 1) := by decide +kernel
theorem dX8_premiumBy_10 : decode cX8_premiumBy 10 = .ok (.iconst 1, 1) := by decide +kernel
theorem dX8_premiumBy_11 : decode cX8_premiumBy 11 = .ok (.invokevirtual 62, 3) := by decide +kernel
theorem dX8_premiumBy_14 : decode cX8_premiumBy 14 = .ok (.isub, 1) := by decide +kernel
theorem dX8_premiumBy_15 : decode cX8_premiumBy 15 = .ok (.iload_n 3, 1) := by decide +kernel
theorem dX8_premiumBy_16 : decode cX8_premiumBy 16 = .ok (.imul, 1) := by decide +kernel
theorem dX8_premiumBy_17 : decode cX8_premiumBy 17 = .ok (.aload_n 0, 1) := by decide +kernel
theorem dX8_premiumBy_18 : decode cX8_premiumBy 18 = .ok (.iload_n 2, 1) := by decide +kernel
theorem dX8_premiumBy_19 : decode cX8_premiumBy 19 = .ok (.iconst 1, 1) := by decide +kernel
theorem dX8_premiumBy_20 : decode cX8_premiumBy 20 = .ok (.invokevirtual 82, 3) := by decide +kernel
theorem dX8_premiumBy_23 : decode cX8_premiumBy 23 = .ok (.imul, 1) := by decide +kernel
theorem dX8_premiumBy_24 : decode cX8_premiumBy 24 = .ok (.sipush 1000, 3) := by decide +kernel
theorem dX8_premiumBy_27 : decode cX8_premiumBy 27 = .ok (.idiv, 1) := by decide +kernel
theorem dX8_premiumBy_28 : decode cX8_premiumBy 28 = .ok (.iconst 1, 1) := by decide +kernel
theorem dX8_premiumBy_29 : decode cX8_premiumBy 29 = .ok (.iadd, 1) := by decide +kernel
theorem dX8_premiumBy_30 : decode cX8_premiumBy 30 = .ok (.ireturn, 1) := by decide +kernel
theorem dX8_premiumNow_0 : decode cX8_premiumNow 0 = .ok (.aload_n 0, 1) := by decide +kernel
theorem dX8_premiumNow_1 : decode cX8_premiumNow 1 = .ok (.iload_n 1, 1) := by decide +kernel
theorem dX8_premiumNow_2 : decode cX8_premiumNow 2 = .ok (.iload_n 2, 1) := by decide +kernel
theorem dX8_premiumNow_3 : decode cX8_premiumNow 3 = .ok (.iload_n 3, 1) := by decide +kernel
theorem dX8_premiumNow_4 : decode cX8_premiumNow 4 = .ok (.aload_n 0, 1) := by decide +kernel
theorem dX8_premiumNow_5 : decode cX8_premiumNow 5 = .ok (.getfield 7, 3) := by decide +kernel
theorem dX8_premiumNow_8 : decode cX8_premiumNow 8 = .ok (.iconst 1, 1) := by decide +kernel
theorem dX8_premiumNow_9 : decode cX8_premiumNow 9 = .ok (.iaload, 1) := by decide +kernel
theorem dX8_premiumNow_10 : decode cX8_premiumNow 10 = .ok (.invokevirtual 85, 3) := by decide +kernel
theorem dX8_premiumNow_13 : decode cX8_premiumNow 13 = .ok (.ireturn, 1) := by decide +kernel
theorem dX8_pay_0 : decode cX8_pay 0 = .ok (.bipush 41, 2) := by decide +kernel
theorem dX8_pay_2 : decode cX8_pay 2 = .ok (.bipush 6, 2) := by decide +kernel
theorem dX8_pay_4 : decode cX8_pay 4 = .ok (.iload_n 1, 1) := by decide +kernel
theorem dX8_pay_5 : decode cX8_pay 5 = .ok (.imul, 1) := by decide +kernel
theorem dX8_pay_6 : decode cX8_pay 6 = .ok (.iadd, 1) := by decide +kernel
theorem dX8_pay_7 : decode cX8_pay 7 = .ok (.istore_n 2, 1) := by decide +kernel
theorem dX8_pay_8 : decode cX8_pay 8 = .ok (.sipush 635, 3) := by decide +kernel
theorem dX8_pay_11 : decode cX8_pay 11 = .ok (.sipush 520, 3) := by decide +kernel
theorem dX8_pay_14 : decode cX8_pay 14 = .ok (.iload_n 1, 1) := by decide +kernel
theorem dX8_pay_15 : decode cX8_pay 15 = .ok (.imul, 1) := by decide +kernel
theorem dX8_pay_16 : decode cX8_pay 16 = .ok (.iadd, 1) := by decide +kernel
theorem dX8_pay_17 : decode cX8_pay 17 = .ok (.istore_n 3, 1) := by decide +kernel
theorem dX8_pay_18 : decode cX8_pay 18 = .ok (.aload_n 0, 1) := by decide +kernel
theorem dX8_pay_19 : decode cX8_pay 19 = .ok (.getfield 7, 3) := by decide +kernel
theorem dX8_pay_22 : decode cX8_pay 22 = .ok (.iload_n 2, 1) := by decide +kernel
theorem dX8_pay_23 : decode cX8_pay 23 = .ok (.iconst 5, 1) := by decide +kernel
theorem dX8_pay_24 : decode cX8_pay 24 = .ok (.iadd, 1) := by decide +kernel
theorem dX8_pay_25 : decode cX8_pay 25 = .ok (.iaload, 1) := by decide +kernel
theorem dX8_pay_26 : decode cX8_pay 26 = .ok (.ifCond .le 166, 3) := by decide +kernel
theorem dX8_pay_29 : decode cX8_pay 29 = .ok (.aload_n 0, 1) := by decide +kernel
theorem dX8_pay_30 : decode cX8_pay 30 = .ok (.getfield 7, 3) := by decide +kernel
theorem dX8_pay_33 : decode cX8_pay 33 = .ok (.iload_n 2, 1) := by decide +kernel
theorem dX8_pay_34 : decode cX8_pay 34 = .ok (.iconst 0, 1) := by decide +kernel
theorem dX8_pay_35 : decode cX8_pay 35 = .ok (.iadd, 1) := by decide +kernel
theorem dX8_pay_36 : decode cX8_pay 36 = .ok (.iaload, 1) := by decide +kernel
theorem dX8_pay_37 : decode cX8_pay 37 = .ok (.aload_n 0, 1) := by decide +kernel
theorem dX8_pay_38 : decode cX8_pay 38 = .ok (.getfield 7, 3) := by decide +kernel
theorem dX8_pay_41 : decode cX8_pay 41 = .ok (.iload_n 2, 1) := by decide +kernel
theorem dX8_pay_42 : decode cX8_pay 42 = .ok (.iconst 2, 1) := by decide +kernel
theorem dX8_pay_43 : decode cX8_pay 43 = .ok (.iadd, 1) := by decide +kernel
theorem dX8_pay_44 : decode cX8_pay 44 = .ok (.iaload, 1) := by decide +kernel
theorem dX8_pay_45 : decode cX8_pay 45 = .ok (.if_icmp .lt 147, 3) := by decide +kernel
theorem dX8_pay_48 : decode cX8_pay 48 = .ok (.aload_n 0, 1) := by decide +kernel
theorem dX8_pay_49 : decode cX8_pay 49 = .ok (.getfield 7, 3) := by decide +kernel
theorem dX8_pay_52 : decode cX8_pay 52 = .ok (.iload_n 3, 1) := by decide +kernel
theorem dX8_pay_53 : decode cX8_pay 53 = .ok (.iaload, 1) := by decide +kernel
theorem dX8_pay_54 : decode cX8_pay 54 = .ok (.istore 4, 2) := by decide +kernel
theorem dX8_pay_56 : decode cX8_pay 56 = .ok (.aload_n 0, 1) := by decide +kernel
theorem dX8_pay_57 : decode cX8_pay 57 = .ok (.getfield 7, 3) := by decide +kernel
theorem dX8_pay_60 : decode cX8_pay 60 = .ok (.iload_n 2, 1) := by decide +kernel
theorem dX8_pay_61 : decode cX8_pay 61 = .ok (.iconst 0, 1) := by decide +kernel
theorem dX8_pay_62 : decode cX8_pay 62 = .ok (.iadd, 1) := by decide +kernel
theorem dX8_pay_63 : decode cX8_pay 63 = .ok (.dup2, 1) := by decide +kernel
theorem dX8_pay_64 : decode cX8_pay 64 = .ok (.iaload, 1) := by decide +kernel
theorem dX8_pay_65 : decode cX8_pay 65 = .ok (.aload_n 0, 1) := by decide +kernel
theorem dX8_pay_66 : decode cX8_pay 66 = .ok (.getfield 7, 3) := by decide +kernel
theorem dX8_pay_69 : decode cX8_pay 69 = .ok (.iload_n 2, 1) := by decide +kernel
theorem dX8_pay_70 : decode cX8_pay 70 = .ok (.iconst 2, 1) := by decide +kernel
theorem dX8_pay_71 : decode cX8_pay 71 = .ok (.iadd, 1) := by decide +kernel
theorem dX8_pay_72 : decode cX8_pay 72 = .ok (.iaload, 1) := by decide +kernel
theorem dX8_pay_73 : decode cX8_pay 73 = .ok (.isub, 1) := by decide +kernel
theorem dX8_pay_74 : decode cX8_pay 74 = .ok (.iastore, 1) := by decide +kernel
theorem dX8_pay_75 : decode cX8_pay 75 = .ok (.aload_n 0, 1) := by decide +kernel
theorem dX8_pay_76 : decode cX8_pay 76 = .ok (.getfield 7, 3) := by decide +kernel
theorem dX8_pay_79 : decode cX8_pay 79 = .ok (.iload_n 2, 1) := by decide +kernel
theorem dX8_pay_80 : decode cX8_pay 80 = .ok (.iconst 3, 1) := by decide +kernel
theorem dX8_pay_81 : decode cX8_pay 81 = .ok (.iadd, 1) := by decide +kernel
theorem dX8_pay_82 : decode cX8_pay 82 = .ok (.dup2, 1) := by decide +kernel
theorem dX8_pay_83 : decode cX8_pay 83 = .ok (.iaload, 1) := by decide +kernel
theorem dX8_pay_84 : decode cX8_pay 84 = .ok (.iconst 1, 1) := by decide +kernel
theorem dX8_pay_85 : decode cX8_pay 85 = .ok (.iadd, 1) := by decide +kernel
theorem dX8_pay_86 : decode cX8_pay 86 = .ok (.iastore, 1) := by decide +kernel
theorem dX8_pay_87 : decode cX8_pay 87 = .ok (.aload_n 0, 1) := by decide +kernel
theorem dX8_pay_88 : decode cX8_pay 88 = .ok (.getfield 7, 3) := by decide +kernel
theorem dX8_pay_91 : decode cX8_pay 91 = .ok (.iload_n 2, 1) := by decide +kernel
theorem dX8_pay_92 : decode cX8_pay 92 = .ok (.iconst 5, 1) := by decide +kernel
theorem dX8_pay_93 : decode cX8_pay 93 = .ok (.iadd, 1) := by decide +kernel
theorem dX8_pay_94 : decode cX8_pay 94 = .ok (.dup2, 1) := by decide +kernel
theorem dX8_pay_95 : decode cX8_pay 95 = .ok (.iaload, 1) := by decide +kernel
theorem dX8_pay_96 : decode cX8_pay 96 = .ok (.iconst 1, 1) := by decide +kernel
theorem dX8_pay_97 : decode cX8_pay 97 = .ok (.isub, 1) := by decide +kernel
theorem dX8_pay_98 : decode cX8_pay 98 = .ok (.iastore, 1) := by decide +kernel
theorem dX8_pay_99 : decode cX8_pay 99 = .ok (.aload_n 0, 1) := by decide +kernel
theorem dX8_pay_100 : decode cX8_pay 100 = .ok (.getfield 7, 3) := by decide +kernel
theorem dX8_pay_103 : decode cX8_pay 103 = .ok (.bipush 23, 2) := by decide +kernel
theorem dX8_pay_105 : decode cX8_pay 105 = .ok (.iconst 3, 1) := by decide +kernel
theorem dX8_pay_106 : decode cX8_pay 106 = .ok (.iload 4, 2) := by decide +kernel
theorem dX8_pay_108 : decode cX8_pay 108 = .ok (.imul, 1) := by decide +kernel
theorem dX8_pay_109 : decode cX8_pay 109 = .ok (.iadd, 1) := by decide +kernel
theorem dX8_pay_110 : decode cX8_pay 110 = .ok (.dup2, 1) := by decide +kernel
theorem dX8_pay_111 : decode cX8_pay 111 = .ok (.iaload, 1) := by decide +kernel
theorem dX8_pay_112 : decode cX8_pay 112 = .ok (.aload_n 0, 1) := by decide +kernel
theorem dX8_pay_113 : decode cX8_pay 113 = .ok (.getfield 7, 3) := by decide +kernel
theorem dX8_pay_116 : decode cX8_pay 116 = .ok (.iload_n 2, 1) := by decide +kernel
theorem dX8_pay_117 : decode cX8_pay 117 = .ok (.iconst 2, 1) := by decide +kernel
theorem dX8_pay_118 : decode cX8_pay 118 = .ok (.iadd, 1) := by decide +kernel
theorem dX8_pay_119 : decode cX8_pay 119 = .ok (.iaload, 1) := by decide +kernel
theorem dX8_pay_120 : decode cX8_pay 120 = .ok (.iadd, 1) := by decide +kernel
theorem dX8_pay_121 : decode cX8_pay 121 = .ok (.iastore, 1) := by decide +kernel
theorem dX8_pay_122 : decode cX8_pay 122 = .ok (.aload_n 0, 1) := by decide +kernel
theorem dX8_pay_123 : decode cX8_pay 123 = .ok (.getfield 7, 3) := by decide +kernel
theorem dX8_pay_126 : decode cX8_pay 126 = .ok (.bipush 23, 2) := by decide +kernel
theorem dX8_pay_128 : decode cX8_pay 128 = .ok (.iconst 3, 1) := by decide +kernel
theorem dX8_pay_129 : decode cX8_pay 129 = .ok (.iload 4, 2) := by decide +kernel
theorem dX8_pay_131 : decode cX8_pay 131 = .ok (.imul, 1) := by decide +kernel
theorem dX8_pay_132 : decode cX8_pay 132 = .ok (.iadd, 1) := by decide +kernel
theorem dX8_pay_133 : decode cX8_pay 133 = .ok (.iconst 2, 1) := by decide +kernel
theorem dX8_pay_134 : decode cX8_pay 134 = .ok (.iadd, 1) := by decide +kernel
theorem dX8_pay_135 : decode cX8_pay 135 = .ok (.dup2, 1) := by decide +kernel
theorem dX8_pay_136 : decode cX8_pay 136 = .ok (.iaload, 1) := by decide +kernel
theorem dX8_pay_137 : decode cX8_pay 137 = .ok (.aload_n 0, 1) := by decide +kernel
theorem dX8_pay_138 : decode cX8_pay 138 = .ok (.getfield 7, 3) := by decide +kernel
theorem dX8_pay_141 : decode cX8_pay 141 = .ok (.iload_n 2, 1) := by decide +kernel
theorem dX8_pay_142 : decode cX8_pay 142 = .ok (.iconst 2, 1) := by decide +kernel
theorem dX8_pay_143 : decode cX8_pay 143 = .ok (.iadd, 1) := by decide +kernel
theorem dX8_pay_144 : decode cX8_pay 144 = .ok (.iaload, 1) := by decide +kernel
theorem dX8_pay_145 : decode cX8_pay 145 = .ok (.iadd, 1) := by decide +kernel
theorem dX8_pay_146 : decode cX8_pay 146 = .ok (.iastore, 1) := by decide +kernel
theorem dX8_pay_147 : decode cX8_pay 147 = .ok (.iconst 0, 1) := by decide +kernel
theorem dX8_pay_148 : decode cX8_pay 148 = .ok (.istore 5, 2) := by decide +kernel
theorem dX8_pay_150 : decode cX8_pay 150 = .ok (.iload 5, 2) := by decide +kernel
theorem dX8_pay_152 : decode cX8_pay 152 = .ok (.aload_n 0, 1) := by decide +kernel
theorem dX8_pay_153 : decode cX8_pay 153 = .ok (.getfield 7, 3) := by decide +kernel
theorem dX8_pay_156 : decode cX8_pay 156 = .ok (.iload_n 2, 1) := by decide +kernel
theorem dX8_pay_157 : decode cX8_pay 157 = .ok (.iconst 5, 1) := by decide +kernel
theorem dX8_pay_158 : decode cX8_pay 158 = .ok (.iadd, 1) := by decide +kernel
theorem dX8_pay_159 : decode cX8_pay 159 = .ok (.iaload, 1) := by decide +kernel
theorem dX8_pay_160 : decode cX8_pay 160 = .ok (.if_icmp .ge 29, 3) := by decide +kernel
theorem dX8_pay_163 : decode cX8_pay 163 = .ok (.aload_n 0, 1) := by decide +kernel
theorem dX8_pay_164 : decode cX8_pay 164 = .ok (.getfield 7, 3) := by decide +kernel
theorem dX8_pay_167 : decode cX8_pay 167 = .ok (.iload_n 3, 1) := by decide +kernel
theorem dX8_pay_168 : decode cX8_pay 168 = .ok (.iload 5, 2) := by decide +kernel
theorem dX8_pay_170 : decode cX8_pay 170 = .ok (.iadd, 1) := by decide +kernel
theorem dX8_pay_171 : decode cX8_pay 171 = .ok (.aload_n 0, 1) := by decide +kernel
theorem dX8_pay_172 : decode cX8_pay 172 = .ok (.getfield 7, 3) := by decide +kernel
theorem dX8_pay_175 : decode cX8_pay 175 = .ok (.iload_n 3, 1) := by decide +kernel
theorem dX8_pay_176 : decode cX8_pay 176 = .ok (.iload 5, 2) := by decide +kernel
theorem dX8_pay_178 : decode cX8_pay 178 = .ok (.iadd, 1) := by decide +kernel
theorem dX8_pay_179 : decode cX8_pay 179 = .ok (.iconst 1, 1) := by decide +kernel
theorem dX8_pay_180 : decode cX8_pay 180 = .ok (.iadd, 1) := by decide +kernel
theorem dX8_pay_181 : decode cX8_pay 181 = .ok (.iaload, 1) := by decide +kernel
theorem dX8_pay_182 : decode cX8_pay 182 = .ok (.iastore, 1) := by decide +kernel
theorem dX8_pay_183 : decode cX8_pay 183 = .ok (.iinc 5 1, 3) := by decide +kernel
theorem dX8_pay_186 : decode cX8_pay 186 = .ok (.goto (-36), 3) := by decide +kernel
theorem dX8_pay_189 : decode cX8_pay 189 = .ok (.goto (-171), 3) := by decide +kernel
theorem dX8_pay_192 : decode cX8_pay 192 = .ok (.return_, 1) := by decide +kernel
theorem dX8_insure_0 : decode cX8_insure 0 = .ok (.aload_n 0, 1) := by decide +kernel
theorem dX8_insure_1 : decode cX8_insure 1 = .ok (.iconst 0, 1) := by decide +kernel
theorem dX8_insure_2 : decode cX8_insure 2 = .ok (.putfield 38, 3) := by decide +kernel
theorem dX8_insure_5 : decode cX8_insure 5 = .ok (.iload_n 1, 1) := by decide +kernel
theorem dX8_insure_6 : decode cX8_insure 6 = .ok (.invokestatic 66, 3) := by decide +kernel
theorem dX8_insure_9 : decode cX8_insure 9 = .ok (.ifCond .eq 11, 3) := by decide +kernel
theorem dX8_insure_12 : decode cX8_insure 12 = .ok (.aload_n 0, 1) := by decide +kernel
theorem dX8_insure_13 : decode cX8_insure 13 = .ok (.iload_n 2, 1) := by decide +kernel
theorem dX8_insure_14 : decode cX8_insure 14 = .ok (.invokevirtual 89, 3) := by decide +kernel
theorem dX8_insure_17 : decode cX8_insure 17 = .ok (.ifCond .ne 9, 3) := by decide +kernel
theorem dX8_insure_20 : decode cX8_insure 20 = .ok (.aload_n 0, 1) := by decide +kernel
theorem dX8_insure_21 : decode cX8_insure 21 = .ok (.iconst 1, 1) := by decide +kernel
theorem dX8_insure_22 : decode cX8_insure 22 = .ok (.invokevirtual 49, 3) := by decide +kernel
theorem dX8_insure_25 : decode cX8_insure 25 = .ok (.ireturn, 1) := by decide +kernel
theorem dX8_insure_26 : decode cX8_insure 26 = .ok (.iload_n 3, 1) := by decide +kernel
theorem dX8_insure_27 : decode cX8_insure 27 = .ok (.invokestatic 73, 3) := by decide +kernel
theorem dX8_insure_30 : decode cX8_insure 30 = .ok (.ifCond .ne 9, 3) := by decide +kernel
theorem dX8_insure_33 : decode cX8_insure 33 = .ok (.aload_n 0, 1) := by decide +kernel
theorem dX8_insure_34 : decode cX8_insure 34 = .ok (.iconst 2, 1) := by decide +kernel
theorem dX8_insure_35 : decode cX8_insure 35 = .ok (.invokevirtual 49, 3) := by decide +kernel
theorem dX8_insure_38 : decode cX8_insure 38 = .ok (.ireturn, 1) := by decide +kernel
theorem dX8_insure_39 : decode cX8_insure 39 = .ok (.aload_n 0, 1) := by decide +kernel
theorem dX8_insure_40 : decode cX8_insure 40 = .ok (.iload_n 1, 1) := by decide +kernel
theorem dX8_insure_41 : decode cX8_insure 41 = .ok (.iload_n 2, 1) := by decide +kernel
theorem dX8_insure_42 : decode cX8_insure 42 = .ok (.iload_n 3, 1) := by decide +kernel
theorem dX8_insure_43 : decode cX8_insure 43 = .ok (.invokevirtual 92, 3) := by decide +kernel
theorem dX8_insure_46 : decode cX8_insure 46 = .ok (.istore 4, 2) := by decide +kernel
theorem dX8_insure_48 : decode cX8_insure 48 = .ok (.aload_n 0, 1) := by decide +kernel
theorem dX8_insure_49 : decode cX8_insure 49 = .ok (.iload_n 1, 1) := by decide +kernel
end
section
theorem dX8_insure_50 : decode cX8_insure 50 = .ok (.invokevirtual 76, 3) := by decide +kernel
theorem dX8_insure_53 : decode cX8_insure 53 = .ok (.ifCond .eq 26, 3) := by decide +kernel
theorem dX8_insure_56 : decode cX8_insure 56 = .ok (.aload_n 0, 1) := by decide +kernel
theorem dX8_insure_57 : decode cX8_insure 57 = .ok (.iload_n 1, 1) := by decide +kernel
theorem dX8_insure_58 : decode cX8_insure 58 = .ok (.iconst 4, 1) := by decide +kernel
theorem dX8_insure_59 : decode cX8_insure 59 = .ok (.invokevirtual 62, 3) := by decide +kernel
theorem dX8_insure_62 : decode cX8_insure 62 = .ok (.ifCond .ne 17, 3) := by decide +kernel
theorem dX8_insure_65 : decode cX8_insure 65 = .ok (.aload_n 0, 1) := by decide +kernel
theorem dX8_insure_66 : decode cX8_insure 66 = .ok (.iload_n 1, 1) := by decide +kernel
theorem dX8_insure_67 : decode cX8_insure 67 = .ok (.iconst 3, 1) := by decide +kernel
theorem dX8_insure_68 : decode cX8_insure 68 = .ok (.invokevirtual 62, 3) := by decide +kernel
theorem dX8_insure_71 : decode cX8_insure 71 = .ok (.iload_n 3, 1) := by decide +kernel
theorem dX8_insure_72 : decode cX8_insure 72 = .ok (.if_icmp .lt 7, 3) := by decide +kernel
theorem dX8_insure_75 : decode cX8_insure 75 = .ok (.iconst 1, 1) := by decide +kernel
theorem dX8_insure_76 : decode cX8_insure 76 = .ok (.goto 4, 3) := by decide +kernel
theorem dX8_insure_79 : decode cX8_insure 79 = .ok (.iconst 0, 1) := by decide +kernel
theorem dX8_insure_80 : decode cX8_insure 80 = .ok (.istore 5, 2) := by decide +kernel
theorem dX8_insure_82 : decode cX8_insure 82 = .ok (.iload 5, 2) := by decide +kernel
theorem dX8_insure_84 : decode cX8_insure 84 = .ok (.ifCond .eq 21, 3) := by decide +kernel
theorem dX8_insure_87 : decode cX8_insure 87 = .ok (.aload_n 0, 1) := by decide +kernel
theorem dX8_insure_88 : decode cX8_insure 88 = .ok (.aload_n 0, 1) := by decide +kernel
theorem dX8_insure_89 : decode cX8_insure 89 = .ok (.iload_n 1, 1) := by decide +kernel
theorem dX8_insure_90 : decode cX8_insure 90 = .ok (.iconst 2, 1) := by decide +kernel
theorem dX8_insure_91 : decode cX8_insure 91 = .ok (.invokevirtual 62, 3) := by decide +kernel
theorem dX8_insure_94 : decode cX8_insure 94 = .ok (.iconst 1, 1) := by decide +kernel
theorem dX8_insure_95 : decode cX8_insure 95 = .ok (.isub, 1) := by decide +kernel
theorem dX8_insure_96 : decode cX8_insure 96 = .ok (.iconst 0, 1) := by decide +kernel
theorem dX8_insure_97 : decode cX8_insure 97 = .ok (.invokevirtual 79, 3) := by decide +kernel
theorem dX8_insure_100 : decode cX8_insure 100 = .ok (.iload 4, 2) := by decide +kernel
theorem dX8_insure_102 : decode cX8_insure 102 = .ok (.if_icmp .ge 9, 3) := by decide +kernel
theorem dX8_insure_105 : decode cX8_insure 105 = .ok (.aload_n 0, 1) := by decide +kernel
theorem dX8_insure_106 : decode cX8_insure 106 = .ok (.iconst 3, 1) := by decide +kernel
theorem dX8_insure_107 : decode cX8_insure 107 = .ok (.invokevirtual 49, 3) := by decide +kernel
theorem dX8_insure_110 : decode cX8_insure 110 = .ok (.ireturn, 1) := by decide +kernel
theorem dX8_insure_111 : decode cX8_insure 111 = .ok (.aload_n 0, 1) := by decide +kernel
theorem dX8_insure_112 : decode cX8_insure 112 = .ok (.invokevirtual 53, 3) := by decide +kernel
theorem dX8_insure_115 : decode cX8_insure 115 = .ok (.aload_n 0, 1) := by decide +kernel
theorem dX8_insure_116 : decode cX8_insure 116 = .ok (.getfield 7, 3) := by decide +kernel
theorem dX8_insure_119 : decode cX8_insure 119 = .ok (.bipush 23, 2) := by decide +kernel
theorem dX8_insure_121 : decode cX8_insure 121 = .ok (.iconst 3, 1) := by decide +kernel
theorem dX8_insure_122 : decode cX8_insure 122 = .ok (.aload_n 0, 1) := by decide +kernel
theorem dX8_insure_123 : decode cX8_insure 123 = .ok (.iload_n 1, 1) := by decide +kernel
theorem dX8_insure_124 : decode cX8_insure 124 = .ok (.iconst 2, 1) := by decide +kernel
theorem dX8_insure_125 : decode cX8_insure 125 = .ok (.invokevirtual 62, 3) := by decide +kernel
theorem dX8_insure_128 : decode cX8_insure 128 = .ok (.iconst 1, 1) := by decide +kernel
theorem dX8_insure_129 : decode cX8_insure 129 = .ok (.isub, 1) := by decide +kernel
theorem dX8_insure_130 : decode cX8_insure 130 = .ok (.imul, 1) := by decide +kernel
theorem dX8_insure_131 : decode cX8_insure 131 = .ok (.iadd, 1) := by decide +kernel
theorem dX8_insure_132 : decode cX8_insure 132 = .ok (.dup2, 1) := by decide +kernel
theorem dX8_insure_133 : decode cX8_insure 133 = .ok (.iaload, 1) := by decide +kernel
theorem dX8_insure_134 : decode cX8_insure 134 = .ok (.iload 4, 2) := by decide +kernel
theorem dX8_insure_136 : decode cX8_insure 136 = .ok (.isub, 1) := by decide +kernel
theorem dX8_insure_137 : decode cX8_insure 137 = .ok (.iastore, 1) := by decide +kernel
theorem dX8_insure_138 : decode cX8_insure 138 = .ok (.aload_n 0, 1) := by decide +kernel
theorem dX8_insure_139 : decode cX8_insure 139 = .ok (.getfield 7, 3) := by decide +kernel
theorem dX8_insure_142 : decode cX8_insure 142 = .ok (.bipush 41, 2) := by decide +kernel
theorem dX8_insure_144 : decode cX8_insure 144 = .ok (.bipush 6, 2) := by decide +kernel
theorem dX8_insure_146 : decode cX8_insure 146 = .ok (.iload_n 2, 1) := by decide +kernel
theorem dX8_insure_147 : decode cX8_insure 147 = .ok (.imul, 1) := by decide +kernel
theorem dX8_insure_148 : decode cX8_insure 148 = .ok (.iadd, 1) := by decide +kernel
theorem dX8_insure_149 : decode cX8_insure 149 = .ok (.iconst 0, 1) := by decide +kernel
theorem dX8_insure_150 : decode cX8_insure 150 = .ok (.iadd, 1) := by decide +kernel
theorem dX8_insure_151 : decode cX8_insure 151 = .ok (.dup2, 1) := by decide +kernel
theorem dX8_insure_152 : decode cX8_insure 152 = .ok (.iaload, 1) := by decide +kernel
theorem dX8_insure_153 : decode cX8_insure 153 = .ok (.iload 4, 2) := by decide +kernel
theorem dX8_insure_155 : decode cX8_insure 155 = .ok (.iadd, 1) := by decide +kernel
theorem dX8_insure_156 : decode cX8_insure 156 = .ok (.iastore, 1) := by decide +kernel
theorem dX8_insure_157 : decode cX8_insure 157 = .ok (.aload_n 0, 1) := by decide +kernel
theorem dX8_insure_158 : decode cX8_insure 158 = .ok (.getfield 7, 3) := by decide +kernel
theorem dX8_insure_161 : decode cX8_insure 161 = .ok (.bipush 41, 2) := by decide +kernel
theorem dX8_insure_163 : decode cX8_insure 163 = .ok (.bipush 6, 2) := by decide +kernel
theorem dX8_insure_165 : decode cX8_insure 165 = .ok (.iload_n 2, 1) := by decide +kernel
theorem dX8_insure_166 : decode cX8_insure 166 = .ok (.imul, 1) := by decide +kernel
theorem dX8_insure_167 : decode cX8_insure 167 = .ok (.iadd, 1) := by decide +kernel
theorem dX8_insure_168 : decode cX8_insure 168 = .ok (.iconst 4, 1) := by decide +kernel
theorem dX8_insure_169 : decode cX8_insure 169 = .ok (.iadd, 1) := by decide +kernel
theorem dX8_insure_170 : decode cX8_insure 170 = .ok (.dup2, 1) := by decide +kernel
theorem dX8_insure_171 : decode cX8_insure 171 = .ok (.iaload, 1) := by decide +kernel
theorem dX8_insure_172 : decode cX8_insure 172 = .ok (.iload 4, 2) := by decide +kernel
theorem dX8_insure_174 : decode cX8_insure 174 = .ok (.iadd, 1) := by decide +kernel
theorem dX8_insure_175 : decode cX8_insure 175 = .ok (.iastore, 1) := by decide +kernel
theorem dX8_insure_176 : decode cX8_insure 176 = .ok (.aload_n 0, 1) := by decide +kernel
theorem dX8_insure_177 : decode cX8_insure 177 = .ok (.iload_n 1, 1) := by decide +kernel
theorem dX8_insure_178 : decode cX8_insure 178 = .ok (.iconst 4, 1) := by decide +kernel
theorem dX8_insure_179 : decode cX8_insure 179 = .ok (.iload_n 2, 1) := by decide +kernel
theorem dX8_insure_180 : decode cX8_insure 180 = .ok (.iconst 1, 1) := by decide +kernel
theorem dX8_insure_181 : decode cX8_insure 181 = .ok (.iadd, 1) := by decide +kernel
theorem dX8_insure_182 : decode cX8_insure 182 = .ok (.invokevirtual 34, 3) := by decide +kernel
theorem dX8_insure_185 : decode cX8_insure 185 = .ok (.aload_n 0, 1) := by decide +kernel
theorem dX8_insure_186 : decode cX8_insure 186 = .ok (.iload_n 1, 1) := by decide +kernel
theorem dX8_insure_187 : decode cX8_insure 187 = .ok (.iconst 5, 1) := by decide +kernel
theorem dX8_insure_188 : decode cX8_insure 188 = .ok (.iload_n 3, 1) := by decide +kernel
theorem dX8_insure_189 : decode cX8_insure 189 = .ok (.invokevirtual 34, 3) := by decide +kernel
theorem dX8_insure_192 : decode cX8_insure 192 = .ok (.aload_n 0, 1) := by decide +kernel
theorem dX8_insure_193 : decode cX8_insure 193 = .ok (.iload_n 2, 1) := by decide +kernel
theorem dX8_insure_194 : decode cX8_insure 194 = .ok (.invokevirtual 96, 3) := by decide +kernel
theorem dX8_insure_197 : decode cX8_insure 197 = .ok (.iload 4, 2) := by decide +kernel
theorem dX8_insure_199 : decode cX8_insure 199 = .ok (.ireturn, 1) := by decide +kernel
theorem dX8_renew_0 : decode cX8_renew 0 = .ok (.aload_n 0, 1) := by decide +kernel
theorem dX8_renew_1 : decode cX8_renew 1 = .ok (.iconst 0, 1) := by decide +kernel
theorem dX8_renew_2 : decode cX8_renew 2 = .ok (.putfield 38, 3) := by decide +kernel
theorem dX8_renew_5 : decode cX8_renew 5 = .ok (.iload_n 1, 1) := by decide +kernel
theorem dX8_renew_6 : decode cX8_renew 6 = .ok (.invokestatic 66, 3) := by decide +kernel
theorem dX8_renew_9 : decode cX8_renew 9 = .ok (.ifCond .ne 9, 3) := by decide +kernel
theorem dX8_renew_12 : decode cX8_renew 12 = .ok (.aload_n 0, 1) := by decide +kernel
theorem dX8_renew_13 : decode cX8_renew 13 = .ok (.iconst 1, 1) := by decide +kernel
theorem dX8_renew_14 : decode cX8_renew 14 = .ok (.invokevirtual 49, 3) := by decide +kernel
theorem dX8_renew_17 : decode cX8_renew 17 = .ok (.ireturn, 1) := by decide +kernel
theorem dX8_renew_18 : decode cX8_renew 18 = .ok (.aload_n 0, 1) := by decide +kernel
theorem dX8_renew_19 : decode cX8_renew 19 = .ok (.iload_n 1, 1) := by decide +kernel
theorem dX8_renew_20 : decode cX8_renew 20 = .ok (.invokevirtual 76, 3) := by decide +kernel
theorem dX8_renew_23 : decode cX8_renew 23 = .ok (.ifCond .ne 19, 3) := by decide +kernel
theorem dX8_renew_26 : decode cX8_renew 26 = .ok (.aload_n 0, 1) := by decide +kernel
theorem dX8_renew_27 : decode cX8_renew 27 = .ok (.getfield 7, 3) := by decide +kernel
theorem dX8_renew_30 : decode cX8_renew 30 = .ok (.bipush 12, 2) := by decide +kernel
theorem dX8_renew_32 : decode cX8_renew 32 = .ok (.iaload, 1) := by decide +kernel
theorem dX8_renew_33 : decode cX8_renew 33 = .ok (.aload_n 0, 1) := by decide +kernel
theorem dX8_renew_34 : decode cX8_renew 34 = .ok (.bipush 7, 2) := by decide +kernel
theorem dX8_renew_36 : decode cX8_renew 36 = .ok (.invokevirtual 59, 3) := by decide +kernel
theorem dX8_renew_39 : decode cX8_renew 39 = .ok (.if_icmp .ge 9, 3) := by decide +kernel
theorem dX8_renew_42 : decode cX8_renew 42 = .ok (.aload_n 0, 1) := by decide +kernel
theorem dX8_renew_43 : decode cX8_renew 43 = .ok (.iconst 2, 1) := by decide +kernel
theorem dX8_renew_44 : decode cX8_renew 44 = .ok (.invokevirtual 49, 3) := by decide +kernel
theorem dX8_renew_47 : decode cX8_renew 47 = .ok (.ireturn, 1) := by decide +kernel
theorem dX8_renew_48 : decode cX8_renew 48 = .ok (.aload_n 0, 1) := by decide +kernel
theorem dX8_renew_49 : decode cX8_renew 49 = .ok (.invokevirtual 53, 3) := by decide +kernel
theorem dX8_renew_52 : decode cX8_renew 52 = .ok (.aload_n 0, 1) := by decide +kernel
theorem dX8_renew_53 : decode cX8_renew 53 = .ok (.iload_n 1, 1) := by decide +kernel
theorem dX8_renew_54 : decode cX8_renew 54 = .ok (.iconst 1, 1) := by decide +kernel
theorem dX8_renew_55 : decode cX8_renew 55 = .ok (.invokevirtual 62, 3) := by decide +kernel
theorem dX8_renew_58 : decode cX8_renew 58 = .ok (.istore_n 2, 1) := by decide +kernel
theorem dX8_renew_59 : decode cX8_renew 59 = .ok (.aload_n 0, 1) := by decide +kernel
theorem dX8_renew_60 : decode cX8_renew 60 = .ok (.iload_n 1, 1) := by decide +kernel
theorem dX8_renew_61 : decode cX8_renew 61 = .ok (.iconst 1, 1) := by decide +kernel
theorem dX8_renew_62 : decode cX8_renew 62 = .ok (.bipush 100, 2) := by decide +kernel
theorem dX8_renew_64 : decode cX8_renew 64 = .ok (.invokevirtual 34, 3) := by decide +kernel
theorem dX8_renew_67 : decode cX8_renew 67 = .ok (.aload_n 0, 1) := by decide +kernel
theorem dX8_renew_68 : decode cX8_renew 68 = .ok (.iload_n 1, 1) := by decide +kernel
theorem dX8_renew_69 : decode cX8_renew 69 = .ok (.iconst 0, 1) := by decide +kernel
theorem dX8_renew_70 : decode cX8_renew 70 = .ok (.iconst 0, 1) := by decide +kernel
theorem dX8_renew_71 : decode cX8_renew 71 = .ok (.invokevirtual 34, 3) := by decide +kernel
theorem dX8_renew_74 : decode cX8_renew 74 = .ok (.aload_n 0, 1) := by decide +kernel
theorem dX8_renew_75 : decode cX8_renew 75 = .ok (.getfield 7, 3) := by decide +kernel
theorem dX8_renew_78 : decode cX8_renew 78 = .ok (.bipush 12, 2) := by decide +kernel
theorem dX8_renew_80 : decode cX8_renew 80 = .ok (.dup2, 1) := by decide +kernel
theorem dX8_renew_81 : decode cX8_renew 81 = .ok (.iaload, 1) := by decide +kernel
theorem dX8_renew_82 : decode cX8_renew 82 = .ok (.aload_n 0, 1) := by decide +kernel
theorem dX8_renew_83 : decode cX8_renew 83 = .ok (.bipush 7, 2) := by decide +kernel
theorem dX8_renew_85 : decode cX8_renew 85 = .ok (.invokevirtual 59, 3) := by decide +kernel
theorem dX8_renew_88 : decode cX8_renew 88 = .ok (.isub, 1) := by decide +kernel
theorem dX8_renew_89 : decode cX8_renew 89 = .ok (.iastore, 1) := by decide +kernel
theorem dX8_renew_90 : decode cX8_renew 90 = .ok (.aload_n 0, 1) := by decide +kernel
theorem dX8_renew_91 : decode cX8_renew 91 = .ok (.getfield 7, 3) := by decide +kernel
theorem dX8_renew_94 : decode cX8_renew 94 = .ok (.bipush 13, 2) := by decide +kernel
theorem dX8_renew_96 : decode cX8_renew 96 = .ok (.dup2, 1) := by decide +kernel
theorem dX8_renew_97 : decode cX8_renew 97 = .ok (.iaload, 1) := by decide +kernel
theorem dX8_renew_98 : decode cX8_renew 98 = .ok (.aload_n 0, 1) := by decide +kernel
theorem dX8_renew_99 : decode cX8_renew 99 = .ok (.bipush 7, 2) := by decide +kernel
theorem dX8_renew_101 : decode cX8_renew 101 = .ok (.invokevirtual 59, 3) := by decide +kernel
theorem dX8_renew_104 : decode cX8_renew 104 = .ok (.iadd, 1) := by decide +kernel
theorem dX8_renew_105 : decode cX8_renew 105 = .ok (.iastore, 1) := by decide +kernel
theorem dX8_renew_106 : decode cX8_renew 106 = .ok (.iload_n 2, 1) := by decide +kernel
theorem dX8_renew_107 : decode cX8_renew 107 = .ok (.ireturn, 1) := by decide +kernel
theorem dX8_loses_0 : decode cX8_loses 0 = .ok (.aload_n 0, 1) := by decide +kernel
theorem dX8_loses_1 : decode cX8_loses 1 = .ok (.iload_n 1, 1) := by decide +kernel
theorem dX8_loses_2 : decode cX8_loses 2 = .ok (.bipush 8, 2) := by decide +kernel
theorem dX8_loses_4 : decode cX8_loses 4 = .ok (.aload_n 0, 1) := by decide +kernel
theorem dX8_loses_5 : decode cX8_loses 5 = .ok (.iload_n 1, 1) := by decide +kernel
theorem dX8_loses_6 : decode cX8_loses 6 = .ok (.bipush 8, 2) := by decide +kernel
theorem dX8_loses_8 : decode cX8_loses 8 = .ok (.invokevirtual 62, 3) := by decide +kernel
theorem dX8_loses_11 : decode cX8_loses 11 = .ok (.iconst 1, 1) := by decide +kernel
theorem dX8_loses_12 : decode cX8_loses 12 = .ok (.iadd, 1) := by decide +kernel
theorem dX8_loses_13 : decode cX8_loses 13 = .ok (.invokevirtual 34, 3) := by decide +kernel
theorem dX8_loses_16 : decode cX8_loses 16 = .ok (.aload_n 0, 1) := by decide +kernel
theorem dX8_loses_17 : decode cX8_loses 17 = .ok (.iload_n 1, 1) := by decide +kernel
theorem dX8_loses_18 : decode cX8_loses 18 = .ok (.invokevirtual 76, 3) := by decide +kernel
theorem dX8_loses_21 : decode cX8_loses 21 = .ok (.ifCond .ne 4, 3) := by decide +kernel
theorem dX8_loses_24 : decode cX8_loses 24 = .ok (.return_, 1) := by decide +kernel
theorem dX8_loses_25 : decode cX8_loses 25 = .ok (.aload_n 0, 1) := by decide +kernel
theorem dX8_loses_26 : decode cX8_loses 26 = .ok (.iload_n 1, 1) := by decide +kernel
theorem dX8_loses_27 : decode cX8_loses 27 = .ok (.iconst 2, 1) := by decide +kernel
theorem dX8_loses_28 : decode cX8_loses 28 = .ok (.invokevirtual 62, 3) := by decide +kernel
theorem dX8_loses_31 : decode cX8_loses 31 = .ok (.iconst 1, 1) := by decide +kernel
theorem dX8_loses_32 : decode cX8_loses 32 = .ok (.isub, 1) := by decide +kernel
theorem dX8_loses_33 : decode cX8_loses 33 = .ok (.istore_n 2, 1) := by decide +kernel
theorem dX8_loses_34 : decode cX8_loses 34 = .ok (.aload_n 0, 1) := by decide +kernel
theorem dX8_loses_35 : decode cX8_loses 35 = .ok (.getfield 7, 3) := by decide +kernel
theorem dX8_loses_38 : decode cX8_loses 38 = .ok (.bipush 23, 2) := by decide +kernel
theorem dX8_loses_40 : decode cX8_loses 40 = .ok (.iconst 3, 1) := by decide +kernel
theorem dX8_loses_41 : decode cX8_loses 41 = .ok (.iload_n 2, 1) := by decide +kernel
theorem dX8_loses_42 : decode cX8_loses 42 = .ok (.imul, 1) := by decide +kernel
theorem dX8_loses_43 : decode cX8_loses 43 = .ok (.iadd, 1) := by decide +kernel
theorem dX8_loses_44 : decode cX8_loses 44 = .ok (.iconst 1, 1) := by decide +kernel
theorem dX8_loses_45 : decode cX8_loses 45 = .ok (.iadd, 1) := by decide +kernel
theorem dX8_loses_46 : decode cX8_loses 46 = .ok (.dup2, 1) := by decide +kernel
theorem dX8_loses_47 : decode cX8_loses 47 = .ok (.iaload, 1) := by decide +kernel
theorem dX8_loses_48 : decode cX8_loses 48 = .ok (.iconst 1, 1) := by decide +kernel
theorem dX8_loses_49 : decode cX8_loses 49 = .ok (.iadd, 1) := by decide +kernel
theorem dX8_loses_50 : decode cX8_loses 50 = .ok (.iastore, 1) := by decide +kernel
theorem dX8_loses_51 : decode cX8_loses 51 = .ok (.aload_n 0, 1) := by decide +kernel
theorem dX8_loses_52 : decode cX8_loses 52 = .ok (.iload_n 1, 1) := by decide +kernel
theorem dX8_loses_53 : decode cX8_loses 53 = .ok (.iconst 4, 1) := by decide +kernel
theorem dX8_loses_54 : decode cX8_loses 54 = .ok (.invokevirtual 62, 3) := by decide +kernel
theorem dX8_loses_57 : decode cX8_loses 57 = .ok (.iconst 1, 1) := by decide +kernel
theorem dX8_loses_58 : decode cX8_loses 58 = .ok (.isub, 1) := by decide +kernel
theorem dX8_loses_59 : decode cX8_loses 59 = .ok (.istore_n 3, 1) := by decide +kernel
theorem dX8_loses_60 : decode cX8_loses 60 = .ok (.iload_n 3, 1) := by decide +kernel
theorem dX8_loses_61 : decode cX8_loses 61 = .ok (.iconst (-1), 1) := by decide +kernel
theorem dX8_loses_62 : decode cX8_loses 62 = .ok (.if_icmp .eq 69, 3) := by decide +kernel
theorem dX8_loses_65 : decode cX8_loses 65 = .ok (.bipush 41, 2) := by decide +kernel
theorem dX8_loses_67 : decode cX8_loses 67 = .ok (.bipush 6, 2) := by decide +kernel
theorem dX8_loses_69 : decode cX8_loses 69 = .ok (.iload_n 3, 1) := by decide +kernel
theorem dX8_loses_70 : decode cX8_loses 70 = .ok (.imul, 1) := by decide +kernel
theorem dX8_loses_71 : decode cX8_loses 71 = .ok (.iadd, 1) := by decide +kernel
theorem dX8_loses_72 : decode cX8_loses 72 = .ok (.istore 4, 2) := by decide +kernel
theorem dX8_loses_74 : decode cX8_loses 74 = .ok (.aload_n 0, 1) := by decide +kernel
theorem dX8_loses_75 : decode cX8_loses 75 = .ok (.iload_n 1, 1) := by decide +kernel
theorem dX8_loses_76 : decode cX8_loses 76 = .ok (.iconst 4, 1) := by decide +kernel
theorem dX8_loses_77 : decode cX8_loses 77 = .ok (.iconst 0, 1) := by decide +kernel
theorem dX8_loses_78 : decode cX8_loses 78 = .ok (.invokevirtual 34, 3) := by decide +kernel
theorem dX8_loses_81 : decode cX8_loses 81 = .ok (.aload_n 0, 1) := by decide +kernel
theorem dX8_loses_82 : decode cX8_loses 82 = .ok (.iload_n 1, 1) := by decide +kernel
theorem dX8_loses_83 : decode cX8_loses 83 = .ok (.iconst 5, 1) := by decide +kernel
theorem dX8_loses_84 : decode cX8_loses 84 = .ok (.iconst 0, 1) := by decide +kernel
theorem dX8_loses_85 : decode cX8_loses 85 = .ok (.invokevirtual 34, 3) := by decide +kernel
theorem dX8_loses_88 : decode cX8_loses 88 = .ok (.aload_n 0, 1) := by decide +kernel
theorem dX8_loses_89 : decode cX8_loses 89 = .ok (.getfield 7, 3) := by decide +kernel
theorem dX8_loses_92 : decode cX8_loses 92 = .ok (.sipush 635, 3) := by decide +kernel
theorem dX8_loses_95 : decode cX8_loses 95 = .ok (.sipush 520, 3) := by decide +kernel
theorem dX8_loses_98 : decode cX8_loses 98 = .ok (.iload_n 3, 1) := by decide +kernel
theorem dX8_loses_99 : decode cX8_loses 99 = .ok (.imul, 1) := by decide +kernel
theorem dX8_loses_100 : decode cX8_loses 100 = .ok (.iadd, 1) := by decide +kernel
theorem dX8_loses_101 : decode cX8_loses 101 = .ok (.aload_n 0, 1) := by decide +kernel
theorem dX8_loses_102 : decode cX8_loses 102 = .ok (.getfield 7, 3) := by decide +kernel
theorem dX8_loses_105 : decode cX8_loses 105 = .ok (.iload 4, 2) := by decide +kernel
theorem dX8_loses_107 : decode cX8_loses 107 = .ok (.iconst 5, 1) := by decide +kernel
theorem dX8_loses_108 : decode cX8_loses 108 = .ok (.iadd, 1) := by decide +kernel
theorem dX8_loses_109 : decode cX8_loses 109 = .ok (.iaload, 1) := by decide +kernel
theorem dX8_loses_110 : decode cX8_loses 110 = .ok (.iadd, 1) := by decide +kernel
theorem dX8_loses_111 : decode cX8_loses 111 = .ok (.iload_n 2, 1) := by decide +kernel
theorem dX8_loses_112 : decode cX8_loses 112 = .ok (.iastore, 1) := by decide +kernel
theorem dX8_loses_113 : decode cX8_loses 113 = .ok (.aload_n 0, 1) := by decide +kernel
theorem dX8_loses_114 : decode cX8_loses 114 = .ok (.getfield 7, 3) := by decide +kernel
theorem dX8_loses_117 : decode cX8_loses 117 = .ok (.iload 4, 2) := by decide +kernel
theorem dX8_loses_119 : decode cX8_loses 119 = .ok (.iconst 5, 1) := by decide +kernel
theorem dX8_loses_120 : decode cX8_loses 120 = .ok (.iadd, 1) := by decide +kernel
theorem dX8_loses_121 : decode cX8_loses 121 = .ok (.dup2, 1) := by decide +kernel
theorem dX8_loses_122 : decode cX8_loses 122 = .ok (.iaload, 1) := by decide +kernel
theorem dX8_loses_123 : decode cX8_loses 123 = .ok (.iconst 1, 1) := by decide +kernel
theorem dX8_loses_124 : decode cX8_loses 124 = .ok (.iadd, 1) := by decide +kernel
theorem dX8_loses_125 : decode cX8_loses 125 = .ok (.iastore, 1) := by decide +kernel
theorem dX8_loses_126 : decode cX8_loses 126 = .ok (.aload_n 0, 1) := by decide +kernel
theorem dX8_loses_127 : decode cX8_loses 127 = .ok (.iload_n 3, 1) := by decide +kernel
theorem dX8_loses_128 : decode cX8_loses 128 = .ok (.invokevirtual 96, 3) := by decide +kernel
theorem dX8_loses_131 : decode cX8_loses 131 = .ok (.return_, 1) := by decide +kernel
theorem dX8_areInLine_0 : decode cX8_areInLine 0 = .ok (.iload_n 0, 1) := by decide +kernel
theorem dX8_areInLine_1 : decode cX8_areInLine 1 = .ok (.iload_n 1, 1) := by decide +kernel
theorem dX8_areInLine_2 : decode cX8_areInLine 2 = .ok (.if_icmp .eq 29, 3) := by decide +kernel
theorem dX8_areInLine_5 : decode cX8_areInLine 5 = .ok (.iload_n 0, 1) := by decide +kernel
theorem dX8_areInLine_6 : decode cX8_areInLine 6 = .ok (.bipush 8, 2) := by decide +kernel
theorem dX8_areInLine_8 : decode cX8_areInLine 8 = .ok (.idiv, 1) := by decide +kernel
theorem dX8_areInLine_9 : decode cX8_areInLine 9 = .ok (.iload_n 1, 1) := by decide +kernel
theorem dX8_areInLine_10 : decode cX8_areInLine 10 = .ok (.bipush 8, 2) := by decide +kernel
theorem dX8_areInLine_12 : decode cX8_areInLine 12 = .ok (.idiv, 1) := by decide +kernel
theorem dX8_areInLine_13 : decode cX8_areInLine 13 = .ok (.if_icmp .eq 14, 3) := by decide +kernel
theorem dX8_areInLine_16 : decode cX8_areInLine 16 = .ok (.iload_n 0, 1) := by decide +kernel
theorem dX8_areInLine_17 : decode cX8_areInLine 17 = .ok (.bipush 8, 2) := by decide +kernel
theorem dX8_areInLine_19 : decode cX8_areInLine 19 = .ok (.irem, 1) := by decide +kernel
theorem dX8_areInLine_20 : decode cX8_areInLine 20 = .ok (.iload_n 1, 1) := by decide +kernel
theorem dX8_areInLine_21 : decode cX8_areInLine 21 = .ok (.bipush 8, 2) := by decide +kernel
theorem dX8_areInLine_23 : decode cX8_areInLine 23 = .ok (.irem, 1) := by decide +kernel
theorem dX8_areInLine_24 : decode cX8_areInLine 24 = .ok (.if_icmp .ne 7, 3) := by decide +kernel
theorem dX8_areInLine_27 : decode cX8_areInLine 27 = .ok (.iconst 1, 1) := by decide +kernel
theorem dX8_areInLine_28 : decode cX8_areInLine 28 = .ok (.goto 4, 3) := by decide +kernel
theorem dX8_areInLine_31 : decode cX8_areInLine 31 = .ok (.iconst 0, 1) := by decide +kernel
theorem dX8_areInLine_32 : decode cX8_areInLine 32 = .ok (.ireturn, 1) := by decide +kernel
theorem dX8_isWeak_0 : decode cX8_isWeak 0 = .ok (.aload_n 0, 1) := by decide +kernel
theorem dX8_isWeak_1 : decode cX8_isWeak 1 = .ok (.iload_n 1, 1) := by decide +kernel
theorem dX8_isWeak_2 : decode cX8_isWeak 2 = .ok (.iconst 0, 1) := by decide +kernel
theorem dX8_isWeak_3 : decode cX8_isWeak 3 = .ok (.invokevirtual 62, 3) := by decide +kernel
theorem dX8_isWeak_6 : decode cX8_isWeak 6 = .ok (.iconst 1, 1) := by decide +kernel
theorem dX8_isWeak_7 : decode cX8_isWeak 7 = .ok (.if_icmp .ne 21, 3) := by decide +kernel
theorem dX8_isWeak_10 : decode cX8_isWeak 10 = .ok (.aload_n 0, 1) := by decide +kernel
theorem dX8_isWeak_11 : decode cX8_isWeak 11 = .ok (.iload_n 1, 1) := by decide +kernel
theorem dX8_isWeak_12 : decode cX8_isWeak 12 = .ok (.iconst 1, 1) := by decide +kernel
theorem dX8_isWeak_13 : decode cX8_isWeak 13 = .ok (.invokevirtual 62, 3) := by decide +kernel
theorem dX8_isWeak_16 : decode cX8_isWeak 16 = .ok (.aload_n 0, 1) := by decide +kernel
theorem dX8_isWeak_17 : decode cX8_isWeak 17 = .ok (.iconst 5, 1) := by decide +kernel
theorem dX8_isWeak_18 : decode cX8_isWeak 18 = .ok (.invokevirtual 59, 3) := by decide +kernel
theorem dX8_isWeak_21 : decode cX8_isWeak 21 = .ok (.if_icmp .ge 7, 3) := by decide +kernel
theorem dX8_isWeak_24 : decode cX8_isWeak 24 = .ok (.iconst 1, 1) := by decide +kernel
theorem dX8_isWeak_25 : decode cX8_isWeak 25 = .ok (.goto 4, 3) := by decide +kernel
theorem dX8_isWeak_28 : decode cX8_isWeak 28 = .ok (.iconst 0, 1) := by decide +kernel
theorem dX8_isWeak_29 : decode cX8_isWeak 29 = .ok (.ireturn, 1) := by decide +kernel
theorem dX8_worn_0 : decode cX8_worn 0 = .ok (.aload_n 0, 1) := by decide +kernel
theorem dX8_worn_1 : decode cX8_worn 1 = .ok (.iload_n 1, 1) := by decide +kernel
theorem dX8_worn_2 : decode cX8_worn 2 = .ok (.iconst 1, 1) := by decide +kernel
theorem dX8_worn_3 : decode cX8_worn 3 = .ok (.invokevirtual 62, 3) := by decide +kernel
theorem dX8_worn_6 : decode cX8_worn 6 = .ok (.iconst 1, 1) := by decide +kernel
theorem dX8_worn_7 : decode cX8_worn 7 = .ok (.isub, 1) := by decide +kernel
theorem dX8_worn_8 : decode cX8_worn 8 = .ok (.aload_n 0, 1) := by decide +kernel
theorem dX8_worn_9 : decode cX8_worn 9 = .ok (.getfield 7, 3) := by decide +kernel
theorem dX8_worn_12 : decode cX8_worn 12 = .ok (.iconst 1, 1) := by decide +kernel
theorem dX8_worn_13 : decode cX8_worn 13 = .ok (.iaload, 1) := by decide +kernel
theorem dX8_worn_14 : decode cX8_worn 14 = .ok (.bipush 25, 2) := by decide +kernel
theorem dX8_worn_16 : decode cX8_worn 16 = .ok (.idiv, 1) := by decide +kernel
theorem dX8_worn_17 : decode cX8_worn 17 = .ok (.isub, 1) := by decide +kernel
theorem dX8_worn_18 : decode cX8_worn 18 = .ok (.invokestatic 100, 3) := by decide +kernel
theorem dX8_worn_21 : decode cX8_worn 21 = .ok (.ireturn, 1) := by decide +kernel
theorem dX8_heated_0 : decode cX8_heated 0 = .ok (.bipush 100, 2) := by decide +kernel
theorem dX8_heated_2 : decode cX8_heated 2 = .ok (.aload_n 0, 1) := by decide +kernel
theorem dX8_heated_3 : decode cX8_heated 3 = .ok (.getfield 7, 3) := by decide +kernel
theorem dX8_heated_6 : decode cX8_heated 6 = .ok (.iconst 1, 1) := by decide +kernel
theorem dX8_heated_7 : decode cX8_heated 7 = .ok (.iaload, 1) := by decide +kernel
theorem dX8_heated_8 : decode cX8_heated 8 = .ok (.iload_n 1, 1) := by decide +kernel
theorem dX8_heated_9 : decode cX8_heated 9 = .ok (.iadd, 1) := by decide +kernel
theorem dX8_heated_10 : decode cX8_heated 10 = .ok (.invokestatic 103, 3) := by decide +kernel
theorem dX8_heated_13 : decode cX8_heated 13 = .ok (.ireturn, 1) := by decide +kernel
theorem dX8_pulse_0 : decode cX8_pulse 0 = .ok (.aload_n 0, 1) := by decide +kernel
theorem dX8_pulse_1 : decode cX8_pulse 1 = .ok (.iload_n 1, 1) := by decide +kernel
theorem dX8_pulse_2 : decode cX8_pulse 2 = .ok (.iconst 1, 1) := by decide +kernel
theorem dX8_pulse_3 : decode cX8_pulse 3 = .ok (.aload_n 0, 1) := by decide +kernel
theorem dX8_pulse_4 : decode cX8_pulse 4 = .ok (.iload_n 1, 1) := by decide +kernel
theorem dX8_pulse_5 : decode cX8_pulse 5 = .ok (.invokevirtual 106, 3) := by decide +kernel
theorem dX8_pulse_8 : decode cX8_pulse 8 = .ok (.invokevirtual 34, 3) := by decide +kernel
theorem dX8_pulse_11 : decode cX8_pulse 11 = .ok (.iconst 0, 1) := by decide +kernel
theorem dX8_pulse_12 : decode cX8_pulse 12 = .ok (.istore_n 3, 1) := by decide +kernel
theorem dX8_pulse_13 : decode cX8_pulse 13 = .ok (.iload_n 3, 1) := by decide +kernel
theorem dX8_pulse_14 : decode cX8_pulse 14 = .ok (.bipush 64, 2) := by decide +kernel
theorem dX8_pulse_16 : decode cX8_pulse 16 = .ok (.if_icmp .ge 48, 3) := by decide +kernel
theorem dX8_pulse_19 : decode cX8_pulse 19 = .ok (.iload_n 1, 1) := by decide +kernel
theorem dX8_pulse_20 : decode cX8_pulse 20 = .ok (.iload_n 3, 1) := by decide +kernel
theorem dX8_pulse_21 : decode cX8_pulse 21 = .ok (.invokestatic 109, 3) := by decide +kernel
theorem dX8_pulse_24 : decode cX8_pulse 24 = .ok (.ifCond .eq 34, 3) := by decide +kernel
theorem dX8_pulse_27 : decode cX8_pulse 27 = .ok (.aload_n 0, 1) := by decide +kernel
theorem dX8_pulse_28 : decode cX8_pulse 28 = .ok (.iload_n 3, 1) := by decide +kernel
theorem dX8_pulse_29 : decode cX8_pulse 29 = .ok (.invokevirtual 113, 3) := by decide +kernel
theorem dX8_pulse_32 : decode cX8_pulse 32 = .ok (.ifCond .eq 26, 3) := by decide +kernel
theorem dX8_pulse_35 : decode cX8_pulse 35 = .ok (.aload_n 0, 1) := by decide +kernel
theorem dX8_pulse_36 : decode cX8_pulse 36 = .ok (.iload_n 3, 1) := by decide +kernel
theorem dX8_pulse_37 : decode cX8_pulse 37 = .ok (.iconst 0, 1) := by decide +kernel
theorem dX8_pulse_38 : decode cX8_pulse 38 = .ok (.iconst 0, 1) := by decide +kernel
theorem dX8_pulse_39 : decode cX8_pulse 39 = .ok (.invokevirtual 34, 3) := by decide +kernel
theorem dX8_pulse_42 : decode cX8_pulse 42 = .ok (.aload_n 0, 1) := by decide +kernel
theorem dX8_pulse_43 : decode cX8_pulse 43 = .ok (.getfield 7, 3) := by decide +kernel
theorem dX8_pulse_46 : decode cX8_pulse 46 = .ok (.bipush 9, 2) := by decide +kernel
theorem dX8_pulse_48 : decode cX8_pulse 48 = .ok (.dup2, 1) := by decide +kernel
theorem dX8_pulse_49 : decode cX8_pulse 49 = .ok (.iaload, 1) := by decide +kernel
theorem dX8_pulse_50 : decode cX8_pulse 50 = .ok (.iconst 1, 1) := by decide +kernel
theorem dX8_pulse_51 : decode cX8_pulse 51 = .ok (.iadd, 1) := by decide +kernel
theorem dX8_pulse_52 : decode cX8_pulse 52 = .ok (.iastore, 1) := by decide +kernel
theorem dX8_pulse_53 : decode cX8_pulse 53 = .ok (.aload_n 0, 1) := by decide +kernel
theorem dX8_pulse_54 : decode cX8_pulse 54 = .ok (.iload_n 3, 1) := by decide +kernel
theorem dX8_pulse_55 : decode cX8_pulse 55 = .ok (.invokevirtual 116, 3) := by decide +kernel
theorem dX8_pulse_58 : decode cX8_pulse 58 = .ok (.iinc 3 1, 3) := by decide +kernel
theorem dX8_pulse_61 : decode cX8_pulse 61 = .ok (.goto (-48), 3) := by decide +kernel
theorem dX8_pulse_64 : decode cX8_pulse 64 = .ok (.aload_n 0, 1) := by decide +kernel
theorem dX8_pulse_65 : decode cX8_pulse 65 = .ok (.getfield 7, 3) := by decide +kernel
theorem dX8_pulse_68 : decode cX8_pulse 68 = .ok (.iconst 1, 1) := by decide +kernel
theorem dX8_pulse_69 : decode cX8_pulse 69 = .ok (.aload_n 0, 1) := by decide +kernel
theorem dX8_pulse_70 : decode cX8_pulse 70 = .ok (.iload_n 2, 1) := by decide +kernel
theorem dX8_pulse_71 : decode cX8_pulse 71 = .ok (.invokevirtual 119, 3) := by decide +kernel
theorem dX8_pulse_74 : decode cX8_pulse 74 = .ok (.iastore, 1) := by decide +kernel
theorem dX8_pulse_75 : decode cX8_pulse 75 = .ok (.return_, 1) := by decide +kernel
theorem dX8_writes_0 : decode cX8_writes 0 = .ok (.aload_n 0, 1) := by decide +kernel
theorem dX8_writes_1 : decode cX8_writes 1 = .ok (.iload_n 1, 1) := by decide +kernel
theorem dX8_writes_2 : decode cX8_writes 2 = .ok (.aload_n 0, 1) := by decide +kernel
theorem dX8_writes_3 : decode cX8_writes 3 = .ok (.iconst 1, 1) := by decide +kernel
theorem dX8_writes_4 : decode cX8_writes 4 = .ok (.invokevirtual 59, 3) := by decide +kernel
theorem dX8_writes_7 : decode cX8_writes 7 = .ok (.invokevirtual 122, 3) := by decide +kernel
theorem dX8_writes_10 : decode cX8_writes 10 = .ok (.aload_n 0, 1) := by decide +kernel
theorem dX8_writes_11 : decode cX8_writes 11 = .ok (.iload_n 1, 1) := by decide +kernel
theorem dX8_writes_12 : decode cX8_writes 12 = .ok (.iconst 0, 1) := by decide +kernel
theorem dX8_writes_13 : decode cX8_writes 13 = .ok (.aload_n 0, 1) := by decide +kernel
theorem dX8_writes_14 : decode cX8_writes 14 = .ok (.iload_n 1, 1) := by decide +kernel
theorem dX8_writes_15 : decode cX8_writes 15 = .ok (.iconst 1, 1) := by decide +kernel
theorem dX8_writes_16 : decode cX8_writes 16 = .ok (.invokevirtual 62, 3) := by decide +kernel
theorem dX8_writes_19 : decode cX8_writes 19 = .ok (.aload_n 0, 1) := by decide +kernel
theorem dX8_writes_20 : decode cX8_writes 20 = .ok (.iconst 4, 1) := by decide +kernel
theorem dX8_writes_21 : decode cX8_writes 21 = .ok (.invokevirtual 59, 3) := by decide +kernel
theorem dX8_writes_24 : decode cX8_writes 24 = .ok (.if_icmp .ge 7, 3) := by decide +kernel
theorem dX8_writes_27 : decode cX8_writes 27 = .ok (.iconst 0, 1) := by decide +kernel
theorem dX8_writes_28 : decode cX8_writes 28 = .ok (.goto 4, 3) := by decide +kernel
theorem dX8_writes_31 : decode cX8_writes 31 = .ok (.iload_n 2, 1) := by decide +kernel
theorem dX8_writes_32 : decode cX8_writes 32 = .ok (.invokevirtual 34, 3) := by decide +kernel
theorem dX8_writes_35 : decode cX8_writes 35 = .ok (.aload_n 0, 1) := by decide +kernel
theorem dX8_writes_36 : decode cX8_writes 36 = .ok (.iload_n 1, 1) := by decide +kernel
theorem dX8_writes_37 : decode cX8_writes 37 = .ok (.invokevirtual 126, 3) := by decide +kernel
theorem dX8_writes_40 : decode cX8_writes 40 = .ok (.ifCond .eq 22, 3) := by decide +kernel
theorem dX8_writes_43 : decode cX8_writes 43 = .ok (.aload_n 0, 1) := by decide +kernel
theorem dX8_writes_44 : decode cX8_writes 44 = .ok (.iload_n 1, 1) := by decide +kernel
theorem dX8_writes_45 : decode cX8_writes 45 = .ok (.bipush 6, 2) := by decide +kernel
theorem dX8_writes_47 : decode cX8_writes 47 = .ok (.iconst 0, 1) := by decide +kernel
theorem dX8_writes_48 : decode cX8_writes 48 = .ok (.invokevirtual 34, 3) := by decide +kernel
theorem dX8_writes_51 : decode cX8_writes 51 = .ok (.aload_n 0, 1) := by decide +kernel
theorem dX8_writes_52 : decode cX8_writes 52 = .ok (.getfield 7, 3) := by decide +kernel
theorem dX8_writes_55 : decode cX8_writes 55 = .ok (.bipush 10, 2) := by decide +kernel
theorem dX8_writes_57 : decode cX8_writes 57 = .ok (.dup2, 1) := by decide +kernel
theorem dX8_writes_58 : decode cX8_writes 58 = .ok (.iaload, 1) := by decide +kernel
theorem dX8_writes_59 : decode cX8_writes 59 = .ok (.iconst 1, 1) := by decide +kernel
theorem dX8_writes_60 : decode cX8_writes 60 = .ok (.iadd, 1) := by decide +kernel
theorem dX8_writes_61 : decode cX8_writes 61 = .ok (.iastore, 1) := by decide +kernel
theorem dX8_writes_62 : decode cX8_writes 62 = .ok (.aload_n 0, 1) := by decide +kernel
theorem dX8_writes_63 : decode cX8_writes 63 = .ok (.iload_n 1, 1) := by decide +kernel
theorem dX8_writes_64 : decode cX8_writes 64 = .ok (.iconst 0, 1) := by decide +kernel
theorem dX8_writes_65 : decode cX8_writes 65 = .ok (.invokevirtual 62, 3) := by decide +kernel
theorem dX8_writes_68 : decode cX8_writes 68 = .ok (.ireturn, 1) := by decide +kernel
theorem dX8_write_0 : decode cX8_write 0 = .ok (.aload_n 0, 1) := by decide +kernel
theorem dX8_write_1 : decode cX8_write 1 = .ok (.iconst 0, 1) := by decide +kernel
theorem dX8_write_2 : decode cX8_write 2 = .ok (.putfield 38, 3) := by decide +kernel
theorem dX8_write_5 : decode cX8_write 5 = .ok (.iload_n 1, 1) := by decide +kernel
theorem dX8_write_6 : decode cX8_write 6 = .ok (.invokestatic 66, 3) := by decide +kernel
theorem dX8_write_9 : decode cX8_write 9 = .ok (.ifCond .ne 9, 3) := by decide +kernel
theorem dX8_write_12 : decode cX8_write 12 = .ok (.aload_n 0, 1) := by decide +kernel
theorem dX8_write_13 : decode cX8_write 13 = .ok (.iconst 1, 1) := by decide +kernel
theorem dX8_write_14 : decode cX8_write 14 = .ok (.invokevirtual 49, 3) := by decide +kernel
theorem dX8_write_17 : decode cX8_write 17 = .ok (.ireturn, 1) := by decide +kernel
theorem dX8_write_18 : decode cX8_write 18 = .ok (.aload_n 0, 1) := by decide +kernel
theorem dX8_write_19 : decode cX8_write 19 = .ok (.iload_n 1, 1) := by decide +kernel
theorem dX8_write_20 : decode cX8_write 20 = .ok (.invokevirtual 76, 3) := by decide +kernel
theorem dX8_write_23 : decode cX8_write 23 = .ok (.ifCond .ne 9, 3) := by decide +kernel
theorem dX8_write_26 : decode cX8_write 26 = .ok (.aload_n 0, 1) := by decide +kernel
theorem dX8_write_27 : decode cX8_write 27 = .ok (.iconst 2, 1) := by decide +kernel
theorem dX8_write_28 : decode cX8_write 28 = .ok (.invokevirtual 49, 3) := by decide +kernel
theorem dX8_write_31 : decode cX8_write 31 = .ok (.ireturn, 1) := by decide +kernel
theorem dX8_write_32 : decode cX8_write 32 = .ok (.aload_n 0, 1) := by decide +kernel
theorem dX8_write_33 : decode cX8_write 33 = .ok (.invokevirtual 53, 3) := by decide +kernel
theorem dX8_write_36 : decode cX8_write 36 = .ok (.aload_n 0, 1) := by decide +kernel
theorem dX8_write_37 : decode cX8_write 37 = .ok (.iload_n 1, 1) := by decide +kernel
theorem dX8_write_38 : decode cX8_write 38 = .ok (.iload_n 2, 1) := by decide +kernel
theorem dX8_write_39 : decode cX8_write 39 = .ok (.ifCond .eq 7, 3) := by decide +kernel
theorem dX8_write_42 : decode cX8_write 42 = .ok (.iconst 1, 1) := by decide +kernel
theorem dX8_write_43 : decode cX8_write 43 = .ok (.goto 4, 3) := by decide +kernel
theorem dX8_write_46 : decode cX8_write 46 = .ok (.iconst 0, 1) := by decide +kernel
theorem dX8_write_47 : decode cX8_write 47 = .ok (.invokevirtual 129, 3) := by decide +kernel
theorem dX8_write_50 : decode cX8_write 50 = .ok (.ireturn, 1) := by decide +kernel
theorem dX8_canRead_0 : decode cX8_canRead 0 = .ok (.aload_n 0, 1) := by decide +kernel
theorem dX8_canRead_1 : decode cX8_canRead 1 = .ok (.iload_n 1, 1) := by decide +kernel
theorem dX8_canRead_2 : decode cX8_canRead 2 = .ok (.invokevirtual 76, 3) := by decide +kernel
theorem dX8_canRead_5 : decode cX8_canRead 5 = .ok (.ifCond .eq 15, 3) := by decide +kernel
theorem dX8_canRead_8 : decode cX8_canRead 8 = .ok (.aload_n 0, 1) := by decide +kernel
theorem dX8_canRead_9 : decode cX8_canRead 9 = .ok (.iload_n 1, 1) := by decide +kernel
theorem dX8_canRead_10 : decode cX8_canRead 10 = .ok (.invokevirtual 126, 3) := by decide +kernel
theorem dX8_canRead_13 : decode cX8_canRead 13 = .ok (.ifCond .ne 7, 3) := by decide +kernel
theorem dX8_canRead_16 : decode cX8_canRead 16 = .ok (.iconst 1, 1) := by decide +kernel
theorem dX8_canRead_17 : decode cX8_canRead 17 = .ok (.goto 4, 3) := by decide +kernel
theorem dX8_canRead_20 : decode cX8_canRead 20 = .ok (.iconst 0, 1) := by decide +kernel
theorem dX8_canRead_21 : decode cX8_canRead 21 = .ok (.ireturn, 1) := by decide +kernel
theorem dX8_reads_0 : decode cX8_reads 0 = .ok (.aload_n 0, 1) := by decide +kernel
theorem dX8_reads_1 : decode cX8_reads 1 = .ok (.iload_n 1, 1) := by decide +kernel
theorem dX8_reads_2 : decode cX8_reads 2 = .ok (.aload_n 0, 1) := by decide +kernel
theorem dX8_reads_3 : decode cX8_reads 3 = .ok (.iconst 2, 1) := by decide +kernel
theorem dX8_reads_4 : decode cX8_reads 4 = .ok (.invokevirtual 59, 3) := by decide +kernel
theorem dX8_reads_7 : decode cX8_reads 7 = .ok (.invokevirtual 122, 3) := by decide +kernel
theorem dX8_reads_10 : decode cX8_reads 10 = .ok (.aload_n 0, 1) := by decide +kernel
theorem dX8_reads_11 : decode cX8_reads 11 = .ok (.getfield 7, 3) := by decide +kernel
theorem dX8_reads_14 : decode cX8_reads 14 = .ok (.iconst 4, 1) := by decide +kernel
theorem dX8_reads_15 : decode cX8_reads 15 = .ok (.dup2, 1) := by decide +kernel
theorem dX8_reads_16 : decode cX8_reads 16 = .ok (.iaload, 1) := by decide +kernel
theorem dX8_reads_17 : decode cX8_reads 17 = .ok (.iconst 1, 1) := by decide +kernel
theorem dX8_reads_18 : decode cX8_reads 18 = .ok (.iadd, 1) := by decide +kernel
theorem dX8_reads_19 : decode cX8_reads 19 = .ok (.iastore, 1) := by decide +kernel
theorem dX8_reads_20 : decode cX8_reads 20 = .ok (.aload_n 0, 1) := by decide +kernel
theorem dX8_reads_21 : decode cX8_reads 21 = .ok (.iload_n 1, 1) := by decide +kernel
theorem dX8_reads_22 : decode cX8_reads 22 = .ok (.iconst 0, 1) := by decide +kernel
theorem dX8_reads_23 : decode cX8_reads 23 = .ok (.invokevirtual 62, 3) := by decide +kernel
theorem dX8_reads_26 : decode cX8_reads 26 = .ok (.istore_n 2, 1) := by decide +kernel
theorem dX8_reads_27 : decode cX8_reads 27 = .ok (.iload_n 2, 1) := by decide +kernel
theorem dX8_reads_28 : decode cX8_reads 28 = .ok (.iconst 1, 1) := by decide +kernel
theorem dX8_reads_29 : decode cX8_reads 29 = .ok (.if_icmp .ne 66, 3) := by decide +kernel
theorem dX8_reads_32 : decode cX8_reads 32 = .ok (.aload_n 0, 1) := by decide +kernel
theorem dX8_reads_33 : decode cX8_reads 33 = .ok (.iload_n 1, 1) := by decide +kernel
theorem dX8_reads_34 : decode cX8_reads 34 = .ok (.iconst 0, 1) := by decide +kernel
theorem dX8_reads_35 : decode cX8_reads 35 = .ok (.iconst 0, 1) := by decide +kernel
theorem dX8_reads_36 : decode cX8_reads 36 = .ok (.invokevirtual 34, 3) := by decide +kernel
theorem dX8_reads_39 : decode cX8_reads 39 = .ok (.aload_n 0, 1) := by decide +kernel
theorem dX8_reads_40 : decode cX8_reads 40 = .ok (.iload_n 1, 1) := by decide +kernel
theorem dX8_reads_41 : decode cX8_reads 41 = .ok (.bipush 6, 2) := by decide +kernel
theorem dX8_reads_43 : decode cX8_reads 43 = .ok (.aload_n 0, 1) := by decide +kernel
theorem dX8_reads_44 : decode cX8_reads 44 = .ok (.getfield 7, 3) := by decide +kernel
theorem dX8_reads_47 : decode cX8_reads 47 = .ok (.iconst 0, 1) := by decide +kernel
theorem dX8_reads_48 : decode cX8_reads 48 = .ok (.iaload, 1) := by decide +kernel
theorem dX8_reads_49 : decode cX8_reads 49 = .ok (.aload_n 0, 1) := by decide +kernel
theorem dX8_reads_50 : decode cX8_reads 50 = .ok (.iconst 3, 1) := by decide +kernel
theorem dX8_reads_51 : decode cX8_reads 51 = .ok (.invokevirtual 59, 3) := by decide +kernel
theorem dX8_reads_54 : decode cX8_reads 54 = .ok (.iadd, 1) := by decide +kernel
theorem dX8_reads_55 : decode cX8_reads 55 = .ok (.iconst 1, 1) := by decide +kernel
theorem dX8_reads_56 : decode cX8_reads 56 = .ok (.iadd, 1) := by decide +kernel
theorem dX8_reads_57 : decode cX8_reads 57 = .ok (.invokevirtual 34, 3) := by decide +kernel
theorem dX8_reads_60 : decode cX8_reads 60 = .ok (.aload_n 0, 1) := by decide +kernel
theorem dX8_reads_61 : decode cX8_reads 61 = .ok (.iload_n 1, 1) := by decide +kernel
theorem dX8_reads_62 : decode cX8_reads 62 = .ok (.bipush 7, 2) := by decide +kernel
theorem dX8_reads_64 : decode cX8_reads 64 = .ok (.aload_n 0, 1) := by decide +kernel
theorem dX8_reads_65 : decode cX8_reads 65 = .ok (.getfield 7, 3) := by decide +kernel
theorem dX8_reads_68 : decode cX8_reads 68 = .ok (.bipush 14, 2) := by decide +kernel
theorem dX8_reads_70 : decode cX8_reads 70 = .ok (.iaload, 1) := by decide +kernel
theorem dX8_reads_71 : decode cX8_reads 71 = .ok (.invokevirtual 34, 3) := by decide +kernel
theorem dX8_reads_74 : decode cX8_reads 74 = .ok (.aload_n 0, 1) := by decide +kernel
theorem dX8_reads_75 : decode cX8_reads 75 = .ok (.getfield 7, 3) := by decide +kernel
theorem dX8_reads_78 : decode cX8_reads 78 = .ok (.bipush 14, 2) := by decide +kernel
theorem dX8_reads_80 : decode cX8_reads 80 = .ok (.dup2, 1) := by decide +kernel
theorem dX8_reads_81 : decode cX8_reads 81 = .ok (.iaload, 1) := by decide +kernel
theorem dX8_reads_82 : decode cX8_reads 82 = .ok (.iconst 1, 1) := by decide +kernel
theorem dX8_reads_83 : decode cX8_reads 83 = .ok (.iadd, 1) := by decide +kernel
theorem dX8_reads_84 : decode cX8_reads 84 = .ok (.iastore, 1) := by decide +kernel
theorem dX8_reads_85 : decode cX8_reads 85 = .ok (.aload_n 0, 1) := by decide +kernel
theorem dX8_reads_86 : decode cX8_reads 86 = .ok (.getfield 7, 3) := by decide +kernel
theorem dX8_reads_89 : decode cX8_reads 89 = .ok (.iconst 5, 1) := by decide +kernel
theorem dX8_reads_90 : decode cX8_reads 90 = .ok (.dup2, 1) := by decide +kernel
theorem dX8_reads_91 : decode cX8_reads 91 = .ok (.iaload, 1) := by decide +kernel
theorem dX8_reads_92 : decode cX8_reads 92 = .ok (.iconst 1, 1) := by decide +kernel
theorem dX8_reads_93 : decode cX8_reads 93 = .ok (.iadd, 1) := by decide +kernel
theorem dX8_reads_94 : decode cX8_reads 94 = .ok (.iastore, 1) := by decide +kernel
theorem dX8_reads_95 : decode cX8_reads 95 = .ok (.iload_n 2, 1) := by decide +kernel
theorem dX8_reads_96 : decode cX8_reads 96 = .ok (.ireturn, 1) := by decide +kernel
theorem dX8_read_0 : decode cX8_read 0 = .ok (.aload_n 0, 1) := by decide +kernel
theorem dX8_read_1 : decode cX8_read 1 = .ok (.iconst 0, 1) := by decide +kernel
theorem dX8_read_2 : decode cX8_read 2 = .ok (.putfield 38, 3) := by decide +kernel
theorem dX8_read_5 : decode cX8_read 5 = .ok (.iload_n 1, 1) := by decide +kernel
theorem dX8_read_6 : decode cX8_read 6 = .ok (.invokestatic 66, 3) := by decide +kernel
theorem dX8_read_9 : decode cX8_read 9 = .ok (.ifCond .ne 9, 3) := by decide +kernel
theorem dX8_read_12 : decode cX8_read 12 = .ok (.aload_n 0, 1) := by decide +kernel
theorem dX8_read_13 : decode cX8_read 13 = .ok (.iconst 1, 1) := by decide +kernel
theorem dX8_read_14 : decode cX8_read 14 = .ok (.invokevirtual 49, 3) := by decide +kernel
theorem dX8_read_17 : decode cX8_read 17 = .ok (.ireturn, 1) := by decide +kernel
theorem dX8_read_18 : decode cX8_read 18 = .ok (.aload_n 0, 1) := by decide +kernel
theorem dX8_read_19 : decode cX8_read 19 = .ok (.iload_n 1, 1) := by decide +kernel
theorem dX8_read_20 : decode cX8_read 20 = .ok (.invokevirtual 132, 3) := by decide +kernel
theorem dX8_read_23 : decode cX8_read 23 = .ok (.ifCond .ne 9, 3) := by decide +kernel
theorem dX8_read_26 : decode cX8_read 26 = .ok (.aload_n 0, 1) := by decide +kernel
theorem dX8_read_27 : decode cX8_read 27 = .ok (.iconst 2, 1) := by decide +kernel
theorem dX8_read_28 : decode cX8_read 28 = .ok (.invokevirtual 49, 3) := by decide +kernel
theorem dX8_read_31 : decode cX8_read 31 = .ok (.ireturn, 1) := by decide +kernel
theorem dX8_read_32 : decode cX8_read 32 = .ok (.aload_n 0, 1) := by decide +kernel
theorem dX8_read_33 : decode cX8_read 33 = .ok (.invokevirtual 53, 3) := by decide +kernel
theorem dX8_read_36 : decode cX8_read 36 = .ok (.aload_n 0, 1) := by decide +kernel
theorem dX8_read_37 : decode cX8_read 37 = .ok (.iload_n 1, 1) := by decide +kernel
theorem dX8_read_38 : decode cX8_read 38 = .ok (.invokevirtual 135, 3) := by decide +kernel
theorem dX8_read_41 : decode cX8_read 41 = .ok (.ireturn, 1) := by decide +kernel
theorem dX8_comesAhead_0 : decode cX8_comesAhead 0 = .ok (.aload_n 0, 1) := by decide +kernel
theorem dX8_comesAhead_1 : decode cX8_comesAhead 1 = .ok (.iload_n 1, 1) := by decide +kernel
theorem dX8_comesAhead_2 : decode cX8_comesAhead 2 = .ok (.bipush 6, 2) := by decide +kernel
theorem dX8_comesAhead_4 : decode cX8_comesAhead 4 = .ok (.invokevirtual 62, 3) := by decide +kernel
theorem dX8_comesAhead_7 : decode cX8_comesAhead 7 = .ok (.aload_n 0, 1) := by decide +kernel
theorem dX8_comesAhead_8 : decode cX8_comesAhead 8 = .ok (.iload_n 2, 1) := by decide +kernel
theorem dX8_comesAhead_9 : decode cX8_comesAhead 9 = .ok (.bipush 6, 2) := by decide +kernel
theorem dX8_comesAhead_11 : decode cX8_comesAhead 11 = .ok (.invokevirtual 62, 3) := by decide +kernel
theorem dX8_comesAhead_14 : decode cX8_comesAhead 14 = .ok (.if_icmp .lt 37, 3) := by decide +kernel
theorem dX8_comesAhead_17 : decode cX8_comesAhead 17 = .ok (.aload_n 0, 1) := by decide +kernel
theorem dX8_comesAhead_18 : decode cX8_comesAhead 18 = .ok (.iload_n 1, 1) := by decide +kernel
theorem dX8_comesAhead_19 : decode cX8_comesAhead 19 = .ok (.bipush 6, 2) := by decide +kernel
theorem dX8_comesAhead_21 : decode cX8_comesAhead 21 = .ok (.invokevirtual 62, 3) := by decide +kernel
theorem dX8_comesAhead_24 : decode cX8_comesAhead 24 = .ok (.aload_n 0, 1) := by decide +kernel
theorem dX8_comesAhead_25 : decode cX8_comesAhead 25 = .ok (.iload_n 2, 1) := by decide +kernel
theorem dX8_comesAhead_26 : decode cX8_comesAhead 26 = .ok (.bipush 6, 2) := by decide +kernel
theorem dX8_comesAhead_28 : decode cX8_comesAhead 28 = .ok (.invokevirtual 62, 3) := by decide +kernel
theorem dX8_comesAhead_31 : decode cX8_comesAhead 31 = .ok (.if_icmp .ne 24, 3) := by decide +kernel
theorem dX8_comesAhead_34 : decode cX8_comesAhead 34 = .ok (.aload_n 0, 1) := by decide +kernel
theorem dX8_comesAhead_35 : decode cX8_comesAhead 35 = .ok (.iload_n 1, 1) := by decide +kernel
theorem dX8_comesAhead_36 : decode cX8_comesAhead 36 = .ok (.bipush 7, 2) := by decide +kernel
theorem dX8_comesAhead_38 : decode cX8_comesAhead 38 = .ok (.invokevirtual 62, 3) := by decide +kernel
theorem dX8_comesAhead_41 : decode cX8_comesAhead 41 = .ok (.aload_n 0, 1) := by decide +kernel
theorem dX8_comesAhead_42 : decode cX8_comesAhead 42 = .ok (.iload_n 2, 1) := by decide +kernel
theorem dX8_comesAhead_43 : decode cX8_comesAhead 43 = .ok (.bipush 7, 2) := by decide +kernel
theorem dX8_comesAhead_45 : decode cX8_comesAhead 45 = .ok (.invokevirtual 62, 3) := by decide +kernel
theorem dX8_comesAhead_48 : decode cX8_comesAhead 48 = .ok (.if_icmp .ge 7, 3) := by decide +kernel
theorem dX8_comesAhead_51 : decode cX8_comesAhead 51 = .ok (.iconst 1, 1) := by decide +kernel
theorem dX8_comesAhead_52 : decode cX8_comesAhead 52 = .ok (.goto 4, 3) := by decide +kernel
theorem dX8_comesAhead_55 : decode cX8_comesAhead 55 = .ok (.iconst 0, 1) := by decide +kernel
theorem dX8_comesAhead_56 : decode cX8_comesAhead 56 = .ok (.ireturn, 1) := by decide +kernel
theorem dX8_layOwed_0 : decode cX8_layOwed 0 = .ok (.iconst 0, 1) := by decide +kernel
theorem dX8_layOwed_1 : decode cX8_layOwed 1 = .ok (.istore_n 1, 1) := by decide +kernel
theorem dX8_layOwed_2 : decode cX8_layOwed 2 = .ok (.iconst 0, 1) := by decide +kernel
theorem dX8_layOwed_3 : decode cX8_layOwed 3 = .ok (.istore_n 2, 1) := by decide +kernel
theorem dX8_layOwed_4 : decode cX8_layOwed 4 = .ok (.iload_n 2, 1) := by decide +kernel
theorem dX8_layOwed_5 : decode cX8_layOwed 5 = .ok (.bipush 64, 2) := by decide +kernel
theorem dX8_layOwed_7 : decode cX8_layOwed 7 = .ok (.if_icmp .ge 69, 3) := by decide +kernel
theorem dX8_layOwed_10 : decode cX8_layOwed 10 = .ok (.aload_n 0, 1) := by decide +kernel
theorem dX8_layOwed_11 : decode cX8_layOwed 11 = .ok (.iload_n 2, 1) := by decide +kernel
theorem dX8_layOwed_12 : decode cX8_layOwed 12 = .ok (.invokevirtual 126, 3) := by decide +kernel
theorem dX8_layOwed_15 : decode cX8_layOwed 15 = .ok (.ifCond .eq 55, 3) := by decide +kernel
theorem dX8_layOwed_18 : decode cX8_layOwed 18 = .ok (.iload_n 1, 1) := by decide +kernel
theorem dX8_layOwed_19 : decode cX8_layOwed 19 = .ok (.istore_n 3, 1) := by decide +kernel
theorem dX8_layOwed_20 : decode cX8_layOwed 20 = .ok (.iload_n 3, 1) := by decide +kernel
theorem dX8_layOwed_21 : decode cX8_layOwed 21 = .ok (.ifCond .le 39, 3) := by decide +kernel
theorem dX8_layOwed_24 : decode cX8_layOwed 24 = .ok (.aload_n 0, 1) := by decide +kernel
theorem dX8_layOwed_25 : decode cX8_layOwed 25 = .ok (.iload_n 2, 1) := by decide +kernel
theorem dX8_layOwed_26 : decode cX8_layOwed 26 = .ok (.aload_n 0, 1) := by decide +kernel
theorem dX8_layOwed_27 : decode cX8_layOwed 27 = .ok (.getfield 31, 3) := by decide +kernel
theorem dX8_layOwed_30 : decode cX8_layOwed 30 = .ok (.iload_n 3, 1) := by decide +kernel
theorem dX8_layOwed_31 : decode cX8_layOwed 31 = .ok (.iconst 1, 1) := by decide +kernel
theorem dX8_layOwed_32 : decode cX8_layOwed 32 = .ok (.isub, 1) := by decide +kernel
theorem dX8_layOwed_33 : decode cX8_layOwed 33 = .ok (.iaload, 1) := by decide +kernel
theorem dX8_layOwed_34 : decode cX8_layOwed 34 = .ok (.invokevirtual 138, 3) := by decide +kernel
theorem dX8_layOwed_37 : decode cX8_layOwed 37 = .ok (.ifCond .eq 23, 3) := by decide +kernel
theorem dX8_layOwed_40 : decode cX8_layOwed 40 = .ok (.aload_n 0, 1) := by decide +kernel
theorem dX8_layOwed_41 : decode cX8_layOwed 41 = .ok (.getfield 31, 3) := by decide +kernel
theorem dX8_layOwed_44 : decode cX8_layOwed 44 = .ok (.iload_n 3, 1) := by decide +kernel
theorem dX8_layOwed_45 : decode cX8_layOwed 45 = .ok (.aload_n 0, 1) := by decide +kernel
theorem dX8_layOwed_46 : decode cX8_layOwed 46 = .ok (.getfield 31, 3) := by decide +kernel
theorem dX8_layOwed_49 : decode cX8_layOwed 49 = .ok (.iload_n 3, 1) := by decide +kernel
theorem dX8_layOwed_50 : decode cX8_layOwed 50 = .ok (.iconst 1, 1) := by decide +kernel
theorem dX8_layOwed_51 : decode cX8_layOwed 51 = .ok (.isub, 1) := by decide +kernel
theorem dX8_layOwed_52 : decode cX8_layOwed 52 = .ok (.iaload, 1) := by decide +kernel
theorem dX8_layOwed_53 : decode cX8_layOwed 53 = .ok (.iastore, 1) := by decide +kernel
theorem dX8_layOwed_54 : decode cX8_layOwed 54 = .ok (.iinc 3 (-1), 3) := by decide +kernel
theorem dX8_layOwed_57 : decode cX8_layOwed 57 = .ok (.goto (-37), 3) := by decide +kernel
theorem dX8_layOwed_60 : decode cX8_layOwed 60 = .ok (.aload_n 0, 1) := by decide +kernel
theorem dX8_layOwed_61 : decode cX8_layOwed 61 = .ok (.getfield 31, 3) := by decide +kernel
theorem dX8_layOwed_64 : decode cX8_layOwed 64 = .ok (.iload_n 3, 1) := by decide +kernel
theorem dX8_layOwed_65 : decode cX8_layOwed 65 = .ok (.iload_n 2, 1) := by decide +kernel
theorem dX8_layOwed_66 : decode cX8_layOwed 66 = .ok (.iastore, 1) := by decide +kernel
theorem dX8_layOwed_67 : decode cX8_layOwed 67 = .ok (.iinc 1 1, 3) := by decide +kernel
theorem dX8_layOwed_70 : decode cX8_layOwed 70 = .ok (.iinc 2 1, 3) := by decide +kernel
theorem dX8_layOwed_73 : decode cX8_layOwed 73 = .ok (.goto (-69), 3) := by decide +kernel
theorem dX8_layOwed_76 : decode cX8_layOwed 76 = .ok (.iload_n 1, 1) := by decide +kernel
theorem dX8_layOwed_77 : decode cX8_layOwed 77 = .ok (.ireturn, 1) := by decide +kernel
theorem dX8_owedMany_0 : decode cX8_owedMany 0 = .ok (.iconst 0, 1) := by decide +kernel
theorem dX8_owedMany_1 : decode cX8_owedMany 1 = .ok (.istore_n 1, 1) := by decide +kernel
theorem dX8_owedMany_2 : decode cX8_owedMany 2 = .ok (.iconst 0, 1) := by decide +kernel
theorem dX8_owedMany_3 : decode cX8_owedMany 3 = .ok (.istore_n 2, 1) := by decide +kernel
theorem dX8_owedMany_4 : decode cX8_owedMany 4 = .ok (.iload_n 2, 1) := by decide +kernel
theorem dX8_owedMany_5 : decode cX8_owedMany 5 = .ok (.bipush 64, 2) := by decide +kernel
theorem dX8_owedMany_7 : decode cX8_owedMany 7 = .ok (.if_icmp .ge 25, 3) := by decide +kernel
theorem dX8_owedMany_10 : decode cX8_owedMany 10 = .ok (.iload_n 1, 1) := by decide +kernel
theorem dX8_owedMany_11 : decode cX8_owedMany 11 = .ok (.aload_n 0, 1) := by decide +kernel
theorem dX8_owedMany_12 : decode cX8_owedMany 12 = .ok (.iload_n 2, 1) := by decide +kernel
theorem dX8_owedMany_13 : decode cX8_owedMany 13 = .ok (.invokevirtual 126, 3) := by decide +kernel
theorem dX8_owedMany_16 : decode cX8_owedMany 16 = .ok (.ifCond .eq 7, 3) := by decide +kernel
theorem dX8_owedMany_19 : decode cX8_owedMany 19 = .ok (.iconst 1, 1) := by decide +kernel
theorem dX8_owedMany_20 : decode cX8_owedMany 20 = .ok (.goto 4, 3) := by decide +kernel
theorem dX8_owedMany_23 : decode cX8_owedMany 23 = .ok (.iconst 0, 1) := by decide +kernel
theorem dX8_owedMany_24 : decode cX8_owedMany 24 = .ok (.iadd, 1) := by decide +kernel
theorem dX8_owedMany_25 : decode cX8_owedMany 25 = .ok (.istore_n 1, 1) := by decide +kernel
theorem dX8_owedMany_26 : decode cX8_owedMany 26 = .ok (.iinc 2 1, 3) := by decide +kernel
theorem dX8_owedMany_29 : decode cX8_owedMany 29 = .ok (.goto (-25), 3) := by decide +kernel
theorem dX8_owedMany_32 : decode cX8_owedMany 32 = .ok (.iload_n 1, 1) := by decide +kernel
theorem dX8_owedMany_33 : decode cX8_owedMany 33 = .ok (.ireturn, 1) := by decide +kernel
theorem dX8_writesBack_0 : decode cX8_writesBack 0 = .ok (.aload_n 0, 1) := by decide +kernel
theorem dX8_writesBack_1 : decode cX8_writesBack 1 = .ok (.invokevirtual 141, 3) := by decide +kernel
theorem dX8_writesBack_4 : decode cX8_writesBack 4 = .ok (.pop, 1) := by decide +kernel
theorem dX8_writesBack_5 : decode cX8_writesBack 5 = .ok (.aload_n 0, 1) := by decide +kernel
theorem dX8_writesBack_6 : decode cX8_writesBack 6 = .ok (.getfield 31, 3) := by decide +kernel
theorem dX8_writesBack_9 : decode cX8_writesBack 9 = .ok (.iconst 0, 1) := by decide +kernel
theorem dX8_writesBack_10 : decode cX8_writesBack 10 = .ok (.iaload, 1) := by decide +kernel
theorem dX8_writesBack_11 : decode cX8_writesBack 11 = .ok (.istore_n 1, 1) := by decide +kernel
theorem dX8_writesBack_12 : decode cX8_writesBack 12 = .ok (.aload_n 0, 1) := by decide +kernel
theorem dX8_writesBack_13 : decode cX8_writesBack 13 = .ok (.iload_n 1, 1) := by decide +kernel
theorem dX8_writesBack_14 : decode cX8_writesBack 14 = .ok (.bipush 6, 2) := by decide +kernel
theorem dX8_writesBack_16 : decode cX8_writesBack 16 = .ok (.iconst 0, 1) := by decide +kernel
theorem dX8_writesBack_17 : decode cX8_writesBack 17 = .ok (.invokevirtual 34, 3) := by decide +kernel
theorem dX8_writesBack_20 : decode cX8_writesBack 20 = .ok (.aload_n 0, 1) := by decide +kernel
theorem dX8_writesBack_21 : decode cX8_writesBack 21 = .ok (.iload_n 1, 1) := by decide +kernel
theorem dX8_writesBack_22 : decode cX8_writesBack 22 = .ok (.aload_n 0, 1) := by decide +kernel
theorem dX8_writesBack_23 : decode cX8_writesBack 23 = .ok (.iconst 1, 1) := by decide +kernel
theorem dX8_writesBack_24 : decode cX8_writesBack 24 = .ok (.invokevirtual 59, 3) := by decide +kernel
theorem dX8_writesBack_27 : decode cX8_writesBack 27 = .ok (.invokevirtual 122, 3) := by decide +kernel
theorem dX8_writesBack_30 : decode cX8_writesBack 30 = .ok (.aload_n 0, 1) := by decide +kernel
theorem dX8_writesBack_31 : decode cX8_writesBack 31 = .ok (.iload_n 1, 1) := by decide +kernel
theorem dX8_writesBack_32 : decode cX8_writesBack 32 = .ok (.iconst 1, 1) := by decide +kernel
theorem dX8_writesBack_33 : decode cX8_writesBack 33 = .ok (.invokevirtual 62, 3) := by decide +kernel
theorem dX8_writesBack_36 : decode cX8_writesBack 36 = .ok (.aload_n 0, 1) := by decide +kernel
theorem dX8_writesBack_37 : decode cX8_writesBack 37 = .ok (.iconst 4, 1) := by decide +kernel
theorem dX8_writesBack_38 : decode cX8_writesBack 38 = .ok (.invokevirtual 59, 3) := by decide +kernel
theorem dX8_writesBack_41 : decode cX8_writesBack 41 = .ok (.if_icmp .lt 24, 3) := by decide +kernel
theorem dX8_writesBack_44 : decode cX8_writesBack 44 = .ok (.aload_n 0, 1) := by decide +kernel
theorem dX8_writesBack_45 : decode cX8_writesBack 45 = .ok (.iload_n 1, 1) := by decide +kernel
theorem dX8_writesBack_46 : decode cX8_writesBack 46 = .ok (.iconst 0, 1) := by decide +kernel
theorem dX8_writesBack_47 : decode cX8_writesBack 47 = .ok (.iconst 1, 1) := by decide +kernel
theorem dX8_writesBack_48 : decode cX8_writesBack 48 = .ok (.invokevirtual 34, 3) := by decide +kernel
theorem dX8_writesBack_51 : decode cX8_writesBack 51 = .ok (.aload_n 0, 1) := by decide +kernel
theorem dX8_writesBack_52 : decode cX8_writesBack 52 = .ok (.getfield 7, 3) := by decide +kernel
theorem dX8_writesBack_55 : decode cX8_writesBack 55 = .ok (.bipush 6, 2) := by decide +kernel
theorem dX8_writesBack_57 : decode cX8_writesBack 57 = .ok (.dup2, 1) := by decide +kernel
theorem dX8_writesBack_58 : decode cX8_writesBack 58 = .ok (.iaload, 1) := by decide +kernel
theorem dX8_writesBack_59 : decode cX8_writesBack 59 = .ok (.iconst 1, 1) := by decide +kernel
theorem dX8_writesBack_60 : decode cX8_writesBack 60 = .ok (.iadd, 1) := by decide +kernel
theorem dX8_writesBack_61 : decode cX8_writesBack 61 = .ok (.iastore, 1) := by decide +kernel
theorem dX8_writesBack_62 : decode cX8_writesBack 62 = .ok (.goto 19, 3) := by decide +kernel
theorem dX8_writesBack_65 : decode cX8_writesBack 65 = .ok (.aload_n 0, 1) := by decide +kernel
theorem dX8_writesBack_66 : decode cX8_writesBack 66 = .ok (.getfield 7, 3) := by decide +kernel
theorem dX8_writesBack_69 : decode cX8_writesBack 69 = .ok (.bipush 7, 2) := by decide +kernel
theorem dX8_writesBack_71 : decode cX8_writesBack 71 = .ok (.dup2, 1) := by decide +kernel
theorem dX8_writesBack_72 : decode cX8_writesBack 72 = .ok (.iaload, 1) := by decide +kernel
theorem dX8_writesBack_73 : decode cX8_writesBack 73 = .ok (.iconst 1, 1) := by decide +kernel
theorem dX8_writesBack_74 : decode cX8_writesBack 74 = .ok (.iadd, 1) := by decide +kernel
theorem dX8_writesBack_75 : decode cX8_writesBack 75 = .ok (.iastore, 1) := by decide +kernel
theorem dX8_writesBack_76 : decode cX8_writesBack 76 = .ok (.aload_n 0, 1) := by decide +kernel
theorem dX8_writesBack_77 : decode cX8_writesBack 77 = .ok (.iload_n 1, 1) := by decide +kernel
theorem dX8_writesBack_78 : decode cX8_writesBack 78 = .ok (.invokevirtual 116, 3) := by decide +kernel
theorem dX8_writesBack_81 : decode cX8_writesBack 81 = .ok (.iload_n 1, 1) := by decide +kernel
theorem dX8_writesBack_82 : decode cX8_writesBack 82 = .ok (.ireturn, 1) := by decide +kernel
theorem dX8_writeBack_0 : decode cX8_writeBack 0 = .ok (.aload_n 0, 1) := by decide +kernel
theorem dX8_writeBack_1 : decode cX8_writeBack 1 = .ok (.iconst 0, 1) := by decide +kernel
theorem dX8_writeBack_2 : decode cX8_writeBack 2 = .ok (.putfield 38, 3) := by decide +kernel
theorem dX8_writeBack_5 : decode cX8_writeBack 5 = .ok (.aload_n 0, 1) := by decide +kernel
theorem dX8_writeBack_6 : decode cX8_writeBack 6 = .ok (.invokevirtual 145, 3) := by decide +kernel
theorem dX8_writeBack_9 : decode cX8_writeBack 9 = .ok (.ifCond .ne 9, 3) := by decide +kernel
theorem dX8_writeBack_12 : decode cX8_writeBack 12 = .ok (.aload_n 0, 1) := by decide +kernel
theorem dX8_writeBack_13 : decode cX8_writeBack 13 = .ok (.iconst 1, 1) := by decide +kernel
theorem dX8_writeBack_14 : decode cX8_writeBack 14 = .ok (.invokevirtual 49, 3) := by decide +kernel
theorem dX8_writeBack_17 : decode cX8_writeBack 17 = .ok (.ireturn, 1) := by decide +kernel
theorem dX8_writeBack_18 : decode cX8_writeBack 18 = .ok (.aload_n 0, 1) := by decide +kernel
theorem dX8_writeBack_19 : decode cX8_writeBack 19 = .ok (.invokevirtual 53, 3) := by decide +kernel
theorem dX8_writeBack_22 : decode cX8_writeBack 22 = .ok (.aload_n 0, 1) := by decide +kernel
theorem dX8_writeBack_23 : decode cX8_writeBack 23 = .ok (.invokevirtual 148, 3) := by decide +kernel
theorem dX8_writeBack_26 : decode cX8_writeBack 26 = .ok (.ireturn, 1) := by decide +kernel
theorem dX8_endPolicies_0 : decode cX8_endPolicies 0 = .ok (.iconst 0, 1) := by decide +kernel
theorem dX8_endPolicies_1 : decode cX8_endPolicies 1 = .ok (.istore_n 1, 1) := by decide +kernel
theorem dX8_endPolicies_2 : decode cX8_endPolicies 2 = .ok (.iload_n 1, 1) := by decide +kernel
theorem dX8_endPolicies_3 : decode cX8_endPolicies 3 = .ok (.bipush 64, 2) := by decide +kernel
theorem dX8_endPolicies_5 : decode cX8_endPolicies 5 = .ok (.if_icmp .ge 57, 3) := by decide +kernel
theorem dX8_endPolicies_8 : decode cX8_endPolicies 8 = .ok (.aload_n 0, 1) := by decide +kernel
theorem dX8_endPolicies_9 : decode cX8_endPolicies 9 = .ok (.iload_n 1, 1) := by decide +kernel
theorem dX8_endPolicies_10 : decode cX8_endPolicies 10 = .ok (.iconst 4, 1) := by decide +kernel
theorem dX8_endPolicies_11 : decode cX8_endPolicies 11 = .ok (.invokevirtual 62, 3) := by decide +kernel
theorem dX8_endPolicies_14 : decode cX8_endPolicies 14 = .ok (.ifCond .le 42, 3) := by decide +kernel
theorem dX8_endPolicies_17 : decode cX8_endPolicies 17 = .ok (.aload_n 0, 1) := by decide +kernel
theorem dX8_endPolicies_18 : decode cX8_endPolicies 18 = .ok (.iload_n 1, 1) := by decide +kernel
theorem dX8_endPolicies_19 : decode cX8_endPolicies 19 = .ok (.iconst 5, 1) := by decide +kernel
theorem dX8_endPolicies_20 : decode cX8_endPolicies 20 = .ok (.aload_n 0, 1) := by decide +kernel
theorem dX8_endPolicies_21 : decode cX8_endPolicies 21 = .ok (.iload_n 1, 1) := by decide +kernel
theorem dX8_endPolicies_22 : decode cX8_endPolicies 22 = .ok (.iconst 5, 1) := by decide +kernel
theorem dX8_endPolicies_23 : decode cX8_endPolicies 23 = .ok (.invokevirtual 62, 3) := by decide +kernel
theorem dX8_endPolicies_26 : decode cX8_endPolicies 26 = .ok (.iconst 1, 1) := by decide +kernel
theorem dX8_endPolicies_27 : decode cX8_endPolicies 27 = .ok (.isub, 1) := by decide +kernel
theorem dX8_endPolicies_28 : decode cX8_endPolicies 28 = .ok (.invokevirtual 34, 3) := by decide +kernel
theorem dX8_endPolicies_31 : decode cX8_endPolicies 31 = .ok (.aload_n 0, 1) := by decide +kernel
theorem dX8_endPolicies_32 : decode cX8_endPolicies 32 = .ok (.iload_n 1, 1) := by decide +kernel
theorem dX8_endPolicies_33 : decode cX8_endPolicies 33 = .ok (.iconst 4, 1) := by decide +kernel
theorem dX8_endPolicies_34 : decode cX8_endPolicies 34 = .ok (.aload_n 0, 1) := by decide +kernel
theorem dX8_endPolicies_35 : decode cX8_endPolicies 35 = .ok (.iload_n 1, 1) := by decide +kernel
theorem dX8_endPolicies_36 : decode cX8_endPolicies 36 = .ok (.iconst 5, 1) := by decide +kernel
theorem dX8_endPolicies_37 : decode cX8_endPolicies 37 = .ok (.invokevirtual 62, 3) := by decide +kernel
theorem dX8_endPolicies_40 : decode cX8_endPolicies 40 = .ok (.ifCond .ne 7, 3) := by decide +kernel
theorem dX8_endPolicies_43 : decode cX8_endPolicies 43 = .ok (.iconst 0, 1) := by decide +kernel
theorem dX8_endPolicies_44 : decode cX8_endPolicies 44 = .ok (.goto 9, 3) := by decide +kernel
theorem dX8_endPolicies_47 : decode cX8_endPolicies 47 = .ok (.aload_n 0, 1) := by decide +kernel
theorem dX8_endPolicies_48 : decode cX8_endPolicies 48 = .ok (.iload_n 1, 1) := by decide +kernel
theorem dX8_endPolicies_49 : decode cX8_endPolicies 49 = .ok (.iconst 4, 1) := by decide +kernel
theorem dX8_endPolicies_50 : decode cX8_endPolicies 50 = .ok (.invokevirtual 62, 3) := by decide +kernel
theorem dX8_endPolicies_53 : decode cX8_endPolicies 53 = .ok (.invokevirtual 34, 3) := by decide +kernel
theorem dX8_endPolicies_56 : decode cX8_endPolicies 56 = .ok (.iinc 1 1, 3) := by decide +kernel
theorem dX8_endPolicies_59 : decode cX8_endPolicies 59 = .ok (.goto (-57), 3) := by decide +kernel
theorem dX8_endPolicies_62 : decode cX8_endPolicies 62 = .ok (.return_, 1) := by decide +kernel
theorem dX8_endLeases_0 : decode cX8_endLeases 0 = .ok (.iconst 0, 1) := by decide +kernel
theorem dX8_endLeases_1 : decode cX8_endLeases 1 = .ok (.istore_n 1, 1) := by decide +kernel
theorem dX8_endLeases_2 : decode cX8_endLeases 2 = .ok (.iload_n 1, 1) := by decide +kernel
theorem dX8_endLeases_3 : decode cX8_endLeases 3 = .ok (.bipush 64, 2) := by decide +kernel
theorem dX8_endLeases_5 : decode cX8_endLeases 5 = .ok (.if_icmp .ge 78, 3) := by decide +kernel
theorem dX8_endLeases_8 : decode cX8_endLeases 8 = .ok (.aload_n 0, 1) := by decide +kernel
theorem dX8_endLeases_9 : decode cX8_endLeases 9 = .ok (.iload_n 1, 1) := by decide +kernel
theorem dX8_endLeases_10 : decode cX8_endLeases 10 = .ok (.invokevirtual 76, 3) := by decide +kernel
theorem dX8_endLeases_13 : decode cX8_endLeases 13 = .ok (.ifCond .eq 64, 3) := by decide +kernel
theorem dX8_endLeases_16 : decode cX8_endLeases 16 = .ok (.aload_n 0, 1) := by decide +kernel
theorem dX8_endLeases_17 : decode cX8_endLeases 17 = .ok (.iload_n 1, 1) := by decide +kernel
theorem dX8_endLeases_18 : decode cX8_endLeases 18 = .ok (.iconst 3, 1) := by decide +kernel
theorem dX8_endLeases_19 : decode cX8_endLeases 19 = .ok (.aload_n 0, 1) := by decide +kernel
theorem dX8_endLeases_20 : decode cX8_endLeases 20 = .ok (.iload_n 1, 1) := by decide +kernel
theorem dX8_endLeases_21 : decode cX8_endLeases 21 = .ok (.iconst 3, 1) := by decide +kernel
theorem dX8_endLeases_22 : decode cX8_endLeases 22 = .ok (.invokevirtual 62, 3) := by decide +kernel
theorem dX8_endLeases_25 : decode cX8_endLeases 25 = .ok (.iconst 1, 1) := by decide +kernel
theorem dX8_endLeases_26 : decode cX8_endLeases 26 = .ok (.isub, 1) := by decide +kernel
theorem dX8_endLeases_27 : decode cX8_endLeases 27 = .ok (.invokevirtual 34, 3) := by decide +kernel
theorem dX8_endLeases_30 : decode cX8_endLeases 30 = .ok (.aload_n 0, 1) := by decide +kernel
theorem dX8_endLeases_31 : decode cX8_endLeases 31 = .ok (.iload_n 1, 1) := by decide +kernel
theorem dX8_endLeases_32 : decode cX8_endLeases 32 = .ok (.iconst 3, 1) := by decide +kernel
theorem dX8_endLeases_33 : decode cX8_endLeases 33 = .ok (.invokevirtual 62, 3) := by decide +kernel
theorem dX8_endLeases_36 : decode cX8_endLeases 36 = .ok (.ifCond .ne 41, 3) := by decide +kernel
theorem dX8_endLeases_39 : decode cX8_endLeases 39 = .ok (.aload_n 0, 1) := by decide +kernel
theorem dX8_endLeases_40 : decode cX8_endLeases 40 = .ok (.iload_n 1, 1) := by decide +kernel
theorem dX8_endLeases_41 : decode cX8_endLeases 41 = .ok (.iconst 2, 1) := by decide +kernel
theorem dX8_endLeases_42 : decode cX8_endLeases 42 = .ok (.iconst 0, 1) := by decide +kernel
theorem dX8_endLeases_43 : decode cX8_endLeases 43 = .ok (.invokevirtual 34, 3) := by decide +kernel
theorem dX8_endLeases_46 : decode cX8_endLeases 46 = .ok (.aload_n 0, 1) := by decide +kernel
theorem dX8_endLeases_47 : decode cX8_endLeases 47 = .ok (.getfield 7, 3) := by decide +kernel
theorem dX8_endLeases_50 : decode cX8_endLeases 50 = .ok (.bipush 11, 2) := by decide +kernel
theorem dX8_endLeases_52 : decode cX8_endLeases 52 = .ok (.dup2, 1) := by decide +kernel
theorem dX8_endLeases_53 : decode cX8_endLeases 53 = .ok (.iaload, 1) := by decide +kernel
theorem dX8_endLeases_54 : decode cX8_endLeases 54 = .ok (.aload_n 0, 1) := by decide +kernel
theorem dX8_endLeases_55 : decode cX8_endLeases 55 = .ok (.iload_n 1, 1) := by decide +kernel
theorem dX8_endLeases_56 : decode cX8_endLeases 56 = .ok (.invokevirtual 126, 3) := by decide +kernel
theorem dX8_endLeases_59 : decode cX8_endLeases 59 = .ok (.ifCond .eq 7, 3) := by decide +kernel
theorem dX8_endLeases_62 : decode cX8_endLeases 62 = .ok (.iconst 1, 1) := by decide +kernel
theorem dX8_endLeases_63 : decode cX8_endLeases 63 = .ok (.goto 4, 3) := by decide +kernel
theorem dX8_endLeases_66 : decode cX8_endLeases 66 = .ok (.iconst 0, 1) := by decide +kernel
theorem dX8_endLeases_67 : decode cX8_endLeases 67 = .ok (.iadd, 1) := by decide +kernel
theorem dX8_endLeases_68 : decode cX8_endLeases 68 = .ok (.iastore, 1) := by decide +kernel
theorem dX8_endLeases_69 : decode cX8_endLeases 69 = .ok (.aload_n 0, 1) := by decide +kernel
theorem dX8_endLeases_70 : decode cX8_endLeases 70 = .ok (.iload_n 1, 1) := by decide +kernel
theorem dX8_endLeases_71 : decode cX8_endLeases 71 = .ok (.bipush 6, 2) := by decide +kernel
theorem dX8_endLeases_73 : decode cX8_endLeases 73 = .ok (.iconst 0, 1) := by decide +kernel
theorem dX8_endLeases_74 : decode cX8_endLeases 74 = .ok (.invokevirtual 34, 3) := by decide +kernel
theorem dX8_endLeases_77 : decode cX8_endLeases 77 = .ok (.iinc 1 1, 3) := by decide +kernel
theorem dX8_endLeases_80 : decode cX8_endLeases 80 = .ok (.goto (-78), 3) := by decide +kernel
theorem dX8_endLeases_83 : decode cX8_endLeases 83 = .ok (.return_, 1) := by decide +kernel
theorem dX8_tick_0 : decode cX8_tick 0 = .ok (.aload_n 0, 1) := by decide +kernel
theorem dX8_tick_1 : decode cX8_tick 1 = .ok (.getfield 7, 3) := by decide +kernel
theorem dX8_tick_4 : decode cX8_tick 4 = .ok (.iconst 0, 1) := by decide +kernel
theorem dX8_tick_5 : decode cX8_tick 5 = .ok (.dup2, 1) := by decide +kernel
theorem dX8_tick_6 : decode cX8_tick 6 = .ok (.iaload, 1) := by decide +kernel
theorem dX8_tick_7 : decode cX8_tick 7 = .ok (.iconst 1, 1) := by decide +kernel
theorem dX8_tick_8 : decode cX8_tick 8 = .ok (.iadd, 1) := by decide +kernel
theorem dX8_tick_9 : decode cX8_tick 9 = .ok (.iastore, 1) := by decide +kernel
theorem dX8_tick_10 : decode cX8_tick 10 = .ok (.aload_n 0, 1) := by decide +kernel
theorem dX8_tick_11 : decode cX8_tick 11 = .ok (.getfield 7, 3) := by decide +kernel
theorem dX8_tick_14 : decode cX8_tick 14 = .ok (.iconst 1, 1) := by decide +kernel
theorem dX8_tick_15 : decode cX8_tick 15 = .ok (.aload_n 0, 1) := by decide +kernel
theorem dX8_tick_16 : decode cX8_tick 16 = .ok (.getfield 7, 3) := by decide +kernel
theorem dX8_tick_19 : decode cX8_tick 19 = .ok (.iconst 1, 1) := by decide +kernel
theorem dX8_tick_20 : decode cX8_tick 20 = .ok (.iaload, 1) := by decide +kernel
theorem dX8_tick_21 : decode cX8_tick 21 = .ok (.aload_n 0, 1) := by decide +kernel
theorem dX8_tick_22 : decode cX8_tick 22 = .ok (.bipush 6, 2) := by decide +kernel
theorem dX8_tick_24 : decode cX8_tick 24 = .ok (.invokevirtual 59, 3) := by decide +kernel
theorem dX8_tick_27 : decode cX8_tick 27 = .ok (.isub, 1) := by decide +kernel
theorem dX8_tick_28 : decode cX8_tick 28 = .ok (.invokestatic 100, 3) := by decide +kernel
theorem dX8_tick_31 : decode cX8_tick 31 = .ok (.iastore, 1) := by decide +kernel
theorem dX8_tick_32 : decode cX8_tick 32 = .ok (.aload_n 0, 1) := by decide +kernel
theorem dX8_tick_33 : decode cX8_tick 33 = .ok (.invokevirtual 141, 3) := by decide +kernel
theorem dX8_tick_36 : decode cX8_tick 36 = .ok (.istore_n 1, 1) := by decide +kernel
theorem dX8_tick_37 : decode cX8_tick 37 = .ok (.iconst 0, 1) := by decide +kernel
theorem dX8_tick_38 : decode cX8_tick 38 = .ok (.istore_n 2, 1) := by decide +kernel
theorem dX8_tick_39 : decode cX8_tick 39 = .ok (.iload_n 2, 1) := by decide +kernel
theorem dX8_tick_40 : decode cX8_tick 40 = .ok (.iload_n 1, 1) := by decide +kernel
theorem dX8_tick_41 : decode cX8_tick 41 = .ok (.if_icmp .ge 58, 3) := by decide +kernel
theorem dX8_tick_44 : decode cX8_tick 44 = .ok (.aload_n 0, 1) := by decide +kernel
theorem dX8_tick_45 : decode cX8_tick 45 = .ok (.getfield 31, 3) := by decide +kernel
theorem dX8_tick_48 : decode cX8_tick 48 = .ok (.iload_n 2, 1) := by decide +kernel
theorem dX8_tick_49 : decode cX8_tick 49 = .ok (.iaload, 1) := by decide +kernel
theorem dX8_tick_50 : decode cX8_tick 50 = .ok (.istore_n 3, 1) := by decide +kernel
theorem dX8_tick_51 : decode cX8_tick 51 = .ok (.aload_n 0, 1) := by decide +kernel
theorem dX8_tick_52 : decode cX8_tick 52 = .ok (.iload_n 3, 1) := by decide +kernel
theorem dX8_tick_53 : decode cX8_tick 53 = .ok (.bipush 6, 2) := by decide +kernel
theorem dX8_tick_55 : decode cX8_tick 55 = .ok (.invokevirtual 62, 3) := by decide +kernel
theorem dX8_tick_58 : decode cX8_tick 58 = .ok (.iconst 1, 1) := by decide +kernel
theorem dX8_tick_59 : decode cX8_tick 59 = .ok (.isub, 1) := by decide +kernel
theorem dX8_tick_60 : decode cX8_tick 60 = .ok (.aload_n 0, 1) := by decide +kernel
theorem dX8_tick_61 : decode cX8_tick 61 = .ok (.getfield 7, 3) := by decide +kernel
theorem dX8_tick_64 : decode cX8_tick 64 = .ok (.iconst 0, 1) := by decide +kernel
theorem dX8_tick_65 : decode cX8_tick 65 = .ok (.iaload, 1) := by decide +kernel
theorem dX8_tick_66 : decode cX8_tick 66 = .ok (.if_icmp .ge 27, 3) := by decide +kernel
theorem dX8_tick_69 : decode cX8_tick 69 = .ok (.aload_n 0, 1) := by decide +kernel
theorem dX8_tick_70 : decode cX8_tick 70 = .ok (.iload_n 3, 1) := by decide +kernel
theorem dX8_tick_71 : decode cX8_tick 71 = .ok (.bipush 6, 2) := by decide +kernel
theorem dX8_tick_73 : decode cX8_tick 73 = .ok (.iconst 0, 1) := by decide +kernel
theorem dX8_tick_74 : decode cX8_tick 74 = .ok (.invokevirtual 34, 3) := by decide +kernel
theorem dX8_tick_77 : decode cX8_tick 77 = .ok (.aload_n 0, 1) := by decide +kernel
theorem dX8_tick_78 : decode cX8_tick 78 = .ok (.getfield 7, 3) := by decide +kernel
theorem dX8_tick_81 : decode cX8_tick 81 = .ok (.bipush 8, 2) := by decide +kernel
theorem dX8_tick_83 : decode cX8_tick 83 = .ok (.dup2, 1) := by decide +kernel
theorem dX8_tick_84 : decode cX8_tick 84 = .ok (.iaload, 1) := by decide +kernel
theorem dX8_tick_85 : decode cX8_tick 85 = .ok (.iconst 1, 1) := by decide +kernel
theorem dX8_tick_86 : decode cX8_tick 86 = .ok (.iadd, 1) := by decide +kernel
theorem dX8_tick_87 : decode cX8_tick 87 = .ok (.iastore, 1) := by decide +kernel
theorem dX8_tick_88 : decode cX8_tick 88 = .ok (.aload_n 0, 1) := by decide +kernel
theorem dX8_tick_89 : decode cX8_tick 89 = .ok (.iload_n 3, 1) := by decide +kernel
theorem dX8_tick_90 : decode cX8_tick 90 = .ok (.invokevirtual 116, 3) := by decide +kernel
theorem dX8_tick_93 : decode cX8_tick 93 = .ok (.iinc 2 1, 3) := by decide +kernel
theorem dX8_tick_96 : decode cX8_tick 96 = .ok (.goto (-57), 3) := by decide +kernel
theorem dX8_tick_99 : decode cX8_tick 99 = .ok (.aload_n 0, 1) := by decide +kernel
theorem dX8_tick_100 : decode cX8_tick 100 = .ok (.invokevirtual 151, 3) := by decide +kernel
theorem dX8_tick_103 : decode cX8_tick 103 = .ok (.aload_n 0, 1) := by decide +kernel
theorem dX8_tick_104 : decode cX8_tick 104 = .ok (.invokevirtual 154, 3) := by decide +kernel
theorem dX8_tick_107 : decode cX8_tick 107 = .ok (.return_, 1) := by decide +kernel
theorem dX8_pass_0 : decode cX8_pass 0 = .ok (.aload_n 0, 1) := by decide +kernel
theorem dX8_pass_1 : decode cX8_pass 1 = .ok (.iconst 0, 1) := by decide +kernel
theorem dX8_pass_2 : decode cX8_pass 2 = .ok (.putfield 38, 3) := by decide +kernel
theorem dX8_pass_5 : decode cX8_pass 5 = .ok (.iload_n 1, 1) := by decide +kernel
theorem dX8_pass_6 : decode cX8_pass 6 = .ok (.iconst 1, 1) := by decide +kernel
theorem dX8_pass_7 : decode cX8_pass 7 = .ok (.bipush 100, 2) := by decide +kernel
theorem dX8_pass_9 : decode cX8_pass 9 = .ok (.invokestatic 42, 3) := by decide +kernel
theorem dX8_pass_12 : decode cX8_pass 12 = .ok (.ifCond .ne 9, 3) := by decide +kernel
theorem dX8_pass_15 : decode cX8_pass 15 = .ok (.aload_n 0, 1) := by decide +kernel
theorem dX8_pass_16 : decode cX8_pass 16 = .ok (.iconst 1, 1) := by decide +kernel
theorem dX8_pass_17 : decode cX8_pass 17 = .ok (.invokevirtual 49, 3) := by decide +kernel
theorem dX8_pass_20 : decode cX8_pass 20 = .ok (.ireturn, 1) := by decide +kernel
theorem dX8_pass_21 : decode cX8_pass 21 = .ok (.aload_n 0, 1) := by decide +kernel
theorem dX8_pass_22 : decode cX8_pass 22 = .ok (.getfield 7, 3) := by decide +kernel
theorem dX8_pass_25 : decode cX8_pass 25 = .ok (.iconst 0, 1) := by decide +kernel
theorem dX8_pass_26 : decode cX8_pass 26 = .ok (.iaload, 1) := by decide +kernel
theorem dX8_pass_27 : decode cX8_pass 27 = .ok (.iload_n 1, 1) := by decide +kernel
theorem dX8_pass_28 : decode cX8_pass 28 = .ok (.iadd, 1) := by decide +kernel
theorem dX8_pass_29 : decode cX8_pass 29 = .ok (.sipush 10000, 3) := by decide +kernel
theorem dX8_pass_32 : decode cX8_pass 32 = .ok (.if_icmp .le 9, 3) := by decide +kernel
theorem dX8_pass_35 : decode cX8_pass 35 = .ok (.aload_n 0, 1) := by decide +kernel
theorem dX8_pass_36 : decode cX8_pass 36 = .ok (.iconst 2, 1) := by decide +kernel
theorem dX8_pass_37 : decode cX8_pass 37 = .ok (.invokevirtual 49, 3) := by decide +kernel
theorem dX8_pass_40 : decode cX8_pass 40 = .ok (.ireturn, 1) := by decide +kernel
theorem dX8_pass_41 : decode cX8_pass 41 = .ok (.aload_n 0, 1) := by decide +kernel
theorem dX8_pass_42 : decode cX8_pass 42 = .ok (.invokevirtual 53, 3) := by decide +kernel
theorem dX8_pass_45 : decode cX8_pass 45 = .ok (.iconst 0, 1) := by decide +kernel
theorem dX8_pass_46 : decode cX8_pass 46 = .ok (.istore_n 2, 1) := by decide +kernel
theorem dX8_pass_47 : decode cX8_pass 47 = .ok (.iload_n 2, 1) := by decide +kernel
theorem dX8_pass_48 : decode cX8_pass 48 = .ok (.iload_n 1, 1) := by decide +kernel
theorem dX8_pass_49 : decode cX8_pass 49 = .ok (.if_icmp .ge 13, 3) := by decide +kernel
theorem dX8_pass_52 : decode cX8_pass 52 = .ok (.aload_n 0, 1) := by decide +kernel
theorem dX8_pass_53 : decode cX8_pass 53 = .ok (.invokevirtual 157, 3) := by decide +kernel
theorem dX8_pass_56 : decode cX8_pass 56 = .ok (.iinc 2 1, 3) := by decide +kernel
theorem dX8_pass_59 : decode cX8_pass 59 = .ok (.goto (-12), 3) := by decide +kernel
theorem dX8_pass_62 : decode cX8_pass 62 = .ok (.aload_n 0, 1) := by decide +kernel
theorem dX8_pass_63 : decode cX8_pass 63 = .ok (.getfield 7, 3) := by decide +kernel
theorem dX8_pass_66 : decode cX8_pass 66 = .ok (.iconst 1, 1) := by decide +kernel
theorem dX8_pass_67 : decode cX8_pass 67 = .ok (.iaload, 1) := by decide +kernel
theorem dX8_pass_68 : decode cX8_pass 68 = .ok (.ireturn, 1) := by decide +kernel
theorem dX8_append_0 : decode cX8_append 0 = .ok (.aload_n 0, 1) := by decide +kernel
theorem dX8_append_1 : decode cX8_append 1 = .ok (.iconst 0, 1) := by decide +kernel
theorem dX8_append_2 : decode cX8_append 2 = .ok (.putfield 38, 3) := by decide +kernel
theorem dX8_append_5 : decode cX8_append 5 = .ok (.iload_n 1, 1) := by decide +kernel
theorem dX8_append_6 : decode cX8_append 6 = .ok (.bipush 33, 2) := by decide +kernel
theorem dX8_append_8 : decode cX8_append 8 = .ok (.bipush 126, 2) := by decide +kernel
theorem dX8_append_10 : decode cX8_append 10 = .ok (.invokestatic 42, 3) := by decide +kernel
theorem dX8_append_13 : decode cX8_append 13 = .ok (.ifCond .ne 9, 3) := by decide +kernel
theorem dX8_append_16 : decode cX8_append 16 = .ok (.aload_n 0, 1) := by decide +kernel
theorem dX8_append_17 : decode cX8_append 17 = .ok (.iconst 1, 1) := by decide +kernel
theorem dX8_append_18 : decode cX8_append 18 = .ok (.invokevirtual 49, 3) := by decide +kernel
theorem dX8_append_21 : decode cX8_append 21 = .ok (.ireturn, 1) := by decide +kernel
theorem dX8_append_22 : decode cX8_append 22 = .ok (.aload_n 0, 1) := by decide +kernel
theorem dX8_append_23 : decode cX8_append 23 = .ok (.getfield 160, 3) := by decide +kernel
theorem dX8_append_26 : decode cX8_append 26 = .ok (.bipush 60, 2) := by decide +kernel
theorem dX8_append_28 : decode cX8_append 28 = .ok (.if_icmp .ne 9, 3) := by decide +kernel
theorem dX8_append_31 : decode cX8_append 31 = .ok (.aload_n 0, 1) := by decide +kernel
theorem dX8_append_32 : decode cX8_append 32 = .ok (.iconst 2, 1) := by decide +kernel
theorem dX8_append_33 : decode cX8_append 33 = .ok (.invokevirtual 49, 3) := by decide +kernel
theorem dX8_append_36 : decode cX8_append 36 = .ok (.ireturn, 1) := by decide +kernel
theorem dX8_append_37 : decode cX8_append 37 = .ok (.aload_n 0, 1) := by decide +kernel
theorem dX8_append_38 : decode cX8_append 38 = .ok (.getfield 19, 3) := by decide +kernel
theorem dX8_append_41 : decode cX8_append 41 = .ok (.aload_n 0, 1) := by decide +kernel
theorem dX8_append_42 : decode cX8_append 42 = .ok (.getfield 160, 3) := by decide +kernel
theorem dX8_append_45 : decode cX8_append 45 = .ok (.iload_n 1, 1) := by decide +kernel
theorem dX8_append_46 : decode cX8_append 46 = .ok (.iastore, 1) := by decide +kernel
theorem dX8_append_47 : decode cX8_append 47 = .ok (.aload_n 0, 1) := by decide +kernel
theorem dX8_append_48 : decode cX8_append 48 = .ok (.dup, 1) := by decide +kernel
theorem dX8_append_49 : decode cX8_append 49 = .ok (.getfield 160, 3) := by decide +kernel
theorem dX8_append_52 : decode cX8_append 52 = .ok (.iconst 1, 1) := by decide +kernel
theorem dX8_append_53 : decode cX8_append 53 = .ok (.iadd, 1) := by decide +kernel
theorem dX8_append_54 : decode cX8_append 54 = .ok (.putfield 160, 3) := by decide +kernel
theorem dX8_append_57 : decode cX8_append 57 = .ok (.aload_n 0, 1) := by decide +kernel
theorem dX8_append_58 : decode cX8_append 58 = .ok (.getfield 160, 3) := by decide +kernel
theorem dX8_append_61 : decode cX8_append 61 = .ok (.ireturn, 1) := by decide +kernel
theorem dX8_clearBuffer_0 : decode cX8_clearBuffer 0 = .ok (.aload_n 0, 1) := by decide +kernel
theorem dX8_clearBuffer_1 : decode cX8_clearBuffer 1 = .ok (.iconst 0, 1) := by decide +kernel
theorem dX8_clearBuffer_2 : decode cX8_clearBuffer 2 = .ok (.putfield 38, 3) := by decide +kernel
theorem dX8_clearBuffer_5 : decode cX8_clearBuffer 5 = .ok (.aload_n 0, 1) := by decide +kernel
theorem dX8_clearBuffer_6 : decode cX8_clearBuffer 6 = .ok (.getfield 160, 3) := by decide +kernel
theorem dX8_clearBuffer_9 : decode cX8_clearBuffer 9 = .ok (.istore_n 1, 1) := by decide +kernel
theorem dX8_clearBuffer_10 : decode cX8_clearBuffer 10 = .ok (.aload_n 0, 1) := by decide +kernel
theorem dX8_clearBuffer_11 : decode cX8_clearBuffer 11 = .ok (.iconst 0, 1) := by decide +kernel
theorem dX8_clearBuffer_12 : decode cX8_clearBuffer 12 = .ok (.putfield 160, 3) := by decide +kernel
theorem dX8_clearBuffer_15 : decode cX8_clearBuffer 15 = .ok (.iload_n 1, 1) := by decide +kernel
theorem dX8_clearBuffer_16 : decode cX8_clearBuffer 16 = .ok (.ireturn, 1) := by decide +kernel
theorem dX8_goes_0 : decode cX8_goes 0 = .ok (.aload_n 0, 1) := by decide +kernel
theorem dX8_goes_1 : decode cX8_goes 1 = .ok (.iload_n 1, 1) := by decide +kernel
theorem dX8_goes_2 : decode cX8_goes 2 = .ok (.ifCond .eq 7, 3) := by decide +kernel
theorem dX8_goes_5 : decode cX8_goes 5 = .ok (.iload_n 2, 1) := by decide +kernel
theorem dX8_goes_6 : decode cX8_goes 6 = .ok (.goto 7, 3) := by decide +kernel
theorem dX8_goes_9 : decode cX8_goes 9 = .ok (.aload_n 0, 1) := by decide +kernel
theorem dX8_goes_10 : decode cX8_goes 10 = .ok (.getfield 163, 3) := by decide +kernel
theorem dX8_goes_13 : decode cX8_goes 13 = .ok (.putfield 163, 3) := by decide +kernel
theorem dX8_goes_16 : decode cX8_goes 16 = .ok (.iload_n 1, 1) := by decide +kernel
theorem dX8_goes_17 : decode cX8_goes 17 = .ok (.ireturn, 1) := by decide +kernel
theorem dX8_ends_0 : decode cX8_ends 0 = .ok (.aload_n 0, 1) := by decide +kernel
theorem dX8_ends_1 : decode cX8_ends 1 = .ok (.dup, 1) := by decide +kernel
theorem dX8_ends_2 : decode cX8_ends 2 = .ok (.getfield 166, 3) := by decide +kernel
theorem dX8_ends_5 : decode cX8_ends 5 = .ok (.iload_n 1, 1) := by decide +kernel
theorem dX8_ends_6 : decode cX8_ends 6 = .ok (.ifCond .eq 7, 3) := by decide +kernel
theorem dX8_ends_9 : decode cX8_ends 9 = .ok (.iconst 1, 1) := by decide +kernel
theorem dX8_ends_10 : decode cX8_ends 10 = .ok (.goto 4, 3) := by decide +kernel
theorem dX8_ends_13 : decode cX8_ends 13 = .ok (.iconst 0, 1) := by decide +kernel
theorem dX8_ends_14 : decode cX8_ends 14 = .ok (.iadd, 1) := by decide +kernel
theorem dX8_ends_15 : decode cX8_ends 15 = .ok (.putfield 166, 3) := by decide +kernel
theorem dX8_ends_18 : decode cX8_ends 18 = .ok (.aload_n 0, 1) := by decide +kernel
theorem dX8_ends_19 : decode cX8_ends 19 = .ok (.iload_n 1, 1) := by decide +kernel
theorem dX8_ends_20 : decode cX8_ends 20 = .ok (.bipush 20, 2) := by decide +kernel
theorem dX8_ends_22 : decode cX8_ends 22 = .ok (.invokevirtual 169, 3) := by decide +kernel
theorem dX8_ends_25 : decode cX8_ends 25 = .ok (.ireturn, 1) := by decide +kernel
theorem dX8_begins_0 : decode cX8_begins 0 = .ok (.aload_n 0, 1) := by decide +kernel
theorem dX8_begins_1 : decode cX8_begins 1 = .ok (.getfield 25, 3) := by decide +kernel
theorem dX8_begins_4 : decode cX8_begins 4 = .ok (.aload_n 0, 1) := by decide +kernel
theorem dX8_begins_5 : decode cX8_begins 5 = .ok (.getfield 166, 3) := by decide +kernel
theorem dX8_begins_8 : decode cX8_begins 8 = .ok (.iconst 0, 1) := by decide +kernel
theorem dX8_begins_9 : decode cX8_begins 9 = .ok (.iastore, 1) := by decide +kernel
theorem dX8_begins_10 : decode cX8_begins 10 = .ok (.aload_n 0, 1) := by decide +kernel
theorem dX8_begins_11 : decode cX8_begins 11 = .ok (.getfield 28, 3) := by decide +kernel
theorem dX8_begins_14 : decode cX8_begins 14 = .ok (.aload_n 0, 1) := by decide +kernel
theorem dX8_begins_15 : decode cX8_begins 15 = .ok (.getfield 166, 3) := by decide +kernel
theorem dX8_begins_18 : decode cX8_begins 18 = .ok (.iconst 0, 1) := by decide +kernel
theorem dX8_begins_19 : decode cX8_begins 19 = .ok (.iastore, 1) := by decide +kernel
theorem dX8_begins_20 : decode cX8_begins 20 = .ok (.iload_n 1, 1) := by decide +kernel
theorem dX8_begins_21 : decode cX8_begins 21 = .ok (.lookupswitch 86 #[(114, 35), (116, 69), (119, 52)], 35) := by decide +kernel
theorem dX8_begins_56 : decode cX8_begins 56 = .ok (.aload_n 0, 1) := by decide +kernel
theorem dX8_begins_57 : decode cX8_begins 57 = .ok (.getfield 22, 3) := by decide +kernel
theorem dX8_begins_60 : decode cX8_begins 60 = .ok (.aload_n 0, 1) := by decide +kernel
theorem dX8_begins_61 : decode cX8_begins 61 = .ok (.getfield 166, 3) := by decide +kernel
theorem dX8_begins_64 : decode cX8_begins 64 = .ok (.iconst 0, 1) := by decide +kernel
theorem dX8_begins_65 : decode cX8_begins 65 = .ok (.iastore, 1) := by decide +kernel
theorem dX8_begins_66 : decode cX8_begins 66 = .ok (.aload_n 0, 1) := by decide +kernel
theorem dX8_begins_67 : decode cX8_begins 67 = .ok (.iconst 1, 1) := by decide +kernel
theorem dX8_begins_68 : decode cX8_begins 68 = .ok (.iconst 1, 1) := by decide +kernel
theorem dX8_begins_69 : decode cX8_begins 69 = .ok (.invokevirtual 169, 3) := by decide +kernel
theorem dX8_begins_72 : decode cX8_begins 72 = .ok (.ireturn, 1) := by decide +kernel
theorem dX8_begins_73 : decode cX8_begins 73 = .ok (.aload_n 0, 1) := by decide +kernel
theorem dX8_begins_74 : decode cX8_begins 74 = .ok (.getfield 22, 3) := by decide +kernel
theorem dX8_begins_77 : decode cX8_begins 77 = .ok (.aload_n 0, 1) := by decide +kernel
theorem dX8_begins_78 : decode cX8_begins 78 = .ok (.getfield 166, 3) := by decide +kernel
theorem dX8_begins_81 : decode cX8_begins 81 = .ok (.iconst 1, 1) := by decide +kernel
theorem dX8_begins_82 : decode cX8_begins 82 = .ok (.iastore, 1) := by decide +kernel
theorem dX8_begins_83 : decode cX8_begins 83 = .ok (.aload_n 0, 1) := by decide +kernel
theorem dX8_begins_84 : decode cX8_begins 84 = .ok (.iconst 1, 1) := by decide +kernel
theorem dX8_begins_85 : decode cX8_begins 85 = .ok (.iconst 1, 1) := by decide +kernel
theorem dX8_begins_86 : decode cX8_begins 86 = .ok (.invokevirtual 169, 3) := by decide +kernel
theorem dX8_begins_89 : decode cX8_begins 89 = .ok (.ireturn, 1) := by decide +kernel
theorem dX8_begins_90 : decode cX8_begins 90 = .ok (.aload_n 0, 1) := by decide +kernel
theorem dX8_begins_91 : decode cX8_begins 91 = .ok (.getfield 22, 3) := by decide +kernel
theorem dX8_begins_94 : decode cX8_begins 94 = .ok (.aload_n 0, 1) := by decide +kernel
theorem dX8_begins_95 : decode cX8_begins 95 = .ok (.getfield 166, 3) := by decide +kernel
theorem dX8_begins_98 : decode cX8_begins 98 = .ok (.iconst 3, 1) := by decide +kernel
theorem dX8_begins_99 : decode cX8_begins 99 = .ok (.iastore, 1) := by decide +kernel
theorem dX8_begins_100 : decode cX8_begins 100 = .ok (.aload_n 0, 1) := by decide +kernel
theorem dX8_begins_101 : decode cX8_begins 101 = .ok (.iconst 1, 1) := by decide +kernel
theorem dX8_begins_102 : decode cX8_begins 102 = .ok (.iconst 5, 1) := by decide +kernel
theorem dX8_begins_103 : decode cX8_begins 103 = .ok (.invokevirtual 169, 3) := by decide +kernel
theorem dX8_begins_106 : decode cX8_begins 106 = .ok (.ireturn, 1) := by decide +kernel
theorem dX8_begins_107 : decode cX8_begins 107 = .ok (.aload_n 0, 1) := by decide +kernel
theorem dX8_begins_108 : decode cX8_begins 108 = .ok (.getfield 22, 3) := by decide +kernel
theorem dX8_begins_111 : decode cX8_begins 111 = .ok (.aload_n 0, 1) := by decide +kernel
theorem dX8_begins_112 : decode cX8_begins 112 = .ok (.getfield 166, 3) := by decide +kernel
theorem dX8_begins_115 : decode cX8_begins 115 = .ok (.iconst 2, 1) := by decide +kernel
theorem dX8_begins_116 : decode cX8_begins 116 = .ok (.iastore, 1) := by decide +kernel
theorem dX8_begins_117 : decode cX8_begins 117 = .ok (.aload_n 0, 1) := by decide +kernel
theorem dX8_begins_118 : decode cX8_begins 118 = .ok (.iload_n 1, 1) := by decide +kernel
theorem dX8_begins_119 : decode cX8_begins 119 = .ok (.bipush 98, 2) := by decide +kernel
theorem dX8_begins_121 : decode cX8_begins 121 = .ok (.if_icmp .ne 7, 3) := by decide +kernel
theorem dX8_begins_124 : decode cX8_begins 124 = .ok (.iconst 1, 1) := by decide +kernel
theorem dX8_begins_125 : decode cX8_begins 125 = .ok (.goto 4, 3) := by decide +kernel
theorem dX8_begins_128 : decode cX8_begins 128 = .ok (.iconst 0, 1) := by decide +kernel
theorem dX8_begins_129 : decode cX8_begins 129 = .ok (.invokevirtual 173, 3) := by decide +kernel
theorem dX8_begins_132 : decode cX8_begins 132 = .ok (.ireturn, 1) := by decide +kernel
theorem dX8_takes_0 : decode cX8_takes 0 = .ok (.iload_n 1, 1) := by decide +kernel
theorem dX8_takes_1 : decode cX8_takes 1 = .ok (.bipush 48, 2) := by decide +kernel
theorem dX8_takes_3 : decode cX8_takes 3 = .ok (.isub, 1) := by decide +kernel
theorem dX8_takes_4 : decode cX8_takes 4 = .ok (.istore_n 2, 1) := by decide +kernel
theorem dX8_takes_5 : decode cX8_takes 5 = .ok (.aload_n 0, 1) := by decide +kernel
theorem dX8_takes_6 : decode cX8_takes 6 = .ok (.getfield 163, 3) := by decide +kernel
theorem dX8_takes_9 : decode cX8_takes 9 = .ok (.tableswitch 197 0 5 #[39, 45, 71, 137, 154, 175], 39) := by decide +kernel
theorem dX8_takes_48 : decode cX8_takes 48 = .ok (.aload_n 0, 1) := by decide +kernel
theorem dX8_takes_49 : decode cX8_takes 49 = .ok (.iload_n 1, 1) := by decide +kernel
theorem dX8_takes_50 : decode cX8_takes 50 = .ok (.invokevirtual 177, 3) := by decide +kernel
theorem dX8_takes_53 : decode cX8_takes 53 = .ok (.ireturn, 1) := by decide +kernel
theorem dX8_takes_54 : decode cX8_takes 54 = .ok (.aload_n 0, 1) := by decide +kernel
theorem dX8_takes_55 : decode cX8_takes 55 = .ok (.getfield 25, 3) := by decide +kernel
theorem dX8_takes_58 : decode cX8_takes 58 = .ok (.aload_n 0, 1) := by decide +kernel
theorem dX8_takes_59 : decode cX8_takes 59 = .ok (.getfield 166, 3) := by decide +kernel
theorem dX8_takes_62 : decode cX8_takes 62 = .ok (.bipush 8, 2) := by decide +kernel
theorem dX8_takes_64 : decode cX8_takes 64 = .ok (.iload_n 2, 1) := by decide +kernel
theorem dX8_takes_65 : decode cX8_takes 65 = .ok (.imul, 1) := by decide +kernel
theorem dX8_takes_66 : decode cX8_takes 66 = .ok (.iastore, 1) := by decide +kernel
theorem dX8_takes_67 : decode cX8_takes 67 = .ok (.aload_n 0, 1) := by decide +kernel
theorem dX8_takes_68 : decode cX8_takes 68 = .ok (.iload_n 2, 1) := by decide +kernel
theorem dX8_takes_69 : decode cX8_takes 69 = .ok (.iconst 0, 1) := by decide +kernel
theorem dX8_takes_70 : decode cX8_takes 70 = .ok (.bipush 7, 2) := by decide +kernel
theorem dX8_takes_72 : decode cX8_takes 72 = .ok (.invokestatic 42, 3) := by decide +kernel
theorem dX8_takes_75 : decode cX8_takes 75 = .ok (.iconst 2, 1) := by decide +kernel
theorem dX8_takes_76 : decode cX8_takes 76 = .ok (.invokevirtual 169, 3) := by decide +kernel
theorem dX8_takes_79 : decode cX8_takes 79 = .ok (.ireturn, 1) := by decide +kernel
theorem dX8_takes_80 : decode cX8_takes 80 = .ok (.aload_n 0, 1) := by decide +kernel
theorem dX8_takes_81 : decode cX8_takes 81 = .ok (.getfield 25, 3) := by decide +kernel
theorem dX8_takes_84 : decode cX8_takes 84 = .ok (.aload_n 0, 1) := by decide +kernel
theorem dX8_takes_85 : decode cX8_takes 85 = .ok (.getfield 166, 3) := by decide +kernel
theorem dX8_takes_88 : decode cX8_takes 88 = .ok (.dup2, 1) := by decide +kernel
theorem dX8_takes_89 : decode cX8_takes 89 = .ok (.iaload, 1) := by decide +kernel
theorem dX8_takes_90 : decode cX8_takes 90 = .ok (.iload_n 2, 1) := by decide +kernel
theorem dX8_takes_91 : decode cX8_takes 91 = .ok (.iconst 0, 1) := by decide +kernel
theorem dX8_takes_92 : decode cX8_takes 92 = .ok (.bipush 7, 2) := by decide +kernel
theorem dX8_takes_94 : decode cX8_takes 94 = .ok (.invokestatic 42, 3) := by decide +kernel
theorem dX8_takes_97 : decode cX8_takes 97 = .ok (.ifCond .eq 7, 3) := by decide +kernel
theorem dX8_takes_100 : decode cX8_takes 100 = .ok (.iload_n 2, 1) := by decide +kernel
theorem dX8_takes_101 : decode cX8_takes 101 = .ok (.goto 4, 3) := by decide +kernel
theorem dX8_takes_104 : decode cX8_takes 104 = .ok (.iconst 0, 1) := by decide +kernel
theorem dX8_takes_105 : decode cX8_takes 105 = .ok (.iadd, 1) := by decide +kernel
theorem dX8_takes_106 : decode cX8_takes 106 = .ok (.iastore, 1) := by decide +kernel
theorem dX8_takes_107 : decode cX8_takes 107 = .ok (.aload_n 0, 1) := by decide +kernel
theorem dX8_takes_108 : decode cX8_takes 108 = .ok (.getfield 22, 3) := by decide +kernel
theorem dX8_takes_111 : decode cX8_takes 111 = .ok (.aload_n 0, 1) := by decide +kernel
theorem dX8_takes_112 : decode cX8_takes 112 = .ok (.getfield 166, 3) := by decide +kernel
theorem dX8_takes_115 : decode cX8_takes 115 = .ok (.iaload, 1) := by decide +kernel
theorem dX8_takes_116 : decode cX8_takes 116 = .ok (.ifCond .ne 17, 3) := by decide +kernel
theorem dX8_takes_119 : decode cX8_takes 119 = .ok (.aload_n 0, 1) := by decide +kernel
theorem dX8_takes_120 : decode cX8_takes 120 = .ok (.iload_n 2, 1) := by decide +kernel
theorem dX8_takes_121 : decode cX8_takes 121 = .ok (.iconst 0, 1) := by decide +kernel
theorem dX8_takes_122 : decode cX8_takes 122 = .ok (.bipush 7, 2) := by decide +kernel
theorem dX8_takes_124 : decode cX8_takes 124 = .ok (.invokestatic 42, 3) := by decide +kernel
theorem dX8_takes_127 : decode cX8_takes 127 = .ok (.invokevirtual 173, 3) := by decide +kernel
theorem dX8_takes_130 : decode cX8_takes 130 = .ok (.goto 15, 3) := by decide +kernel
theorem dX8_takes_133 : decode cX8_takes 133 = .ok (.aload_n 0, 1) := by decide +kernel
theorem dX8_takes_134 : decode cX8_takes 134 = .ok (.iload_n 2, 1) := by decide +kernel
theorem dX8_takes_135 : decode cX8_takes 135 = .ok (.iconst 0, 1) := by decide +kernel
theorem dX8_takes_136 : decode cX8_takes 136 = .ok (.bipush 7, 2) := by decide +kernel
theorem dX8_takes_138 : decode cX8_takes 138 = .ok (.invokestatic 42, 3) := by decide +kernel
theorem dX8_takes_141 : decode cX8_takes 141 = .ok (.iconst 3, 1) := by decide +kernel
theorem dX8_takes_142 : decode cX8_takes 142 = .ok (.invokevirtual 169, 3) := by decide +kernel
theorem dX8_takes_145 : decode cX8_takes 145 = .ok (.ireturn, 1) := by decide +kernel
theorem dX8_takes_146 : decode cX8_takes 146 = .ok (.aload_n 0, 1) := by decide +kernel
theorem dX8_takes_147 : decode cX8_takes 147 = .ok (.iload_n 1, 1) := by decide +kernel
theorem dX8_takes_148 : decode cX8_takes 148 = .ok (.bipush 61, 2) := by decide +kernel
theorem dX8_takes_150 : decode cX8_takes 150 = .ok (.if_icmp .ne 7, 3) := by decide +kernel
theorem dX8_takes_153 : decode cX8_takes 153 = .ok (.iconst 1, 1) := by decide +kernel
theorem dX8_takes_154 : decode cX8_takes 154 = .ok (.goto 4, 3) := by decide +kernel
theorem dX8_takes_157 : decode cX8_takes 157 = .ok (.iconst 0, 1) := by decide +kernel
theorem dX8_takes_158 : decode cX8_takes 158 = .ok (.iconst 4, 1) := by decide +kernel
theorem dX8_takes_159 : decode cX8_takes 159 = .ok (.invokevirtual 169, 3) := by decide +kernel
theorem dX8_takes_162 : decode cX8_takes 162 = .ok (.ireturn, 1) := by decide +kernel
theorem dX8_takes_163 : decode cX8_takes 163 = .ok (.aload_n 0, 1) := by decide +kernel
theorem dX8_takes_164 : decode cX8_takes 164 = .ok (.getfield 28, 3) := by decide +kernel
theorem dX8_takes_167 : decode cX8_takes 167 = .ok (.aload_n 0, 1) := by decide +kernel
theorem dX8_takes_168 : decode cX8_takes 168 = .ok (.getfield 166, 3) := by decide +kernel
theorem dX8_takes_171 : decode cX8_takes 171 = .ok (.iload_n 2, 1) := by decide +kernel
theorem dX8_takes_172 : decode cX8_takes 172 = .ok (.iastore, 1) := by decide +kernel
theorem dX8_takes_173 : decode cX8_takes 173 = .ok (.aload_n 0, 1) := by decide +kernel
theorem dX8_takes_174 : decode cX8_takes 174 = .ok (.iload_n 2, 1) := by decide +kernel
theorem dX8_takes_175 : decode cX8_takes 175 = .ok (.iconst 0, 1) := by decide +kernel
theorem dX8_takes_176 : decode cX8_takes 176 = .ok (.iconst 1, 1) := by decide +kernel
theorem dX8_takes_177 : decode cX8_takes 177 = .ok (.invokestatic 42, 3) := by decide +kernel
theorem dX8_takes_180 : decode cX8_takes 180 = .ok (.invokevirtual 173, 3) := by decide +kernel
theorem dX8_takes_183 : decode cX8_takes 183 = .ok (.ireturn, 1) := by decide +kernel
theorem dX8_takes_184 : decode cX8_takes 184 = .ok (.aload_n 0, 1) := by decide +kernel
theorem dX8_takes_185 : decode cX8_takes 185 = .ok (.getfield 28, 3) := by decide +kernel
theorem dX8_takes_188 : decode cX8_takes 188 = .ok (.aload_n 0, 1) := by decide +kernel
theorem dX8_takes_189 : decode cX8_takes 189 = .ok (.getfield 166, 3) := by decide +kernel
theorem dX8_takes_192 : decode cX8_takes 192 = .ok (.iload_n 2, 1) := by decide +kernel
theorem dX8_takes_193 : decode cX8_takes 193 = .ok (.iastore, 1) := by decide +kernel
theorem dX8_takes_194 : decode cX8_takes 194 = .ok (.aload_n 0, 1) := by decide +kernel
theorem dX8_takes_195 : decode cX8_takes 195 = .ok (.iload_n 2, 1) := by decide +kernel
theorem dX8_takes_196 : decode cX8_takes 196 = .ok (.iconst 1, 1) := by decide +kernel
theorem dX8_takes_197 : decode cX8_takes 197 = .ok (.bipush 9, 2) := by decide +kernel
theorem dX8_takes_199 : decode cX8_takes 199 = .ok (.invokestatic 42, 3) := by decide +kernel
theorem dX8_takes_202 : decode cX8_takes 202 = .ok (.invokevirtual 173, 3) := by decide +kernel
theorem dX8_takes_205 : decode cX8_takes 205 = .ok (.ireturn, 1) := by decide +kernel
theorem dX8_takes_206 : decode cX8_takes 206 = .ok (.aload_n 0, 1) := by decide +kernel
theorem dX8_takes_207 : decode cX8_takes 207 = .ok (.iload_n 1, 1) := by decide +kernel
theorem dX8_takes_208 : decode cX8_takes 208 = .ok (.bipush 59, 2) := by decide +kernel
theorem dX8_takes_210 : decode cX8_takes 210 = .ok (.if_icmp .ne 7, 3) := by decide +kernel
theorem dX8_takes_213 : decode cX8_takes 213 = .ok (.iconst 1, 1) := by decide +kernel
theorem dX8_takes_214 : decode cX8_takes 214 = .ok (.goto 4, 3) := by decide +kernel
theorem dX8_takes_217 : decode cX8_takes 217 = .ok (.iconst 0, 1) := by decide +kernel
theorem dX8_takes_218 : decode cX8_takes 218 = .ok (.iconst 0, 1) := by decide +kernel
theorem dX8_takes_219 : decode cX8_takes 219 = .ok (.invokevirtual 169, 3) := by decide +kernel
theorem dX8_takes_222 : decode cX8_takes 222 = .ok (.ireturn, 1) := by decide +kernel
theorem dX8_scan_0 : decode cX8_scan 0 = .ok (.aload_n 0, 1) := by decide +kernel
theorem dX8_scan_1 : decode cX8_scan 1 = .ok (.iconst 0, 1) := by decide +kernel
theorem dX8_scan_2 : decode cX8_scan 2 = .ok (.putfield 163, 3) := by decide +kernel
theorem dX8_scan_5 : decode cX8_scan 5 = .ok (.aload_n 0, 1) := by decide +kernel
theorem dX8_scan_6 : decode cX8_scan 6 = .ok (.iconst 0, 1) := by decide +kernel
theorem dX8_scan_7 : decode cX8_scan 7 = .ok (.putfield 166, 3) := by decide +kernel
theorem dX8_scan_10 : decode cX8_scan 10 = .ok (.iconst 0, 1) := by decide +kernel
theorem dX8_scan_11 : decode cX8_scan 11 = .ok (.istore_n 1, 1) := by decide +kernel
theorem dX8_scan_12 : decode cX8_scan 12 = .ok (.iload_n 1, 1) := by decide +kernel
theorem dX8_scan_13 : decode cX8_scan 13 = .ok (.aload_n 0, 1) := by decide +kernel
theorem dX8_scan_14 : decode cX8_scan 14 = .ok (.getfield 160, 3) := by decide +kernel
theorem dX8_scan_17 : decode cX8_scan 17 = .ok (.if_icmp .ge 22, 3) := by decide +kernel
theorem dX8_scan_20 : decode cX8_scan 20 = .ok (.aload_n 0, 1) := by decide +kernel
theorem dX8_scan_21 : decode cX8_scan 21 = .ok (.aload_n 0, 1) := by decide +kernel
theorem dX8_scan_22 : decode cX8_scan 22 = .ok (.getfield 19, 3) := by decide +kernel
theorem dX8_scan_25 : decode cX8_scan 25 = .ok (.iload_n 1, 1) := by decide +kernel
theorem dX8_scan_26 : decode cX8_scan 26 = .ok (.iaload, 1) := by decide +kernel
theorem dX8_scan_27 : decode cX8_scan 27 = .ok (.invokevirtual 180, 3) := by decide +kernel
theorem dX8_scan_30 : decode cX8_scan 30 = .ok (.ifCond .eq 9, 3) := by decide +kernel
theorem dX8_scan_33 : decode cX8_scan 33 = .ok (.iinc 1 1, 3) := by decide +kernel
theorem dX8_scan_36 : decode cX8_scan 36 = .ok (.goto (-24), 3) := by decide +kernel
theorem dX8_scan_39 : decode cX8_scan 39 = .ok (.iload_n 1, 1) := by decide +kernel
theorem dX8_scan_40 : decode cX8_scan 40 = .ok (.ireturn, 1) := by decide +kernel
theorem dX8_firstError_0 : decode cX8_firstError 0 = .ok (.aload_n 0, 1) := by decide +kernel
theorem dX8_firstError_1 : decode cX8_firstError 1 = .ok (.iconst 0, 1) := by decide +kernel
theorem dX8_firstError_2 : decode cX8_firstError 2 = .ok (.putfield 38, 3) := by decide +kernel
theorem dX8_firstError_5 : decode cX8_firstError 5 = .ok (.aload_n 0, 1) := by decide +kernel
theorem dX8_firstError_6 : decode cX8_firstError 6 = .ok (.invokevirtual 183, 3) := by decide +kernel
theorem dX8_firstError_9 : decode cX8_firstError 9 = .ok (.ireturn, 1) := by decide +kernel
theorem dX8_mayDo_0 : decode cX8_mayDo 0 = .ok (.aload_n 0, 1) := by decide +kernel
theorem dX8_mayDo_1 : decode cX8_mayDo 1 = .ok (.aload_n 0, 1) := by decide +kernel
theorem dX8_mayDo_2 : decode cX8_mayDo 2 = .ok (.getfield 25, 3) := by decide +kernel
theorem dX8_mayDo_5 : decode cX8_mayDo 5 = .ok (.iload_n 1, 1) := by decide +kernel
theorem dX8_mayDo_6 : decode cX8_mayDo 6 = .ok (.iaload, 1) := by decide +kernel
theorem dX8_mayDo_7 : decode cX8_mayDo 7 = .ok (.iconst 2, 1) := by decide +kernel
theorem dX8_mayDo_8 : decode cX8_mayDo 8 = .ok (.invokevirtual 62, 3) := by decide +kernel
theorem dX8_mayDo_11 : decode cX8_mayDo 11 = .ok (.iload_n 2, 1) := by decide +kernel
theorem dX8_mayDo_12 : decode cX8_mayDo 12 = .ok (.iconst 1, 1) := by decide +kernel
theorem dX8_mayDo_13 : decode cX8_mayDo 13 = .ok (.iadd, 1) := by decide +kernel
theorem dX8_mayDo_14 : decode cX8_mayDo 14 = .ok (.if_icmp .ne 7, 3) := by decide +kernel
theorem dX8_mayDo_17 : decode cX8_mayDo 17 = .ok (.iconst 1, 1) := by decide +kernel
theorem dX8_mayDo_18 : decode cX8_mayDo 18 = .ok (.goto 4, 3) := by decide +kernel
theorem dX8_mayDo_21 : decode cX8_mayDo 21 = .ok (.iconst 0, 1) := by decide +kernel
theorem dX8_mayDo_22 : decode cX8_mayDo 22 = .ok (.istore_n 3, 1) := by decide +kernel
theorem dX8_mayDo_23 : decode cX8_mayDo 23 = .ok (.aload_n 0, 1) := by decide +kernel
theorem dX8_mayDo_24 : decode cX8_mayDo 24 = .ok (.getfield 22, 3) := by decide +kernel
theorem dX8_mayDo_27 : decode cX8_mayDo 27 = .ok (.iload_n 1, 1) := by decide +kernel
theorem dX8_mayDo_28 : decode cX8_mayDo 28 = .ok (.iaload, 1) := by decide +kernel
theorem dX8_mayDo_29 : decode cX8_mayDo 29 = .ok (.tableswitch 65 0 2 #[27, 50, 52], 27) := by decide +kernel
theorem dX8_mayDo_56 : decode cX8_mayDo 56 = .ok (.iload_n 3, 1) := by decide +kernel
theorem dX8_mayDo_57 : decode cX8_mayDo 57 = .ok (.ifCond .eq 20, 3) := by decide +kernel
theorem dX8_mayDo_60 : decode cX8_mayDo 60 = .ok (.aload_n 0, 1) := by decide +kernel
theorem dX8_mayDo_61 : decode cX8_mayDo 61 = .ok (.aload_n 0, 1) := by decide +kernel
theorem dX8_mayDo_62 : decode cX8_mayDo 62 = .ok (.getfield 25, 3) := by decide +kernel
theorem dX8_mayDo_65 : decode cX8_mayDo 65 = .ok (.iload_n 1, 1) := by decide +kernel
theorem dX8_mayDo_66 : decode cX8_mayDo 66 = .ok (.iaload, 1) := by decide +kernel
theorem dX8_mayDo_67 : decode cX8_mayDo 67 = .ok (.invokevirtual 132, 3) := by decide +kernel
theorem dX8_mayDo_70 : decode cX8_mayDo 70 = .ok (.ifCond .eq 7, 3) := by decide +kernel
theorem dX8_mayDo_73 : decode cX8_mayDo 73 = .ok (.iconst 1, 1) := by decide +kernel
theorem dX8_mayDo_74 : decode cX8_mayDo 74 = .ok (.goto 4, 3) := by decide +kernel
theorem dX8_mayDo_77 : decode cX8_mayDo 77 = .ok (.iconst 0, 1) := by decide +kernel
theorem dX8_mayDo_78 : decode cX8_mayDo 78 = .ok (.ireturn, 1) := by decide +kernel
theorem dX8_mayDo_79 : decode cX8_mayDo 79 = .ok (.iload_n 3, 1) := by decide +kernel
theorem dX8_mayDo_80 : decode cX8_mayDo 80 = .ok (.ireturn, 1) := by decide +kernel
theorem dX8_mayDo_81 : decode cX8_mayDo 81 = .ok (.aload_n 0, 1) := by decide +kernel
theorem dX8_mayDo_82 : decode cX8_mayDo 82 = .ok (.invokevirtual 145, 3) := by decide +kernel
theorem dX8_mayDo_85 : decode cX8_mayDo 85 = .ok (.ifCond .le 7, 3) := by decide +kernel
theorem dX8_mayDo_88 : decode cX8_mayDo 88 = .ok (.iconst 1, 1) := by decide +kernel
theorem dX8_mayDo_89 : decode cX8_mayDo 89 = .ok (.goto 4, 3) := by decide +kernel
theorem dX8_mayDo_92 : decode cX8_mayDo 92 = .ok (.iconst 0, 1) := by decide +kernel
theorem dX8_mayDo_93 : decode cX8_mayDo 93 = .ok (.ireturn, 1) := by decide +kernel
theorem dX8_mayDo_94 : decode cX8_mayDo 94 = .ok (.aload_n 0, 1) := by decide +kernel
theorem dX8_mayDo_95 : decode cX8_mayDo 95 = .ok (.getfield 7, 3) := by decide +kernel
theorem dX8_mayDo_98 : decode cX8_mayDo 98 = .ok (.iconst 0, 1) := by decide +kernel
theorem dX8_mayDo_99 : decode cX8_mayDo 99 = .ok (.iaload, 1) := by decide +kernel
theorem dX8_mayDo_100 : decode cX8_mayDo 100 = .ok (.aload_n 0, 1) := by decide +kernel
theorem dX8_mayDo_101 : decode cX8_mayDo 101 = .ok (.getfield 28, 3) := by decide +kernel
theorem dX8_mayDo_104 : decode cX8_mayDo 104 = .ok (.iload_n 1, 1) := by decide +kernel
theorem dX8_mayDo_105 : decode cX8_mayDo 105 = .ok (.iaload, 1) := by decide +kernel
theorem dX8_mayDo_106 : decode cX8_mayDo 106 = .ok (.iadd, 1) := by decide +kernel
theorem dX8_mayDo_107 : decode cX8_mayDo 107 = .ok (.sipush 10000, 3) := by decide +kernel
theorem dX8_mayDo_110 : decode cX8_mayDo 110 = .ok (.if_icmp .gt 7, 3) := by decide +kernel
theorem dX8_mayDo_113 : decode cX8_mayDo 113 = .ok (.iconst 1, 1) := by decide +kernel
theorem dX8_mayDo_114 : decode cX8_mayDo 114 = .ok (.goto 4, 3) := by decide +kernel
theorem dX8_mayDo_117 : decode cX8_mayDo 117 = .ok (.iconst 0, 1) := by decide +kernel
theorem dX8_mayDo_118 : decode cX8_mayDo 118 = .ok (.ireturn, 1) := by decide +kernel
theorem dX8_does_0 : decode cX8_does 0 = .ok (.aload_n 0, 1) := by decide +kernel
theorem dX8_does_1 : decode cX8_does 1 = .ok (.getfield 22, 3) := by decide +kernel
theorem dX8_does_4 : decode cX8_does 4 = .ok (.iload_n 1, 1) := by decide +kernel
theorem dX8_does_5 : decode cX8_does 5 = .ok (.iaload, 1) := by decide +kernel
theorem dX8_does_6 : decode cX8_does 6 = .ok (.ifCond .ne 17, 3) := by decide +kernel
theorem dX8_does_9 : decode cX8_does 9 = .ok (.aload_n 0, 1) := by decide +kernel
theorem dX8_does_10 : decode cX8_does 10 = .ok (.aload_n 0, 1) := by decide +kernel
theorem dX8_does_11 : decode cX8_does 11 = .ok (.getfield 25, 3) := by decide +kernel
theorem dX8_does_14 : decode cX8_does 14 = .ok (.iload_n 1, 1) := by decide +kernel
theorem dX8_does_15 : decode cX8_does 15 = .ok (.iaload, 1) := by decide +kernel
theorem dX8_does_16 : decode cX8_does 16 = .ok (.invokevirtual 135, 3) := by decide +kernel
theorem dX8_does_19 : decode cX8_does 19 = .ok (.pop, 1) := by decide +kernel
theorem dX8_does_20 : decode cX8_does 20 = .ok (.goto 73, 3) := by decide +kernel
theorem dX8_does_23 : decode cX8_does 23 = .ok (.aload_n 0, 1) := by decide +kernel
theorem dX8_does_24 : decode cX8_does 24 = .ok (.getfield 22, 3) := by decide +kernel
theorem dX8_does_27 : decode cX8_does 27 = .ok (.iload_n 1, 1) := by decide +kernel
theorem dX8_does_28 : decode cX8_does 28 = .ok (.iaload, 1) := by decide +kernel
theorem dX8_does_29 : decode cX8_does 29 = .ok (.iconst 1, 1) := by decide +kernel
theorem dX8_does_30 : decode cX8_does 30 = .ok (.if_icmp .ne 23, 3) := by decide +kernel
theorem dX8_does_33 : decode cX8_does 33 = .ok (.aload_n 0, 1) := by decide +kernel
theorem dX8_does_34 : decode cX8_does 34 = .ok (.aload_n 0, 1) := by decide +kernel
theorem dX8_does_35 : decode cX8_does 35 = .ok (.getfield 25, 3) := by decide +kernel
theorem dX8_does_38 : decode cX8_does 38 = .ok (.iload_n 1, 1) := by decide +kernel
theorem dX8_does_39 : decode cX8_does 39 = .ok (.iaload, 1) := by decide +kernel
theorem dX8_does_40 : decode cX8_does 40 = .ok (.aload_n 0, 1) := by decide +kernel
theorem dX8_does_41 : decode cX8_does 41 = .ok (.getfield 28, 3) := by decide +kernel
theorem dX8_does_44 : decode cX8_does 44 = .ok (.iload_n 1, 1) := by decide +kernel
theorem dX8_does_45 : decode cX8_does 45 = .ok (.iaload, 1) := by decide +kernel
theorem dX8_does_46 : decode cX8_does 46 = .ok (.invokevirtual 129, 3) := by decide +kernel
theorem dX8_does_49 : decode cX8_does 49 = .ok (.pop, 1) := by decide +kernel
theorem dX8_does_50 : decode cX8_does 50 = .ok (.goto 43, 3) := by decide +kernel
theorem dX8_does_53 : decode cX8_does 53 = .ok (.aload_n 0, 1) := by decide +kernel
theorem dX8_does_54 : decode cX8_does 54 = .ok (.getfield 22, 3) := by decide +kernel
theorem dX8_does_57 : decode cX8_does 57 = .ok (.iload_n 1, 1) := by decide +kernel
theorem dX8_does_58 : decode cX8_does 58 = .ok (.iaload, 1) := by decide +kernel
theorem dX8_does_59 : decode cX8_does 59 = .ok (.iconst 2, 1) := by decide +kernel
theorem dX8_does_60 : decode cX8_does 60 = .ok (.if_icmp .ne 11, 3) := by decide +kernel
theorem dX8_does_63 : decode cX8_does 63 = .ok (.aload_n 0, 1) := by decide +kernel
theorem dX8_does_64 : decode cX8_does 64 = .ok (.invokevirtual 148, 3) := by decide +kernel
theorem dX8_does_67 : decode cX8_does 67 = .ok (.pop, 1) := by decide +kernel
theorem dX8_does_68 : decode cX8_does 68 = .ok (.goto 25, 3) := by decide +kernel
theorem dX8_does_71 : decode cX8_does 71 = .ok (.iconst 0, 1) := by decide +kernel
theorem dX8_does_72 : decode cX8_does 72 = .ok (.istore_n 2, 1) := by decide +kernel
theorem dX8_does_73 : decode cX8_does 73 = .ok (.iload_n 2, 1) := by decide +kernel
theorem dX8_does_74 : decode cX8_does 74 = .ok (.aload_n 0, 1) := by decide +kernel
theorem dX8_does_75 : decode cX8_does 75 = .ok (.getfield 28, 3) := by decide +kernel
theorem dX8_does_78 : decode cX8_does 78 = .ok (.iload_n 1, 1) := by decide +kernel
theorem dX8_does_79 : decode cX8_does 79 = .ok (.iaload, 1) := by decide +kernel
theorem dX8_does_80 : decode cX8_does 80 = .ok (.if_icmp .ge 13, 3) := by decide +kernel
theorem dX8_does_83 : decode cX8_does 83 = .ok (.aload_n 0, 1) := by decide +kernel
theorem dX8_does_84 : decode cX8_does 84 = .ok (.invokevirtual 157, 3) := by decide +kernel
theorem dX8_does_87 : decode cX8_does 87 = .ok (.iinc 2 1, 3) := by decide +kernel
theorem dX8_does_90 : decode cX8_does 90 = .ok (.goto (-17), 3) := by decide +kernel
theorem dX8_does_93 : decode cX8_does 93 = .ok (.return_, 1) := by decide +kernel
theorem dX8_run_0 : decode cX8_run 0 = .ok (.aload_n 0, 1) := by decide +kernel
theorem dX8_run_1 : decode cX8_run 1 = .ok (.iconst 0, 1) := by decide +kernel
theorem dX8_run_2 : decode cX8_run 2 = .ok (.putfield 38, 3) := by decide +kernel
theorem dX8_run_5 : decode cX8_run 5 = .ok (.aload_n 0, 1) := by decide +kernel
theorem dX8_run_6 : decode cX8_run 6 = .ok (.iload_n 1, 1) := by decide +kernel
theorem dX8_run_7 : decode cX8_run 7 = .ok (.invokevirtual 70, 3) := by decide +kernel
theorem dX8_run_10 : decode cX8_run 10 = .ok (.ifCond .ne 9, 3) := by decide +kernel
theorem dX8_run_13 : decode cX8_run 13 = .ok (.aload_n 0, 1) := by decide +kernel
theorem dX8_run_14 : decode cX8_run 14 = .ok (.iconst 1, 1) := by decide +kernel
theorem dX8_run_15 : decode cX8_run 15 = .ok (.invokevirtual 49, 3) := by decide +kernel
theorem dX8_run_18 : decode cX8_run 18 = .ok (.ireturn, 1) := by decide +kernel
theorem dX8_run_19 : decode cX8_run 19 = .ok (.aload_n 0, 1) := by decide +kernel
theorem dX8_run_20 : decode cX8_run 20 = .ok (.invokevirtual 183, 3) := by decide +kernel
theorem dX8_run_23 : decode cX8_run 23 = .ok (.aload_n 0, 1) := by decide +kernel
theorem dX8_run_24 : decode cX8_run 24 = .ok (.getfield 160, 3) := by decide +kernel
theorem dX8_run_27 : decode cX8_run 27 = .ok (.if_icmp .lt 12, 3) := by decide +kernel
theorem dX8_run_30 : decode cX8_run 30 = .ok (.aload_n 0, 1) := by decide +kernel
theorem dX8_run_31 : decode cX8_run 31 = .ok (.getfield 163, 3) := by decide +kernel
theorem dX8_run_34 : decode cX8_run 34 = .ok (.bipush 20, 2) := by decide +kernel
theorem dX8_run_36 : decode cX8_run 36 = .ok (.if_icmp .eq 9, 3) := by decide +kernel
theorem dX8_run_39 : decode cX8_run 39 = .ok (.aload_n 0, 1) := by decide +kernel
theorem dX8_run_40 : decode cX8_run 40 = .ok (.iconst 2, 1) := by decide +kernel
theorem dX8_run_41 : decode cX8_run 41 = .ok (.invokevirtual 49, 3) := by decide +kernel
theorem dX8_run_44 : decode cX8_run 44 = .ok (.ireturn, 1) := by decide +kernel
theorem dX8_run_45 : decode cX8_run 45 = .ok (.aload_n 0, 1) := by decide +kernel
theorem dX8_run_46 : decode cX8_run 46 = .ok (.invokevirtual 53, 3) := by decide +kernel
theorem dX8_run_49 : decode cX8_run 49 = .ok (.iconst 0, 1) := by decide +kernel
theorem dX8_run_50 : decode cX8_run 50 = .ok (.istore_n 2, 1) := by decide +kernel
theorem dX8_run_51 : decode cX8_run 51 = .ok (.iload_n 2, 1) := by decide +kernel
theorem dX8_run_52 : decode cX8_run 52 = .ok (.aload_n 0, 1) := by decide +kernel
theorem dX8_run_53 : decode cX8_run 53 = .ok (.getfield 166, 3) := by decide +kernel
theorem dX8_run_56 : decode cX8_run 56 = .ok (.if_icmp .ge 23, 3) := by decide +kernel
theorem dX8_run_59 : decode cX8_run 59 = .ok (.aload_n 0, 1) := by decide +kernel
theorem dX8_run_60 : decode cX8_run 60 = .ok (.iload_n 2, 1) := by decide +kernel
theorem dX8_run_61 : decode cX8_run 61 = .ok (.iload_n 1, 1) := by decide +kernel
theorem dX8_run_62 : decode cX8_run 62 = .ok (.invokevirtual 186, 3) := by decide +kernel
theorem dX8_run_65 : decode cX8_run 65 = .ok (.ifCond .eq 14, 3) := by decide +kernel
theorem dX8_run_68 : decode cX8_run 68 = .ok (.aload_n 0, 1) := by decide +kernel
theorem dX8_run_69 : decode cX8_run 69 = .ok (.iload_n 2, 1) := by decide +kernel
theorem dX8_run_70 : decode cX8_run 70 = .ok (.invokevirtual 189, 3) := by decide +kernel
theorem dX8_run_73 : decode cX8_run 73 = .ok (.iinc 2 1, 3) := by decide +kernel
theorem dX8_run_76 : decode cX8_run 76 = .ok (.goto (-25), 3) := by decide +kernel
theorem dX8_run_79 : decode cX8_run 79 = .ok (.aload_n 0, 1) := by decide +kernel
theorem dX8_run_80 : decode cX8_run 80 = .ok (.iconst 0, 1) := by decide +kernel
theorem dX8_run_81 : decode cX8_run 81 = .ok (.putfield 160, 3) := by decide +kernel
theorem dX8_run_84 : decode cX8_run 84 = .ok (.iload_n 2, 1) := by decide +kernel
theorem dX8_run_85 : decode cX8_run 85 = .ok (.ireturn, 1) := by decide +kernel
theorem dX8_undo_0 : decode cX8_undo 0 = .ok (.aload_n 0, 1) := by decide +kernel
theorem dX8_undo_1 : decode cX8_undo 1 = .ok (.iconst 0, 1) := by decide +kernel
theorem dX8_undo_2 : decode cX8_undo 2 = .ok (.putfield 38, 3) := by decide +kernel
theorem dX8_undo_5 : decode cX8_undo 5 = .ok (.aload_n 0, 1) := by decide +kernel
theorem dX8_undo_6 : decode cX8_undo 6 = .ok (.getfield 46, 3) := by decide +kernel
theorem dX8_undo_9 : decode cX8_undo 9 = .ok (.ifCond .ne 9, 3) := by decide +kernel
theorem dX8_undo_12 : decode cX8_undo 12 = .ok (.aload_n 0, 1) := by decide +kernel
theorem dX8_undo_13 : decode cX8_undo 13 = .ok (.iconst 1, 1) := by decide +kernel
theorem dX8_undo_14 : decode cX8_undo 14 = .ok (.invokevirtual 49, 3) := by decide +kernel
theorem dX8_undo_17 : decode cX8_undo 17 = .ok (.ireturn, 1) := by decide +kernel
theorem dX8_undo_18 : decode cX8_undo 18 = .ok (.aload_n 0, 1) := by decide +kernel
theorem dX8_undo_19 : decode cX8_undo 19 = .ok (.dup, 1) := by decide +kernel
theorem dX8_undo_20 : decode cX8_undo 20 = .ok (.getfield 46, 3) := by decide +kernel
theorem dX8_undo_23 : decode cX8_undo 23 = .ok (.iconst 1, 1) := by decide +kernel
theorem dX8_undo_24 : decode cX8_undo 24 = .ok (.isub, 1) := by decide +kernel
theorem dX8_undo_25 : decode cX8_undo 25 = .ok (.putfield 46, 3) := by decide +kernel
theorem dX8_undo_28 : decode cX8_undo 28 = .ok (.iconst 0, 1) := by decide +kernel
theorem dX8_undo_29 : decode cX8_undo 29 = .ok (.istore_n 1, 1) := by decide +kernel
theorem dX8_undo_30 : decode cX8_undo 30 = .ok (.iload_n 1, 1) := by decide +kernel
theorem dX8_undo_31 : decode cX8_undo 31 = .ok (.sipush 2195, 3) := by decide +kernel
theorem dX8_undo_34 : decode cX8_undo 34 = .ok (.if_icmp .ge 30, 3) := by decide +kernel
theorem dX8_undo_37 : decode cX8_undo 37 = .ok (.aload_n 0, 1) := by decide +kernel
theorem dX8_undo_38 : decode cX8_undo 38 = .ok (.getfield 7, 3) := by decide +kernel
theorem dX8_undo_41 : decode cX8_undo 41 = .ok (.iload_n 1, 1) := by decide +kernel
theorem dX8_undo_42 : decode cX8_undo 42 = .ok (.aload_n 0, 1) := by decide +kernel
theorem dX8_undo_43 : decode cX8_undo 43 = .ok (.getfield 16, 3) := by decide +kernel
theorem dX8_undo_46 : decode cX8_undo 46 = .ok (.sipush 2195, 3) := by decide +kernel
theorem dX8_undo_49 : decode cX8_undo 49 = .ok (.aload_n 0, 1) := by decide +kernel
theorem dX8_undo_50 : decode cX8_undo 50 = .ok (.getfield 46, 3) := by decide +kernel
theorem dX8_undo_53 : decode cX8_undo 53 = .ok (.imul, 1) := by decide +kernel
theorem dX8_undo_54 : decode cX8_undo 54 = .ok (.iload_n 1, 1) := by decide +kernel
theorem dX8_undo_55 : decode cX8_undo 55 = .ok (.iadd, 1) := by decide +kernel
theorem dX8_undo_56 : decode cX8_undo 56 = .ok (.iaload, 1) := by decide +kernel
theorem dX8_undo_57 : decode cX8_undo 57 = .ok (.iastore, 1) := by decide +kernel
theorem dX8_undo_58 : decode cX8_undo 58 = .ok (.iinc 1 1, 3) := by decide +kernel
theorem dX8_undo_61 : decode cX8_undo 61 = .ok (.goto (-31), 3) := by decide +kernel
theorem dX8_undo_64 : decode cX8_undo 64 = .ok (.aload_n 0, 1) := by decide +kernel
theorem dX8_undo_65 : decode cX8_undo 65 = .ok (.getfield 46, 3) := by decide +kernel
theorem dX8_undo_68 : decode cX8_undo 68 = .ok (.ireturn, 1) := by decide +kernel
theorem dX8_coreNow_0 : decode cX8_coreNow 0 = .ok (.iload_n 2, 1) := by decide +kernel
theorem dX8_coreNow_1 : decode cX8_coreNow 1 = .ok (.tableswitch 129 0 8 #[51, 51, 58, 67, 86, 95, 115, 129, 51], 51) := by decide +kernel
theorem dX8_coreNow_52 : decode cX8_coreNow 52 = .ok (.aload_n 0, 1) := by decide +kernel
theorem dX8_coreNow_53 : decode cX8_coreNow 53 = .ok (.iload_n 1, 1) := by decide +kernel
theorem dX8_coreNow_54 : decode cX8_coreNow 54 = .ok (.iload_n 2, 1) := by decide +kernel
theorem dX8_coreNow_55 : decode cX8_coreNow 55 = .ok (.invokevirtual 62, 3) := by decide +kernel
theorem dX8_coreNow_58 : decode cX8_coreNow 58 = .ok (.ireturn, 1) := by decide +kernel
theorem dX8_coreNow_59 : decode cX8_coreNow 59 = .ok (.aload_n 0, 1) := by decide +kernel
theorem dX8_coreNow_60 : decode cX8_coreNow 60 = .ok (.iload_n 1, 1) := by decide +kernel
theorem dX8_coreNow_61 : decode cX8_coreNow 61 = .ok (.iconst 2, 1) := by decide +kernel
theorem dX8_coreNow_62 : decode cX8_coreNow 62 = .ok (.invokevirtual 62, 3) := by decide +kernel
theorem dX8_coreNow_65 : decode cX8_coreNow 65 = .ok (.iconst 1, 1) := by decide +kernel
theorem dX8_coreNow_66 : decode cX8_coreNow 66 = .ok (.isub, 1) := by decide +kernel
theorem dX8_coreNow_67 : decode cX8_coreNow 67 = .ok (.ireturn, 1) := by decide +kernel
theorem dX8_coreNow_68 : decode cX8_coreNow 68 = .ok (.aload_n 0, 1) := by decide +kernel
theorem dX8_coreNow_69 : decode cX8_coreNow 69 = .ok (.iload_n 1, 1) := by decide +kernel
theorem dX8_coreNow_70 : decode cX8_coreNow 70 = .ok (.invokevirtual 76, 3) := by decide +kernel
theorem dX8_coreNow_73 : decode cX8_coreNow 73 = .ok (.ifCond .eq 12, 3) := by decide +kernel
theorem dX8_coreNow_76 : decode cX8_coreNow 76 = .ok (.aload_n 0, 1) := by decide +kernel
theorem dX8_coreNow_77 : decode cX8_coreNow 77 = .ok (.iload_n 1, 1) := by decide +kernel
theorem dX8_coreNow_78 : decode cX8_coreNow 78 = .ok (.iconst 3, 1) := by decide +kernel
theorem dX8_coreNow_79 : decode cX8_coreNow 79 = .ok (.invokevirtual 62, 3) := by decide +kernel
theorem dX8_coreNow_82 : decode cX8_coreNow 82 = .ok (.goto 4, 3) := by decide +kernel
theorem dX8_coreNow_85 : decode cX8_coreNow 85 = .ok (.iconst 0, 1) := by decide +kernel
theorem dX8_coreNow_86 : decode cX8_coreNow 86 = .ok (.ireturn, 1) := by decide +kernel
theorem dX8_coreNow_87 : decode cX8_coreNow 87 = .ok (.aload_n 0, 1) := by decide +kernel
theorem dX8_coreNow_88 : decode cX8_coreNow 88 = .ok (.iload_n 1, 1) := by decide +kernel
theorem dX8_coreNow_89 : decode cX8_coreNow 89 = .ok (.iconst 4, 1) := by decide +kernel
theorem dX8_coreNow_90 : decode cX8_coreNow 90 = .ok (.invokevirtual 62, 3) := by decide +kernel
theorem dX8_coreNow_93 : decode cX8_coreNow 93 = .ok (.iconst 1, 1) := by decide +kernel
theorem dX8_coreNow_94 : decode cX8_coreNow 94 = .ok (.isub, 1) := by decide +kernel
theorem dX8_coreNow_95 : decode cX8_coreNow 95 = .ok (.ireturn, 1) := by decide +kernel
theorem dX8_coreNow_96 : decode cX8_coreNow 96 = .ok (.aload_n 0, 1) := by decide +kernel
theorem dX8_coreNow_97 : decode cX8_coreNow 97 = .ok (.iload_n 1, 1) := by decide +kernel
theorem dX8_coreNow_98 : decode cX8_coreNow 98 = .ok (.iconst 4, 1) := by decide +kernel
theorem dX8_coreNow_99 : decode cX8_coreNow 99 = .ok (.invokevirtual 62, 3) := by decide +kernel
theorem dX8_coreNow_102 : decode cX8_coreNow 102 = .ok (.ifCond .le 12, 3) := by decide +kernel
theorem dX8_coreNow_105 : decode cX8_coreNow 105 = .ok (.aload_n 0, 1) := by decide +kernel
theorem dX8_coreNow_106 : decode cX8_coreNow 106 = .ok (.iload_n 1, 1) := by decide +kernel
theorem dX8_coreNow_107 : decode cX8_coreNow 107 = .ok (.iconst 5, 1) := by decide +kernel
theorem dX8_coreNow_108 : decode cX8_coreNow 108 = .ok (.invokevirtual 62, 3) := by decide +kernel
theorem dX8_coreNow_111 : decode cX8_coreNow 111 = .ok (.goto 4, 3) := by decide +kernel
theorem dX8_coreNow_114 : decode cX8_coreNow 114 = .ok (.iconst 0, 1) := by decide +kernel
theorem dX8_coreNow_115 : decode cX8_coreNow 115 = .ok (.ireturn, 1) := by decide +kernel
theorem dX8_coreNow_116 : decode cX8_coreNow 116 = .ok (.aload_n 0, 1) := by decide +kernel
theorem dX8_coreNow_117 : decode cX8_coreNow 117 = .ok (.iload_n 1, 1) := by decide +kernel
theorem dX8_coreNow_118 : decode cX8_coreNow 118 = .ok (.invokevirtual 126, 3) := by decide +kernel
theorem dX8_coreNow_121 : decode cX8_coreNow 121 = .ok (.ifCond .eq 7, 3) := by decide +kernel
theorem dX8_coreNow_124 : decode cX8_coreNow 124 = .ok (.iconst 1, 1) := by decide +kernel
theorem dX8_coreNow_125 : decode cX8_coreNow 125 = .ok (.goto 4, 3) := by decide +kernel
theorem dX8_coreNow_128 : decode cX8_coreNow 128 = .ok (.iconst 0, 1) := by decide +kernel
theorem dX8_coreNow_129 : decode cX8_coreNow 129 = .ok (.ireturn, 1) := by decide +kernel
theorem dX8_coreNow_130 : decode cX8_coreNow 130 = .ok (.aload_n 0, 1) := by decide +kernel
theorem dX8_coreNow_131 : decode cX8_coreNow 131 = .ok (.iload_n 1, 1) := by decide +kernel
theorem dX8_coreNow_132 : decode cX8_coreNow 132 = .ok (.bipush 6, 2) := by decide +kernel
theorem dX8_coreNow_134 : decode cX8_coreNow 134 = .ok (.invokevirtual 62, 3) := by decide +kernel
theorem dX8_coreNow_137 : decode cX8_coreNow 137 = .ok (.iconst 1, 1) := by decide +kernel
theorem dX8_coreNow_138 : decode cX8_coreNow 138 = .ok (.isub, 1) := by decide +kernel
theorem dX8_coreNow_139 : decode cX8_coreNow 139 = .ok (.ireturn, 1) := by decide +kernel
theorem dX8_core_0 : decode cX8_core 0 = .ok (.aload_n 0, 1) := by decide +kernel
theorem dX8_core_1 : decode cX8_core 1 = .ok (.iconst 0, 1) := by decide +kernel
theorem dX8_core_2 : decode cX8_core 2 = .ok (.putfield 38, 3) := by decide +kernel
theorem dX8_core_5 : decode cX8_core 5 = .ok (.iload_n 1, 1) := by decide +kernel
theorem dX8_core_6 : decode cX8_core 6 = .ok (.invokestatic 66, 3) := by decide +kernel
theorem dX8_core_9 : decode cX8_core 9 = .ok (.ifCond .ne 9, 3) := by decide +kernel
theorem dX8_core_12 : decode cX8_core 12 = .ok (.aload_n 0, 1) := by decide +kernel
theorem dX8_core_13 : decode cX8_core 13 = .ok (.iconst 1, 1) := by decide +kernel
theorem dX8_core_14 : decode cX8_core 14 = .ok (.invokevirtual 49, 3) := by decide +kernel
theorem dX8_core_17 : decode cX8_core 17 = .ok (.ireturn, 1) := by decide +kernel
theorem dX8_core_18 : decode cX8_core 18 = .ok (.iload_n 2, 1) := by decide +kernel
theorem dX8_core_19 : decode cX8_core 19 = .ok (.iconst 0, 1) := by decide +kernel
theorem dX8_core_20 : decode cX8_core 20 = .ok (.bipush 8, 2) := by decide +kernel
theorem dX8_core_22 : decode cX8_core 22 = .ok (.invokestatic 42, 3) := by decide +kernel
theorem dX8_core_25 : decode cX8_core 25 = .ok (.ifCond .eq 12, 3) := by decide +kernel
theorem dX8_core_28 : decode cX8_core 28 = .ok (.aload_n 0, 1) := by decide +kernel
theorem dX8_core_29 : decode cX8_core 29 = .ok (.iload_n 1, 1) := by decide +kernel
theorem dX8_core_30 : decode cX8_core 30 = .ok (.iload_n 2, 1) := by decide +kernel
theorem dX8_core_31 : decode cX8_core 31 = .ok (.invokevirtual 192, 3) := by decide +kernel
theorem dX8_core_34 : decode cX8_core 34 = .ok (.goto 8, 3) := by decide +kernel
theorem dX8_core_37 : decode cX8_core 37 = .ok (.aload_n 0, 1) := by decide +kernel
theorem dX8_core_38 : decode cX8_core 38 = .ok (.iconst 2, 1) := by decide +kernel
theorem dX8_core_39 : decode cX8_core 39 = .ok (.invokevirtual 49, 3) := by decide +kernel
theorem dX8_core_42 : decode cX8_core 42 = .ok (.ireturn, 1) := by decide +kernel
theorem dX8_coresOf_0 : decode cX8_coresOf 0 = .ok (.iconst 0, 1) := by decide +kernel
theorem dX8_coresOf_1 : decode cX8_coresOf 1 = .ok (.istore_n 3, 1) := by decide +kernel
theorem dX8_coresOf_2 : decode cX8_coresOf 2 = .ok (.iconst 0, 1) := by decide +kernel
theorem dX8_coresOf_3 : decode cX8_coresOf 3 = .ok (.istore 4, 2) := by decide +kernel
theorem dX8_coresOf_5 : decode cX8_coresOf 5 = .ok (.iload 4, 2) := by decide +kernel
theorem dX8_coresOf_7 : decode cX8_coresOf 7 = .ok (.bipush 64, 2) := by decide +kernel
theorem dX8_coresOf_9 : decode cX8_coresOf 9 = .ok (.if_icmp .ge 44, 3) := by decide +kernel
theorem dX8_coresOf_12 : decode cX8_coresOf 12 = .ok (.iload_n 3, 1) := by decide +kernel
theorem dX8_coresOf_13 : decode cX8_coresOf 13 = .ok (.aload_n 0, 1) := by decide +kernel
theorem dX8_coresOf_14 : decode cX8_coresOf 14 = .ok (.iload 4, 2) := by decide +kernel
theorem dX8_coresOf_16 : decode cX8_coresOf 16 = .ok (.iconst 2, 1) := by decide +kernel
theorem dX8_coresOf_17 : decode cX8_coresOf 17 = .ok (.invokevirtual 62, 3) := by decide +kernel
theorem dX8_coresOf_20 : decode cX8_coresOf 20 = .ok (.iload_n 1, 1) := by decide +kernel
theorem dX8_coresOf_21 : decode cX8_coresOf 21 = .ok (.iconst 1, 1) := by decide +kernel
theorem dX8_coresOf_22 : decode cX8_coresOf 22 = .ok (.iadd, 1) := by decide +kernel
theorem dX8_coresOf_23 : decode cX8_coresOf 23 = .ok (.if_icmp .ne 21, 3) := by decide +kernel
theorem dX8_coresOf_26 : decode cX8_coresOf 26 = .ok (.iload_n 2, 1) := by decide +kernel
theorem dX8_coresOf_27 : decode cX8_coresOf 27 = .ok (.ifCond .eq 13, 3) := by decide +kernel
theorem dX8_coresOf_30 : decode cX8_coresOf 30 = .ok (.aload_n 0, 1) := by decide +kernel
theorem dX8_coresOf_31 : decode cX8_coresOf 31 = .ok (.iload 4, 2) := by decide +kernel
theorem dX8_coresOf_33 : decode cX8_coresOf 33 = .ok (.iconst 4, 1) := by decide +kernel
theorem dX8_coresOf_34 : decode cX8_coresOf 34 = .ok (.invokevirtual 62, 3) := by decide +kernel
theorem dX8_coresOf_37 : decode cX8_coresOf 37 = .ok (.ifCond .le 7, 3) := by decide +kernel
theorem dX8_coresOf_40 : decode cX8_coresOf 40 = .ok (.iconst 1, 1) := by decide +kernel
theorem dX8_coresOf_41 : decode cX8_coresOf 41 = .ok (.goto 4, 3) := by decide +kernel
theorem dX8_coresOf_44 : decode cX8_coresOf 44 = .ok (.iconst 0, 1) := by decide +kernel
theorem dX8_coresOf_45 : decode cX8_coresOf 45 = .ok (.iadd, 1) := by decide +kernel
theorem dX8_coresOf_46 : decode cX8_coresOf 46 = .ok (.istore_n 3, 1) := by decide +kernel
theorem dX8_coresOf_47 : decode cX8_coresOf 47 = .ok (.iinc 4 1, 3) := by decide +kernel
theorem dX8_coresOf_50 : decode cX8_coresOf 50 = .ok (.goto (-45), 3) := by decide +kernel
theorem dX8_coresOf_53 : decode cX8_coresOf 53 = .ok (.iload_n 3, 1) := by decide +kernel
theorem dX8_coresOf_54 : decode cX8_coresOf 54 = .ok (.ireturn, 1) := by decide +kernel
theorem dX8_waitsOf_0 : decode cX8_waitsOf 0 = .ok (.iconst 0, 1) := by decide +kernel
theorem dX8_waitsOf_1 : decode cX8_waitsOf 1 = .ok (.istore_n 2, 1) := by decide +kernel
theorem dX8_waitsOf_2 : decode cX8_waitsOf 2 = .ok (.iconst 0, 1) := by decide +kernel
theorem dX8_waitsOf_3 : decode cX8_waitsOf 3 = .ok (.istore_n 3, 1) := by decide +kernel
theorem dX8_waitsOf_4 : decode cX8_waitsOf 4 = .ok (.iload_n 3, 1) := by decide +kernel
theorem dX8_waitsOf_5 : decode cX8_waitsOf 5 = .ok (.aload_n 0, 1) := by decide +kernel
theorem dX8_waitsOf_6 : decode cX8_waitsOf 6 = .ok (.getfield 7, 3) := by decide +kernel
theorem dX8_waitsOf_9 : decode cX8_waitsOf 9 = .ok (.iconst 3, 1) := by decide +kernel
theorem dX8_waitsOf_10 : decode cX8_waitsOf 10 = .ok (.iaload, 1) := by decide +kernel
theorem dX8_waitsOf_11 : decode cX8_waitsOf 11 = .ok (.if_icmp .ge 58, 3) := by decide +kernel
theorem dX8_waitsOf_14 : decode cX8_waitsOf 14 = .ok (.iconst 0, 1) := by decide +kernel
theorem dX8_waitsOf_15 : decode cX8_waitsOf 15 = .ok (.istore 4, 2) := by decide +kernel
theorem dX8_waitsOf_17 : decode cX8_waitsOf 17 = .ok (.iload 4, 2) := by decide +kernel
theorem dX8_waitsOf_19 : decode cX8_waitsOf 19 = .ok (.aload_n 0, 1) := by decide +kernel
theorem dX8_waitsOf_20 : decode cX8_waitsOf 20 = .ok (.iload_n 3, 1) := by decide +kernel
theorem dX8_waitsOf_21 : decode cX8_waitsOf 21 = .ok (.iconst 5, 1) := by decide +kernel
theorem dX8_waitsOf_22 : decode cX8_waitsOf 22 = .ok (.invokevirtual 82, 3) := by decide +kernel
theorem dX8_waitsOf_25 : decode cX8_waitsOf 25 = .ok (.if_icmp .ge 38, 3) := by decide +kernel
theorem dX8_waitsOf_28 : decode cX8_waitsOf 28 = .ok (.iload_n 2, 1) := by decide +kernel
theorem dX8_waitsOf_29 : decode cX8_waitsOf 29 = .ok (.aload_n 0, 1) := by decide +kernel
theorem dX8_waitsOf_30 : decode cX8_waitsOf 30 = .ok (.getfield 7, 3) := by decide +kernel
theorem dX8_waitsOf_33 : decode cX8_waitsOf 33 = .ok (.sipush 635, 3) := by decide +kernel
theorem dX8_waitsOf_36 : decode cX8_waitsOf 36 = .ok (.sipush 520, 3) := by decide +kernel
theorem dX8_waitsOf_39 : decode cX8_waitsOf 39 = .ok (.iload_n 3, 1) := by decide +kernel
theorem dX8_waitsOf_40 : decode cX8_waitsOf 40 = .ok (.imul, 1) := by decide +kernel
theorem dX8_waitsOf_41 : decode cX8_waitsOf 41 = .ok (.iadd, 1) := by decide +kernel
theorem dX8_waitsOf_42 : decode cX8_waitsOf 42 = .ok (.iload 4, 2) := by decide +kernel
theorem dX8_waitsOf_44 : decode cX8_waitsOf 44 = .ok (.iadd, 1) := by decide +kernel
theorem dX8_waitsOf_45 : decode cX8_waitsOf 45 = .ok (.iaload, 1) := by decide +kernel
theorem dX8_waitsOf_46 : decode cX8_waitsOf 46 = .ok (.iload_n 1, 1) := by decide +kernel
theorem dX8_waitsOf_47 : decode cX8_waitsOf 47 = .ok (.if_icmp .ne 7, 3) := by decide +kernel
theorem dX8_waitsOf_50 : decode cX8_waitsOf 50 = .ok (.iconst 1, 1) := by decide +kernel
theorem dX8_waitsOf_51 : decode cX8_waitsOf 51 = .ok (.goto 4, 3) := by decide +kernel
theorem dX8_waitsOf_54 : decode cX8_waitsOf 54 = .ok (.iconst 0, 1) := by decide +kernel
theorem dX8_waitsOf_55 : decode cX8_waitsOf 55 = .ok (.iadd, 1) := by decide +kernel
theorem dX8_waitsOf_56 : decode cX8_waitsOf 56 = .ok (.istore_n 2, 1) := by decide +kernel
theorem dX8_waitsOf_57 : decode cX8_waitsOf 57 = .ok (.iinc 4 1, 3) := by decide +kernel
theorem dX8_waitsOf_60 : decode cX8_waitsOf 60 = .ok (.goto (-43), 3) := by decide +kernel
theorem dX8_waitsOf_63 : decode cX8_waitsOf 63 = .ok (.iinc 3 1, 3) := by decide +kernel
theorem dX8_waitsOf_66 : decode cX8_waitsOf 66 = .ok (.goto (-62), 3) := by decide +kernel
theorem dX8_waitsOf_69 : decode cX8_waitsOf 69 = .ok (.iload_n 2, 1) := by decide +kernel
theorem dX8_waitsOf_70 : decode cX8_waitsOf 70 = .ok (.ireturn, 1) := by decide +kernel
theorem dX8_tenantNow_0 : decode cX8_tenantNow 0 = .ok (.iload_n 2, 1) := by decide +kernel
theorem dX8_tenantNow_1 : decode cX8_tenantNow 1 = .ok (.tableswitch 70 0 4 #[35, 42, 49, 56, 63], 35) := by decide +kernel
theorem dX8_tenantNow_36 : decode cX8_tenantNow 36 = .ok (.aload_n 0, 1) := by decide +kernel
theorem dX8_tenantNow_37 : decode cX8_tenantNow 37 = .ok (.iload_n 1, 1) := by decide +kernel
theorem dX8_tenantNow_38 : decode cX8_tenantNow 38 = .ok (.iconst 0, 1) := by decide +kernel
theorem dX8_tenantNow_39 : decode cX8_tenantNow 39 = .ok (.invokevirtual 79, 3) := by decide +kernel
theorem dX8_tenantNow_42 : decode cX8_tenantNow 42 = .ok (.ireturn, 1) := by decide +kernel
theorem dX8_tenantNow_43 : decode cX8_tenantNow 43 = .ok (.aload_n 0, 1) := by decide +kernel
theorem dX8_tenantNow_44 : decode cX8_tenantNow 44 = .ok (.iload_n 1, 1) := by decide +kernel
theorem dX8_tenantNow_45 : decode cX8_tenantNow 45 = .ok (.iconst 0, 1) := by decide +kernel
theorem dX8_tenantNow_46 : decode cX8_tenantNow 46 = .ok (.invokevirtual 195, 3) := by decide +kernel
theorem dX8_tenantNow_49 : decode cX8_tenantNow 49 = .ok (.ireturn, 1) := by decide +kernel
theorem dX8_tenantNow_50 : decode cX8_tenantNow 50 = .ok (.aload_n 0, 1) := by decide +kernel
theorem dX8_tenantNow_51 : decode cX8_tenantNow 51 = .ok (.iload_n 1, 1) := by decide +kernel
theorem dX8_tenantNow_52 : decode cX8_tenantNow 52 = .ok (.iconst 1, 1) := by decide +kernel
theorem dX8_tenantNow_53 : decode cX8_tenantNow 53 = .ok (.invokevirtual 195, 3) := by decide +kernel
theorem dX8_tenantNow_56 : decode cX8_tenantNow 56 = .ok (.ireturn, 1) := by decide +kernel
theorem dX8_tenantNow_57 : decode cX8_tenantNow 57 = .ok (.aload_n 0, 1) := by decide +kernel
theorem dX8_tenantNow_58 : decode cX8_tenantNow 58 = .ok (.iload_n 1, 1) := by decide +kernel
theorem dX8_tenantNow_59 : decode cX8_tenantNow 59 = .ok (.iconst 1, 1) := by decide +kernel
theorem dX8_tenantNow_60 : decode cX8_tenantNow 60 = .ok (.invokevirtual 79, 3) := by decide +kernel
theorem dX8_tenantNow_63 : decode cX8_tenantNow 63 = .ok (.ireturn, 1) := by decide +kernel
theorem dX8_tenantNow_64 : decode cX8_tenantNow 64 = .ok (.aload_n 0, 1) := by decide +kernel
theorem dX8_tenantNow_65 : decode cX8_tenantNow 65 = .ok (.iload_n 1, 1) := by decide +kernel
theorem dX8_tenantNow_66 : decode cX8_tenantNow 66 = .ok (.iconst 2, 1) := by decide +kernel
theorem dX8_tenantNow_67 : decode cX8_tenantNow 67 = .ok (.invokevirtual 79, 3) := by decide +kernel
theorem dX8_tenantNow_70 : decode cX8_tenantNow 70 = .ok (.ireturn, 1) := by decide +kernel
theorem dX8_tenantNow_71 : decode cX8_tenantNow 71 = .ok (.aload_n 0, 1) := by decide +kernel
theorem dX8_tenantNow_72 : decode cX8_tenantNow 72 = .ok (.iload_n 1, 1) := by decide +kernel
theorem dX8_tenantNow_73 : decode cX8_tenantNow 73 = .ok (.invokevirtual 199, 3) := by decide +kernel
theorem dX8_tenantNow_76 : decode cX8_tenantNow 76 = .ok (.ireturn, 1) := by decide +kernel
theorem dX8_tenant_0 : decode cX8_tenant 0 = .ok (.aload_n 0, 1) := by decide +kernel
theorem dX8_tenant_1 : decode cX8_tenant 1 = .ok (.iconst 0, 1) := by decide +kernel
theorem dX8_tenant_2 : decode cX8_tenant 2 = .ok (.putfield 38, 3) := by decide +kernel
theorem dX8_tenant_5 : decode cX8_tenant 5 = .ok (.aload_n 0, 1) := by decide +kernel
theorem dX8_tenant_6 : decode cX8_tenant 6 = .ok (.iload_n 1, 1) := by decide +kernel
theorem dX8_tenant_7 : decode cX8_tenant 7 = .ok (.invokevirtual 70, 3) := by decide +kernel
theorem dX8_tenant_10 : decode cX8_tenant 10 = .ok (.ifCond .ne 9, 3) := by decide +kernel
theorem dX8_tenant_13 : decode cX8_tenant 13 = .ok (.aload_n 0, 1) := by decide +kernel
theorem dX8_tenant_14 : decode cX8_tenant 14 = .ok (.iconst 1, 1) := by decide +kernel
theorem dX8_tenant_15 : decode cX8_tenant 15 = .ok (.invokevirtual 49, 3) := by decide +kernel
theorem dX8_tenant_18 : decode cX8_tenant 18 = .ok (.ireturn, 1) := by decide +kernel
theorem dX8_tenant_19 : decode cX8_tenant 19 = .ok (.iload_n 2, 1) := by decide +kernel
theorem dX8_tenant_20 : decode cX8_tenant 20 = .ok (.iconst 0, 1) := by decide +kernel
theorem dX8_tenant_21 : decode cX8_tenant 21 = .ok (.iconst 5, 1) := by decide +kernel
theorem dX8_tenant_22 : decode cX8_tenant 22 = .ok (.invokestatic 42, 3) := by decide +kernel
theorem dX8_tenant_25 : decode cX8_tenant 25 = .ok (.ifCond .eq 12, 3) := by decide +kernel
theorem dX8_tenant_28 : decode cX8_tenant 28 = .ok (.aload_n 0, 1) := by decide +kernel
theorem dX8_tenant_29 : decode cX8_tenant 29 = .ok (.iload_n 1, 1) := by decide +kernel
theorem dX8_tenant_30 : decode cX8_tenant 30 = .ok (.iload_n 2, 1) := by decide +kernel
theorem dX8_tenant_31 : decode cX8_tenant 31 = .ok (.invokevirtual 202, 3) := by decide +kernel
theorem dX8_tenant_34 : decode cX8_tenant 34 = .ok (.goto 8, 3) := by decide +kernel
theorem dX8_tenant_37 : decode cX8_tenant 37 = .ok (.aload_n 0, 1) := by decide +kernel
theorem dX8_tenant_38 : decode cX8_tenant 38 = .ok (.iconst 2, 1) := by decide +kernel
theorem dX8_tenant_39 : decode cX8_tenant 39 = .ok (.invokevirtual 49, 3) := by decide +kernel
theorem dX8_tenant_42 : decode cX8_tenant 42 = .ok (.ireturn, 1) := by decide +kernel
theorem dX8_policiesOf_0 : decode cX8_policiesOf 0 = .ok (.iconst 0, 1) := by decide +kernel
theorem dX8_policiesOf_1 : decode cX8_policiesOf 1 = .ok (.istore_n 2, 1) := by decide +kernel
theorem dX8_policiesOf_2 : decode cX8_policiesOf 2 = .ok (.iconst 0, 1) := by decide +kernel
theorem dX8_policiesOf_3 : decode cX8_policiesOf 3 = .ok (.istore_n 3, 1) := by decide +kernel
theorem dX8_policiesOf_4 : decode cX8_policiesOf 4 = .ok (.iload_n 3, 1) := by decide +kernel
theorem dX8_policiesOf_5 : decode cX8_policiesOf 5 = .ok (.bipush 64, 2) := by decide +kernel
theorem dX8_policiesOf_7 : decode cX8_policiesOf 7 = .ok (.if_icmp .ge 29, 3) := by decide +kernel
theorem dX8_policiesOf_10 : decode cX8_policiesOf 10 = .ok (.iload_n 2, 1) := by decide +kernel
theorem dX8_policiesOf_11 : decode cX8_policiesOf 11 = .ok (.aload_n 0, 1) := by decide +kernel
theorem dX8_policiesOf_12 : decode cX8_policiesOf 12 = .ok (.iload_n 3, 1) := by decide +kernel
theorem dX8_policiesOf_13 : decode cX8_policiesOf 13 = .ok (.iconst 4, 1) := by decide +kernel
theorem dX8_policiesOf_14 : decode cX8_policiesOf 14 = .ok (.invokevirtual 62, 3) := by decide +kernel
theorem dX8_policiesOf_17 : decode cX8_policiesOf 17 = .ok (.iload_n 1, 1) := by decide +kernel
theorem dX8_policiesOf_18 : decode cX8_policiesOf 18 = .ok (.iconst 1, 1) := by decide +kernel
theorem dX8_policiesOf_19 : decode cX8_policiesOf 19 = .ok (.iadd, 1) := by decide +kernel
theorem dX8_policiesOf_20 : decode cX8_policiesOf 20 = .ok (.if_icmp .ne 7, 3) := by decide +kernel
theorem dX8_policiesOf_23 : decode cX8_policiesOf 23 = .ok (.iconst 1, 1) := by decide +kernel
theorem dX8_policiesOf_24 : decode cX8_policiesOf 24 = .ok (.goto 4, 3) := by decide +kernel
theorem dX8_policiesOf_27 : decode cX8_policiesOf 27 = .ok (.iconst 0, 1) := by decide +kernel
theorem dX8_policiesOf_28 : decode cX8_policiesOf 28 = .ok (.iadd, 1) := by decide +kernel
theorem dX8_policiesOf_29 : decode cX8_policiesOf 29 = .ok (.istore_n 2, 1) := by decide +kernel
theorem dX8_policiesOf_30 : decode cX8_policiesOf 30 = .ok (.iinc 3 1, 3) := by decide +kernel
theorem dX8_policiesOf_33 : decode cX8_policiesOf 33 = .ok (.goto (-29), 3) := by decide +kernel
theorem dX8_policiesOf_36 : decode cX8_policiesOf 36 = .ok (.iload_n 2, 1) := by decide +kernel
theorem dX8_policiesOf_37 : decode cX8_policiesOf 37 = .ok (.ireturn, 1) := by decide +kernel
theorem dX8_insurerNow_0 : decode cX8_insurerNow 0 = .ok (.iload_n 2, 1) := by decide +kernel
theorem dX8_insurerNow_1 : decode cX8_insurerNow 1 = .ok (.tableswitch 66 0 5 #[39, 39, 39, 46, 52, 59], 39) := by decide +kernel
theorem dX8_insurerNow_40 : decode cX8_insurerNow 40 = .ok (.aload_n 0, 1) := by decide +kernel
theorem dX8_insurerNow_41 : decode cX8_insurerNow 41 = .ok (.iload_n 1, 1) := by decide +kernel
theorem dX8_insurerNow_42 : decode cX8_insurerNow 42 = .ok (.iload_n 2, 1) := by decide +kernel
theorem dX8_insurerNow_43 : decode cX8_insurerNow 43 = .ok (.invokevirtual 82, 3) := by decide +kernel
theorem dX8_insurerNow_46 : decode cX8_insurerNow 46 = .ok (.ireturn, 1) := by decide +kernel
theorem dX8_insurerNow_47 : decode cX8_insurerNow 47 = .ok (.aload_n 0, 1) := by decide +kernel
theorem dX8_insurerNow_48 : decode cX8_insurerNow 48 = .ok (.iload_n 1, 1) := by decide +kernel
theorem dX8_insurerNow_49 : decode cX8_insurerNow 49 = .ok (.invokevirtual 205, 3) := by decide +kernel
theorem dX8_insurerNow_52 : decode cX8_insurerNow 52 = .ok (.ireturn, 1) := by decide +kernel
theorem dX8_insurerNow_53 : decode cX8_insurerNow 53 = .ok (.aload_n 0, 1) := by decide +kernel
theorem dX8_insurerNow_54 : decode cX8_insurerNow 54 = .ok (.iload_n 1, 1) := by decide +kernel
theorem dX8_insurerNow_55 : decode cX8_insurerNow 55 = .ok (.iconst 3, 1) := by decide +kernel
theorem dX8_insurerNow_56 : decode cX8_insurerNow 56 = .ok (.invokevirtual 82, 3) := by decide +kernel
theorem dX8_insurerNow_59 : decode cX8_insurerNow 59 = .ok (.ireturn, 1) := by decide +kernel
theorem dX8_insurerNow_60 : decode cX8_insurerNow 60 = .ok (.aload_n 0, 1) := by decide +kernel
theorem dX8_insurerNow_61 : decode cX8_insurerNow 61 = .ok (.iload_n 1, 1) := by decide +kernel
theorem dX8_insurerNow_62 : decode cX8_insurerNow 62 = .ok (.iconst 5, 1) := by decide +kernel
theorem dX8_insurerNow_63 : decode cX8_insurerNow 63 = .ok (.invokevirtual 82, 3) := by decide +kernel
theorem dX8_insurerNow_66 : decode cX8_insurerNow 66 = .ok (.ireturn, 1) := by decide +kernel
theorem dX8_insurerNow_67 : decode cX8_insurerNow 67 = .ok (.aload_n 0, 1) := by decide +kernel
theorem dX8_insurerNow_68 : decode cX8_insurerNow 68 = .ok (.iload_n 1, 1) := by decide +kernel
theorem dX8_insurerNow_69 : decode cX8_insurerNow 69 = .ok (.iconst 4, 1) := by decide +kernel
theorem dX8_insurerNow_70 : decode cX8_insurerNow 70 = .ok (.invokevirtual 82, 3) := by decide +kernel
theorem dX8_insurerNow_73 : decode cX8_insurerNow 73 = .ok (.ireturn, 1) := by decide +kernel
theorem dX8_insurer_0 : decode cX8_insurer 0 = .ok (.aload_n 0, 1) := by decide +kernel
theorem dX8_insurer_1 : decode cX8_insurer 1 = .ok (.iconst 0, 1) := by decide +kernel
theorem dX8_insurer_2 : decode cX8_insurer 2 = .ok (.putfield 38, 3) := by decide +kernel
theorem dX8_insurer_5 : decode cX8_insurer 5 = .ok (.aload_n 0, 1) := by decide +kernel
theorem dX8_insurer_6 : decode cX8_insurer 6 = .ok (.iload_n 1, 1) := by decide +kernel
theorem dX8_insurer_7 : decode cX8_insurer 7 = .ok (.invokevirtual 89, 3) := by decide +kernel
theorem dX8_insurer_10 : decode cX8_insurer 10 = .ok (.ifCond .ne 9, 3) := by decide +kernel
theorem dX8_insurer_13 : decode cX8_insurer 13 = .ok (.aload_n 0, 1) := by decide +kernel
theorem dX8_insurer_14 : decode cX8_insurer 14 = .ok (.iconst 1, 1) := by decide +kernel
theorem dX8_insurer_15 : decode cX8_insurer 15 = .ok (.invokevirtual 49, 3) := by decide +kernel
theorem dX8_insurer_18 : decode cX8_insurer 18 = .ok (.ireturn, 1) := by decide +kernel
theorem dX8_insurer_19 : decode cX8_insurer 19 = .ok (.iload_n 2, 1) := by decide +kernel
theorem dX8_insurer_20 : decode cX8_insurer 20 = .ok (.iconst 0, 1) := by decide +kernel
theorem dX8_insurer_21 : decode cX8_insurer 21 = .ok (.bipush 6, 2) := by decide +kernel
theorem dX8_insurer_23 : decode cX8_insurer 23 = .ok (.invokestatic 42, 3) := by decide +kernel
theorem dX8_insurer_26 : decode cX8_insurer 26 = .ok (.ifCond .eq 12, 3) := by decide +kernel
theorem dX8_insurer_29 : decode cX8_insurer 29 = .ok (.aload_n 0, 1) := by decide +kernel
theorem dX8_insurer_30 : decode cX8_insurer 30 = .ok (.iload_n 1, 1) := by decide +kernel
theorem dX8_insurer_31 : decode cX8_insurer 31 = .ok (.iload_n 2, 1) := by decide +kernel
theorem dX8_insurer_32 : decode cX8_insurer 32 = .ok (.invokevirtual 208, 3) := by decide +kernel
theorem dX8_insurer_35 : decode cX8_insurer 35 = .ok (.goto 8, 3) := by decide +kernel
theorem dX8_insurer_38 : decode cX8_insurer 38 = .ok (.aload_n 0, 1) := by decide +kernel
theorem dX8_insurer_39 : decode cX8_insurer 39 = .ok (.iconst 2, 1) := by decide +kernel
theorem dX8_insurer_40 : decode cX8_insurer 40 = .ok (.invokevirtual 49, 3) := by decide +kernel
theorem dX8_insurer_43 : decode cX8_insurer 43 = .ok (.ireturn, 1) := by decide +kernel
theorem dX8_owed_0 : decode cX8_owed 0 = .ok (.aload_n 0, 1) := by decide +kernel
theorem dX8_owed_1 : decode cX8_owed 1 = .ok (.iconst 0, 1) := by decide +kernel
theorem dX8_owed_2 : decode cX8_owed 2 = .ok (.putfield 38, 3) := by decide +kernel
theorem dX8_owed_5 : decode cX8_owed 5 = .ok (.iload_n 1, 1) := by decide +kernel
theorem dX8_owed_6 : decode cX8_owed 6 = .ok (.iconst 0, 1) := by decide +kernel
theorem dX8_owed_7 : decode cX8_owed 7 = .ok (.bipush 63, 2) := by decide +kernel
theorem dX8_owed_9 : decode cX8_owed 9 = .ok (.invokestatic 42, 3) := by decide +kernel
theorem dX8_owed_12 : decode cX8_owed 12 = .ok (.ifCond .eq 12, 3) := by decide +kernel
theorem dX8_owed_15 : decode cX8_owed 15 = .ok (.iload_n 2, 1) := by decide +kernel
theorem dX8_owed_16 : decode cX8_owed 16 = .ok (.iconst 0, 1) := by decide +kernel
theorem dX8_owed_17 : decode cX8_owed 17 = .ok (.iconst 1, 1) := by decide +kernel
theorem dX8_owed_18 : decode cX8_owed 18 = .ok (.invokestatic 42, 3) := by decide +kernel
theorem dX8_owed_21 : decode cX8_owed 21 = .ok (.ifCond .ne 9, 3) := by decide +kernel
theorem dX8_owed_24 : decode cX8_owed 24 = .ok (.aload_n 0, 1) := by decide +kernel
theorem dX8_owed_25 : decode cX8_owed 25 = .ok (.iconst 1, 1) := by decide +kernel
theorem dX8_owed_26 : decode cX8_owed 26 = .ok (.invokevirtual 49, 3) := by decide +kernel
theorem dX8_owed_29 : decode cX8_owed 29 = .ok (.ireturn, 1) := by decide +kernel
theorem dX8_owed_30 : decode cX8_owed 30 = .ok (.iload_n 1, 1) := by decide +kernel
theorem dX8_owed_31 : decode cX8_owed 31 = .ok (.aload_n 0, 1) := by decide +kernel
theorem dX8_owed_32 : decode cX8_owed 32 = .ok (.invokevirtual 141, 3) := by decide +kernel
theorem dX8_owed_35 : decode cX8_owed 35 = .ok (.if_icmp .lt 5, 3) := by decide +kernel
theorem dX8_owed_38 : decode cX8_owed 38 = .ok (.iconst (-1), 1) := by decide +kernel
theorem dX8_owed_39 : decode cX8_owed 39 = .ok (.ireturn, 1) := by decide +kernel
theorem dX8_owed_40 : decode cX8_owed 40 = .ok (.iload_n 2, 1) := by decide +kernel
theorem dX8_owed_41 : decode cX8_owed 41 = .ok (.ifCond .ne 12, 3) := by decide +kernel
theorem dX8_owed_44 : decode cX8_owed 44 = .ok (.aload_n 0, 1) := by decide +kernel
theorem dX8_owed_45 : decode cX8_owed 45 = .ok (.getfield 31, 3) := by decide +kernel
theorem dX8_owed_48 : decode cX8_owed 48 = .ok (.iload_n 1, 1) := by decide +kernel
theorem dX8_owed_49 : decode cX8_owed 49 = .ok (.iaload, 1) := by decide +kernel
theorem dX8_owed_50 : decode cX8_owed 50 = .ok (.goto 17, 3) := by decide +kernel
theorem dX8_owed_53 : decode cX8_owed 53 = .ok (.aload_n 0, 1) := by decide +kernel
theorem dX8_owed_54 : decode cX8_owed 54 = .ok (.aload_n 0, 1) := by decide +kernel
theorem dX8_owed_55 : decode cX8_owed 55 = .ok (.getfield 31, 3) := by decide +kernel
theorem dX8_owed_58 : decode cX8_owed 58 = .ok (.iload_n 1, 1) := by decide +kernel
theorem dX8_owed_59 : decode cX8_owed 59 = .ok (.iaload, 1) := by decide +kernel
theorem dX8_owed_60 : decode cX8_owed 60 = .ok (.bipush 6, 2) := by decide +kernel
theorem dX8_owed_62 : decode cX8_owed 62 = .ok (.invokevirtual 62, 3) := by decide +kernel
theorem dX8_owed_65 : decode cX8_owed 65 = .ok (.iconst 1, 1) := by decide +kernel
theorem dX8_owed_66 : decode cX8_owed 66 = .ok (.isub, 1) := by decide +kernel
theorem dX8_owed_67 : decode cX8_owed 67 = .ok (.ireturn, 1) := by decide +kernel
theorem dX8_weakestAt_0 : decode cX8_weakestAt 0 = .ok (.iconst 0, 1) := by decide +kernel
theorem dX8_weakestAt_1 : decode cX8_weakestAt 1 = .ok (.istore_n 2, 1) := by decide +kernel
theorem dX8_weakestAt_2 : decode cX8_weakestAt 2 = .ok (.iload_n 2, 1) := by decide +kernel
theorem dX8_weakestAt_3 : decode cX8_weakestAt 3 = .ok (.bipush 64, 2) := by decide +kernel
theorem dX8_weakestAt_5 : decode cX8_weakestAt 5 = .ok (.if_icmp .ge 92, 3) := by decide +kernel
theorem dX8_weakestAt_8 : decode cX8_weakestAt 8 = .ok (.iconst 0, 1) := by decide +kernel
theorem dX8_weakestAt_9 : decode cX8_weakestAt 9 = .ok (.istore_n 3, 1) := by decide +kernel
theorem dX8_weakestAt_10 : decode cX8_weakestAt 10 = .ok (.iconst 0, 1) := by decide +kernel
theorem dX8_weakestAt_11 : decode cX8_weakestAt 11 = .ok (.istore 4, 2) := by decide +kernel
theorem dX8_weakestAt_13 : decode cX8_weakestAt 13 = .ok (.iload 4, 2) := by decide +kernel
theorem dX8_weakestAt_15 : decode cX8_weakestAt 15 = .ok (.bipush 64, 2) := by decide +kernel
theorem dX8_weakestAt_17 : decode cX8_weakestAt 17 = .ok (.if_icmp .ge 67, 3) := by decide +kernel
theorem dX8_weakestAt_20 : decode cX8_weakestAt 20 = .ok (.aload_n 0, 1) := by decide +kernel
theorem dX8_weakestAt_21 : decode cX8_weakestAt 21 = .ok (.iload 4, 2) := by decide +kernel
theorem dX8_weakestAt_23 : decode cX8_weakestAt 23 = .ok (.iconst 1, 1) := by decide +kernel
theorem dX8_weakestAt_24 : decode cX8_weakestAt 24 = .ok (.invokevirtual 62, 3) := by decide +kernel
theorem dX8_weakestAt_27 : decode cX8_weakestAt 27 = .ok (.aload_n 0, 1) := by decide +kernel
theorem dX8_weakestAt_28 : decode cX8_weakestAt 28 = .ok (.iload_n 2, 1) := by decide +kernel
theorem dX8_weakestAt_29 : decode cX8_weakestAt 29 = .ok (.iconst 1, 1) := by decide +kernel
theorem dX8_weakestAt_30 : decode cX8_weakestAt 30 = .ok (.invokevirtual 62, 3) := by decide +kernel
theorem dX8_weakestAt_33 : decode cX8_weakestAt 33 = .ok (.if_icmp .ge 7, 3) := by decide +kernel
theorem dX8_weakestAt_36 : decode cX8_weakestAt 36 = .ok (.iconst 1, 1) := by decide +kernel
theorem dX8_weakestAt_37 : decode cX8_weakestAt 37 = .ok (.goto 4, 3) := by decide +kernel
theorem dX8_weakestAt_40 : decode cX8_weakestAt 40 = .ok (.iconst 0, 1) := by decide +kernel
theorem dX8_weakestAt_41 : decode cX8_weakestAt 41 = .ok (.istore 5, 2) := by decide +kernel
theorem dX8_weakestAt_43 : decode cX8_weakestAt 43 = .ok (.iload_n 3, 1) := by decide +kernel
theorem dX8_weakestAt_44 : decode cX8_weakestAt 44 = .ok (.iload 5, 2) := by decide +kernel
theorem dX8_weakestAt_46 : decode cX8_weakestAt 46 = .ok (.ifCond .ne 25, 3) := by decide +kernel
theorem dX8_weakestAt_49 : decode cX8_weakestAt 49 = .ok (.aload_n 0, 1) := by decide +kernel
theorem dX8_weakestAt_50 : decode cX8_weakestAt 50 = .ok (.iload 4, 2) := by decide +kernel
theorem dX8_weakestAt_52 : decode cX8_weakestAt 52 = .ok (.iconst 1, 1) := by decide +kernel
theorem dX8_weakestAt_53 : decode cX8_weakestAt 53 = .ok (.invokevirtual 62, 3) := by decide +kernel
theorem dX8_weakestAt_56 : decode cX8_weakestAt 56 = .ok (.aload_n 0, 1) := by decide +kernel
theorem dX8_weakestAt_57 : decode cX8_weakestAt 57 = .ok (.iload_n 2, 1) := by decide +kernel
theorem dX8_weakestAt_58 : decode cX8_weakestAt 58 = .ok (.iconst 1, 1) := by decide +kernel
theorem dX8_weakestAt_59 : decode cX8_weakestAt 59 = .ok (.invokevirtual 62, 3) := by decide +kernel
theorem dX8_weakestAt_62 : decode cX8_weakestAt 62 = .ok (.if_icmp .ne 13, 3) := by decide +kernel
theorem dX8_weakestAt_65 : decode cX8_weakestAt 65 = .ok (.iload 4, 2) := by decide +kernel
theorem dX8_weakestAt_67 : decode cX8_weakestAt 67 = .ok (.iload_n 2, 1) := by decide +kernel
theorem dX8_weakestAt_68 : decode cX8_weakestAt 68 = .ok (.if_icmp .ge 7, 3) := by decide +kernel
theorem dX8_weakestAt_71 : decode cX8_weakestAt 71 = .ok (.iconst 1, 1) := by decide +kernel
theorem dX8_weakestAt_72 : decode cX8_weakestAt 72 = .ok (.goto 4, 3) := by decide +kernel
theorem dX8_weakestAt_75 : decode cX8_weakestAt 75 = .ok (.iconst 0, 1) := by decide +kernel
theorem dX8_weakestAt_76 : decode cX8_weakestAt 76 = .ok (.iadd, 1) := by decide +kernel
theorem dX8_weakestAt_77 : decode cX8_weakestAt 77 = .ok (.istore_n 3, 1) := by decide +kernel
theorem dX8_weakestAt_78 : decode cX8_weakestAt 78 = .ok (.iinc 4 1, 3) := by decide +kernel
theorem dX8_weakestAt_81 : decode cX8_weakestAt 81 = .ok (.goto (-68), 3) := by decide +kernel
theorem dX8_weakestAt_84 : decode cX8_weakestAt 84 = .ok (.iload_n 3, 1) := by decide +kernel
theorem dX8_weakestAt_85 : decode cX8_weakestAt 85 = .ok (.iload_n 1, 1) := by decide +kernel
theorem dX8_weakestAt_86 : decode cX8_weakestAt 86 = .ok (.if_icmp .ne 5, 3) := by decide +kernel
theorem dX8_weakestAt_89 : decode cX8_weakestAt 89 = .ok (.iload_n 2, 1) := by decide +kernel
theorem dX8_weakestAt_90 : decode cX8_weakestAt 90 = .ok (.ireturn, 1) := by decide +kernel
theorem dX8_weakestAt_91 : decode cX8_weakestAt 91 = .ok (.iinc 2 1, 3) := by decide +kernel
theorem dX8_weakestAt_94 : decode cX8_weakestAt 94 = .ok (.goto (-92), 3) := by decide +kernel
theorem dX8_weakestAt_97 : decode cX8_weakestAt 97 = .ok (.iconst (-1), 1) := by decide +kernel
theorem dX8_weakestAt_98 : decode cX8_weakestAt 98 = .ok (.ireturn, 1) := by decide +kernel
theorem dX8_weakest_0 : decode cX8_weakest 0 = .ok (.aload_n 0, 1) := by decide +kernel
theorem dX8_weakest_1 : decode cX8_weakest 1 = .ok (.iconst 0, 1) := by decide +kernel
theorem dX8_weakest_2 : decode cX8_weakest 2 = .ok (.putfield 38, 3) := by decide +kernel
theorem dX8_weakest_5 : decode cX8_weakest 5 = .ok (.iload_n 1, 1) := by decide +kernel
theorem dX8_weakest_6 : decode cX8_weakest 6 = .ok (.invokestatic 66, 3) := by decide +kernel
theorem dX8_weakest_9 : decode cX8_weakest 9 = .ok (.ifCond .eq 11, 3) := by decide +kernel
theorem dX8_weakest_12 : decode cX8_weakest 12 = .ok (.aload_n 0, 1) := by decide +kernel
theorem dX8_weakest_13 : decode cX8_weakest 13 = .ok (.iload_n 1, 1) := by decide +kernel
theorem dX8_weakest_14 : decode cX8_weakest 14 = .ok (.invokevirtual 211, 3) := by decide +kernel
theorem dX8_weakest_17 : decode cX8_weakest 17 = .ok (.goto 8, 3) := by decide +kernel
theorem dX8_weakest_20 : decode cX8_weakest 20 = .ok (.aload_n 0, 1) := by decide +kernel
theorem dX8_weakest_21 : decode cX8_weakest 21 = .ok (.iconst 1, 1) := by decide +kernel
theorem dX8_weakest_22 : decode cX8_weakest 22 = .ok (.invokevirtual 49, 3) := by decide +kernel
theorem dX8_weakest_25 : decode cX8_weakest 25 = .ok (.ireturn, 1) := by decide +kernel
theorem dX8_coresWith_0 : decode cX8_coresWith 0 = .ok (.iconst 0, 1) := by decide +kernel
theorem dX8_coresWith_1 : decode cX8_coresWith 1 = .ok (.istore_n 2, 1) := by decide +kernel
theorem dX8_coresWith_2 : decode cX8_coresWith 2 = .ok (.iconst 0, 1) := by decide +kernel
theorem dX8_coresWith_3 : decode cX8_coresWith 3 = .ok (.istore_n 3, 1) := by decide +kernel
theorem dX8_coresWith_4 : decode cX8_coresWith 4 = .ok (.iload_n 3, 1) := by decide +kernel
theorem dX8_coresWith_5 : decode cX8_coresWith 5 = .ok (.bipush 64, 2) := by decide +kernel
theorem dX8_coresWith_7 : decode cX8_coresWith 7 = .ok (.if_icmp .ge 26, 3) := by decide +kernel
theorem dX8_coresWith_10 : decode cX8_coresWith 10 = .ok (.iload_n 2, 1) := by decide +kernel
theorem dX8_coresWith_11 : decode cX8_coresWith 11 = .ok (.aload_n 0, 1) := by decide +kernel
theorem dX8_coresWith_12 : decode cX8_coresWith 12 = .ok (.iload_n 3, 1) := by decide +kernel
theorem dX8_coresWith_13 : decode cX8_coresWith 13 = .ok (.iload_n 1, 1) := by decide +kernel
theorem dX8_coresWith_14 : decode cX8_coresWith 14 = .ok (.invokevirtual 62, 3) := by decide +kernel
theorem dX8_coresWith_17 : decode cX8_coresWith 17 = .ok (.ifCond .le 7, 3) := by decide +kernel
theorem dX8_coresWith_20 : decode cX8_coresWith 20 = .ok (.iconst 1, 1) := by decide +kernel
theorem dX8_coresWith_21 : decode cX8_coresWith 21 = .ok (.goto 4, 3) := by decide +kernel
theorem dX8_coresWith_24 : decode cX8_coresWith 24 = .ok (.iconst 0, 1) := by decide +kernel
theorem dX8_coresWith_25 : decode cX8_coresWith 25 = .ok (.iadd, 1) := by decide +kernel
theorem dX8_coresWith_26 : decode cX8_coresWith 26 = .ok (.istore_n 2, 1) := by decide +kernel
theorem dX8_coresWith_27 : decode cX8_coresWith 27 = .ok (.iinc 3 1, 3) := by decide +kernel
theorem dX8_coresWith_30 : decode cX8_coresWith 30 = .ok (.goto (-26), 3) := by decide +kernel
theorem dX8_coresWith_33 : decode cX8_coresWith 33 = .ok (.iload_n 2, 1) := by decide +kernel
theorem dX8_coresWith_34 : decode cX8_coresWith 34 = .ok (.ireturn, 1) := by decide +kernel
theorem dX8_counted_0 : decode cX8_counted 0 = .ok (.iload_n 1, 1) := by decide +kernel
theorem dX8_counted_1 : decode cX8_counted 1 = .ok (.tableswitch 103 4 18 #[75, 81, 87, 92, 103, 103, 103, 103, 103, 103, 103, 103, 103, 103, 98], 75) := by decide +kernel
theorem dX8_counted_76 : decode cX8_counted 76 = .ok (.aload_n 0, 1) := by decide +kernel
theorem dX8_counted_77 : decode cX8_counted 77 = .ok (.iconst 2, 1) := by decide +kernel
theorem dX8_counted_78 : decode cX8_counted 78 = .ok (.invokevirtual 214, 3) := by decide +kernel
theorem dX8_counted_81 : decode cX8_counted 81 = .ok (.ireturn, 1) := by decide +kernel
theorem dX8_counted_82 : decode cX8_counted 82 = .ok (.aload_n 0, 1) := by decide +kernel
theorem dX8_counted_83 : decode cX8_counted 83 = .ok (.iconst 4, 1) := by decide +kernel
theorem dX8_counted_84 : decode cX8_counted 84 = .ok (.invokevirtual 214, 3) := by decide +kernel
theorem dX8_counted_87 : decode cX8_counted 87 = .ok (.ireturn, 1) := by decide +kernel
theorem dX8_counted_88 : decode cX8_counted 88 = .ok (.aload_n 0, 1) := by decide +kernel
theorem dX8_counted_89 : decode cX8_counted 89 = .ok (.invokevirtual 145, 3) := by decide +kernel
theorem dX8_counted_92 : decode cX8_counted 92 = .ok (.ireturn, 1) := by decide +kernel
theorem dX8_counted_93 : decode cX8_counted 93 = .ok (.aload_n 0, 1) := by decide +kernel
theorem dX8_counted_94 : decode cX8_counted 94 = .ok (.iconst 0, 1) := by decide +kernel
theorem dX8_counted_95 : decode cX8_counted 95 = .ok (.invokevirtual 214, 3) := by decide +kernel
theorem dX8_counted_98 : decode cX8_counted 98 = .ok (.ireturn, 1) := by decide +kernel
theorem dX8_counted_99 : decode cX8_counted 99 = .ok (.aload_n 0, 1) := by decide +kernel
theorem dX8_counted_100 : decode cX8_counted 100 = .ok (.getfield 46, 3) := by decide +kernel
theorem dX8_counted_103 : decode cX8_counted 103 = .ok (.ireturn, 1) := by decide +kernel
theorem dX8_counted_104 : decode cX8_counted 104 = .ok (.iload_n 1, 1) := by decide +kernel
theorem dX8_counted_105 : decode cX8_counted 105 = .ok (.iconst 4, 1) := by decide +kernel
theorem dX8_counted_106 : decode cX8_counted 106 = .ok (.if_icmp .ge 12, 3) := by decide +kernel
theorem dX8_counted_109 : decode cX8_counted 109 = .ok (.aload_n 0, 1) := by decide +kernel
theorem dX8_counted_110 : decode cX8_counted 110 = .ok (.getfield 7, 3) := by decide +kernel
theorem dX8_counted_113 : decode cX8_counted 113 = .ok (.iload_n 1, 1) := by decide +kernel
theorem dX8_counted_114 : decode cX8_counted 114 = .ok (.iaload, 1) := by decide +kernel
theorem dX8_counted_115 : decode cX8_counted 115 = .ok (.goto 11, 3) := by decide +kernel
theorem dX8_counted_118 : decode cX8_counted 118 = .ok (.aload_n 0, 1) := by decide +kernel
theorem dX8_counted_119 : decode cX8_counted 119 = .ok (.getfield 7, 3) := by decide +kernel
theorem dX8_counted_122 : decode cX8_counted 122 = .ok (.iload_n 1, 1) := by decide +kernel
theorem dX8_counted_123 : decode cX8_counted 123 = .ok (.iconst 4, 1) := by decide +kernel
theorem dX8_counted_124 : decode cX8_counted 124 = .ok (.isub, 1) := by decide +kernel
theorem dX8_counted_125 : decode cX8_counted 125 = .ok (.iaload, 1) := by decide +kernel
theorem dX8_counted_126 : decode cX8_counted 126 = .ok (.ireturn, 1) := by decide +kernel
theorem dX8_count_0 : decode cX8_count 0 = .ok (.aload_n 0, 1) := by decide +kernel
theorem dX8_count_1 : decode cX8_count 1 = .ok (.iconst 0, 1) := by decide +kernel
theorem dX8_count_2 : decode cX8_count 2 = .ok (.putfield 38, 3) := by decide +kernel
theorem dX8_count_5 : decode cX8_count 5 = .ok (.iload_n 1, 1) := by decide +kernel
theorem dX8_count_6 : decode cX8_count 6 = .ok (.iconst 0, 1) := by decide +kernel
theorem dX8_count_7 : decode cX8_count 7 = .ok (.bipush 18, 2) := by decide +kernel
theorem dX8_count_9 : decode cX8_count 9 = .ok (.invokestatic 42, 3) := by decide +kernel
theorem dX8_count_12 : decode cX8_count 12 = .ok (.ifCond .eq 11, 3) := by decide +kernel
theorem dX8_count_15 : decode cX8_count 15 = .ok (.aload_n 0, 1) := by decide +kernel
theorem dX8_count_16 : decode cX8_count 16 = .ok (.iload_n 1, 1) := by decide +kernel
theorem dX8_count_17 : decode cX8_count 17 = .ok (.invokevirtual 217, 3) := by decide +kernel
theorem dX8_count_20 : decode cX8_count 20 = .ok (.goto 8, 3) := by decide +kernel
theorem dX8_count_23 : decode cX8_count 23 = .ok (.aload_n 0, 1) := by decide +kernel
theorem dX8_count_24 : decode cX8_count 24 = .ok (.iconst 1, 1) := by decide +kernel
theorem dX8_count_25 : decode cX8_count 25 = .ok (.invokevirtual 49, 3) := by decide +kernel
theorem dX8_count_28 : decode cX8_count 28 = .ok (.ireturn, 1) := by decide +kernel
theorem dX8_setting_0 : decode cX8_setting 0 = .ok (.aload_n 0, 1) := by decide +kernel
theorem dX8_setting_1 : decode cX8_setting 1 = .ok (.iconst 0, 1) := by decide +kernel
theorem dX8_setting_2 : decode cX8_setting 2 = .ok (.putfield 38, 3) := by decide +kernel
theorem dX8_setting_5 : decode cX8_setting 5 = .ok (.iload_n 1, 1) := by decide +kernel
theorem dX8_setting_6 : decode cX8_setting 6 = .ok (.iconst 0, 1) := by decide +kernel
theorem dX8_setting_7 : decode cX8_setting 7 = .ok (.bipush 7, 2) := by decide +kernel
theorem dX8_setting_9 : decode cX8_setting 9 = .ok (.invokestatic 42, 3) := by decide +kernel
theorem dX8_setting_12 : decode cX8_setting 12 = .ok (.ifCond .eq 11, 3) := by decide +kernel
theorem dX8_setting_15 : decode cX8_setting 15 = .ok (.aload_n 0, 1) := by decide +kernel
theorem dX8_setting_16 : decode cX8_setting 16 = .ok (.iload_n 1, 1) := by decide +kernel
theorem dX8_setting_17 : decode cX8_setting 17 = .ok (.invokevirtual 59, 3) := by decide +kernel
theorem dX8_setting_20 : decode cX8_setting 20 = .ok (.goto 8, 3) := by decide +kernel
theorem dX8_setting_23 : decode cX8_setting 23 = .ok (.aload_n 0, 1) := by decide +kernel
theorem dX8_setting_24 : decode cX8_setting 24 = .ok (.iconst 1, 1) := by decide +kernel
theorem dX8_setting_25 : decode cX8_setting 25 = .ok (.invokevirtual 49, 3) := by decide +kernel
theorem dX8_setting_28 : decode cX8_setting 28 = .ok (.ireturn, 1) := by decide +kernel
theorem dX8_premium_0 : decode cX8_premium 0 = .ok (.aload_n 0, 1) := by decide +kernel
theorem dX8_premium_1 : decode cX8_premium 1 = .ok (.iconst 0, 1) := by decide +kernel
theorem dX8_premium_2 : decode cX8_premium 2 = .ok (.putfield 38, 3) := by decide +kernel
theorem dX8_premium_5 : decode cX8_premium 5 = .ok (.iload_n 1, 1) := by decide +kernel
theorem dX8_premium_6 : decode cX8_premium 6 = .ok (.invokestatic 66, 3) := by decide +kernel
theorem dX8_premium_9 : decode cX8_premium 9 = .ok (.ifCond .eq 11, 3) := by decide +kernel
theorem dX8_premium_12 : decode cX8_premium 12 = .ok (.aload_n 0, 1) := by decide +kernel
theorem dX8_premium_13 : decode cX8_premium 13 = .ok (.iload_n 2, 1) := by decide +kernel
theorem dX8_premium_14 : decode cX8_premium 14 = .ok (.invokevirtual 89, 3) := by decide +kernel
theorem dX8_premium_17 : decode cX8_premium 17 = .ok (.ifCond .ne 9, 3) := by decide +kernel
theorem dX8_premium_20 : decode cX8_premium 20 = .ok (.aload_n 0, 1) := by decide +kernel
theorem dX8_premium_21 : decode cX8_premium 21 = .ok (.iconst 1, 1) := by decide +kernel
theorem dX8_premium_22 : decode cX8_premium 22 = .ok (.invokevirtual 49, 3) := by decide +kernel
theorem dX8_premium_25 : decode cX8_premium 25 = .ok (.ireturn, 1) := by decide +kernel
theorem dX8_premium_26 : decode cX8_premium 26 = .ok (.iload_n 3, 1) := by decide +kernel
theorem dX8_premium_27 : decode cX8_premium 27 = .ok (.invokestatic 73, 3) := by decide +kernel
theorem dX8_premium_30 : decode cX8_premium 30 = .ok (.ifCond .eq 13, 3) := by decide +kernel
theorem dX8_premium_33 : decode cX8_premium 33 = .ok (.aload_n 0, 1) := by decide +kernel
theorem dX8_premium_34 : decode cX8_premium 34 = .ok (.iload_n 1, 1) := by decide +kernel
theorem dX8_premium_35 : decode cX8_premium 35 = .ok (.iload_n 2, 1) := by decide +kernel
theorem dX8_premium_36 : decode cX8_premium 36 = .ok (.iload_n 3, 1) := by decide +kernel
theorem dX8_premium_37 : decode cX8_premium 37 = .ok (.invokevirtual 92, 3) := by decide +kernel
theorem dX8_premium_40 : decode cX8_premium 40 = .ok (.goto 8, 3) := by decide +kernel
theorem dX8_premium_43 : decode cX8_premium 43 = .ok (.aload_n 0, 1) := by decide +kernel
theorem dX8_premium_44 : decode cX8_premium 44 = .ok (.iconst 2, 1) := by decide +kernel
theorem dX8_premium_45 : decode cX8_premium 45 = .ok (.invokevirtual 49, 3) := by decide +kernel
theorem dX8_premium_48 : decode cX8_premium 48 = .ok (.ireturn, 1) := by decide +kernel
theorem dX8_cheapestNow_0 : decode cX8_cheapestNow 0 = .ok (.iconst (-1), 1) := by decide +kernel
theorem dX8_cheapestNow_1 : decode cX8_cheapestNow 1 = .ok (.istore 4, 2) := by decide +kernel
theorem dX8_cheapestNow_3 : decode cX8_cheapestNow 3 = .ok (.iconst 0, 1) := by decide +kernel
theorem dX8_cheapestNow_4 : decode cX8_cheapestNow 4 = .ok (.istore 5, 2) := by decide +kernel
theorem dX8_cheapestNow_6 : decode cX8_cheapestNow 6 = .ok (.iload 5, 2) := by decide +kernel
theorem dX8_cheapestNow_8 : decode cX8_cheapestNow 8 = .ok (.aload_n 0, 1) := by decide +kernel
theorem dX8_cheapestNow_9 : decode cX8_cheapestNow 9 = .ok (.getfield 7, 3) := by decide +kernel
theorem dX8_cheapestNow_12 : decode cX8_cheapestNow 12 = .ok (.iconst 3, 1) := by decide +kernel
theorem dX8_cheapestNow_13 : decode cX8_cheapestNow 13 = .ok (.iaload, 1) := by decide +kernel
theorem dX8_cheapestNow_14 : decode cX8_cheapestNow 14 = .ok (.if_icmp .ge 66, 3) := by decide +kernel
theorem dX8_cheapestNow_17 : decode cX8_cheapestNow 17 = .ok (.aload_n 0, 1) := by decide +kernel
theorem dX8_cheapestNow_18 : decode cX8_cheapestNow 18 = .ok (.iload 5, 2) := by decide +kernel
theorem dX8_cheapestNow_20 : decode cX8_cheapestNow 20 = .ok (.iconst 2, 1) := by decide +kernel
theorem dX8_cheapestNow_21 : decode cX8_cheapestNow 21 = .ok (.invokevirtual 82, 3) := by decide +kernel
theorem dX8_cheapestNow_24 : decode cX8_cheapestNow 24 = .ok (.iload_n 2, 1) := by decide +kernel
theorem dX8_cheapestNow_25 : decode cX8_cheapestNow 25 = .ok (.if_icmp .lt 7, 3) := by decide +kernel
theorem dX8_cheapestNow_28 : decode cX8_cheapestNow 28 = .ok (.iconst 1, 1) := by decide +kernel
theorem dX8_cheapestNow_29 : decode cX8_cheapestNow 29 = .ok (.goto 4, 3) := by decide +kernel
theorem dX8_cheapestNow_32 : decode cX8_cheapestNow 32 = .ok (.iconst 0, 1) := by decide +kernel
theorem dX8_cheapestNow_33 : decode cX8_cheapestNow 33 = .ok (.istore 6, 2) := by decide +kernel
theorem dX8_cheapestNow_35 : decode cX8_cheapestNow 35 = .ok (.iload 6, 2) := by decide +kernel
theorem dX8_cheapestNow_37 : decode cX8_cheapestNow 37 = .ok (.ifCond .eq 33, 3) := by decide +kernel
theorem dX8_cheapestNow_40 : decode cX8_cheapestNow 40 = .ok (.iload 4, 2) := by decide +kernel
theorem dX8_cheapestNow_42 : decode cX8_cheapestNow 42 = .ok (.iconst (-1), 1) := by decide +kernel
theorem dX8_cheapestNow_43 : decode cX8_cheapestNow 43 = .ok (.if_icmp .eq 22, 3) := by decide +kernel
theorem dX8_cheapestNow_46 : decode cX8_cheapestNow 46 = .ok (.aload_n 0, 1) := by decide +kernel
theorem dX8_cheapestNow_47 : decode cX8_cheapestNow 47 = .ok (.iload_n 1, 1) := by decide +kernel
theorem dX8_cheapestNow_48 : decode cX8_cheapestNow 48 = .ok (.iload 5, 2) := by decide +kernel
theorem dX8_cheapestNow_50 : decode cX8_cheapestNow 50 = .ok (.iload_n 3, 1) := by decide +kernel
theorem dX8_cheapestNow_51 : decode cX8_cheapestNow 51 = .ok (.invokevirtual 92, 3) := by decide +kernel
theorem dX8_cheapestNow_54 : decode cX8_cheapestNow 54 = .ok (.aload_n 0, 1) := by decide +kernel
theorem dX8_cheapestNow_55 : decode cX8_cheapestNow 55 = .ok (.iload_n 1, 1) := by decide +kernel
theorem dX8_cheapestNow_56 : decode cX8_cheapestNow 56 = .ok (.iload 4, 2) := by decide +kernel
theorem dX8_cheapestNow_58 : decode cX8_cheapestNow 58 = .ok (.iload_n 3, 1) := by decide +kernel
theorem dX8_cheapestNow_59 : decode cX8_cheapestNow 59 = .ok (.invokevirtual 92, 3) := by decide +kernel
theorem dX8_cheapestNow_62 : decode cX8_cheapestNow 62 = .ok (.if_icmp .ge 8, 3) := by decide +kernel
theorem dX8_cheapestNow_65 : decode cX8_cheapestNow 65 = .ok (.iload 5, 2) := by decide +kernel
theorem dX8_cheapestNow_67 : decode cX8_cheapestNow 67 = .ok (.goto 5, 3) := by decide +kernel
theorem dX8_cheapestNow_70 : decode cX8_cheapestNow 70 = .ok (.iload 4, 2) := by decide +kernel
theorem dX8_cheapestNow_72 : decode cX8_cheapestNow 72 = .ok (.istore 4, 2) := by decide +kernel
theorem dX8_cheapestNow_74 : decode cX8_cheapestNow 74 = .ok (.iinc 5 1, 3) := by decide +kernel
theorem dX8_cheapestNow_77 : decode cX8_cheapestNow 77 = .ok (.goto (-71), 3) := by decide +kernel
theorem dX8_cheapestNow_80 : decode cX8_cheapestNow 80 = .ok (.iload 4, 2) := by decide +kernel
theorem dX8_cheapestNow_82 : decode cX8_cheapestNow 82 = .ok (.ireturn, 1) := by decide +kernel
theorem dX8_cheapest_0 : decode cX8_cheapest 0 = .ok (.aload_n 0, 1) := by decide +kernel
theorem dX8_cheapest_1 : decode cX8_cheapest 1 = .ok (.iconst 0, 1) := by decide +kernel
theorem dX8_cheapest_2 : decode cX8_cheapest 2 = .ok (.putfield 38, 3) := by decide +kernel
theorem dX8_cheapest_5 : decode cX8_cheapest 5 = .ok (.iload_n 1, 1) := by decide +kernel
theorem dX8_cheapest_6 : decode cX8_cheapest 6 = .ok (.invokestatic 66, 3) := by decide +kernel
theorem dX8_cheapest_9 : decode cX8_cheapest 9 = .ok (.ifCond .ne 9, 3) := by decide +kernel
theorem dX8_cheapest_12 : decode cX8_cheapest 12 = .ok (.aload_n 0, 1) := by decide +kernel
theorem dX8_cheapest_13 : decode cX8_cheapest 13 = .ok (.iconst 1, 1) := by decide +kernel
theorem dX8_cheapest_14 : decode cX8_cheapest 14 = .ok (.invokevirtual 49, 3) := by decide +kernel
theorem dX8_cheapest_17 : decode cX8_cheapest 17 = .ok (.ireturn, 1) := by decide +kernel
theorem dX8_cheapest_18 : decode cX8_cheapest 18 = .ok (.iload_n 2, 1) := by decide +kernel
theorem dX8_cheapest_19 : decode cX8_cheapest 19 = .ok (.iconst 1, 1) := by decide +kernel
theorem dX8_cheapest_20 : decode cX8_cheapest 20 = .ok (.sipush 500, 3) := by decide +kernel
theorem dX8_cheapest_23 : decode cX8_cheapest 23 = .ok (.invokestatic 42, 3) := by decide +kernel
theorem dX8_cheapest_26 : decode cX8_cheapest 26 = .ok (.ifCond .eq 20, 3) := by decide +kernel
theorem dX8_cheapest_29 : decode cX8_cheapest 29 = .ok (.iload_n 3, 1) := by decide +kernel
theorem dX8_cheapest_30 : decode cX8_cheapest 30 = .ok (.invokestatic 73, 3) := by decide +kernel
theorem dX8_cheapest_33 : decode cX8_cheapest 33 = .ok (.ifCond .eq 13, 3) := by decide +kernel
theorem dX8_cheapest_36 : decode cX8_cheapest 36 = .ok (.aload_n 0, 1) := by decide +kernel
theorem dX8_cheapest_37 : decode cX8_cheapest 37 = .ok (.iload_n 1, 1) := by decide +kernel
theorem dX8_cheapest_38 : decode cX8_cheapest 38 = .ok (.iload_n 2, 1) := by decide +kernel
theorem dX8_cheapest_39 : decode cX8_cheapest 39 = .ok (.iload_n 3, 1) := by decide +kernel
theorem dX8_cheapest_40 : decode cX8_cheapest 40 = .ok (.invokevirtual 220, 3) := by decide +kernel
theorem dX8_cheapest_43 : decode cX8_cheapest 43 = .ok (.goto 8, 3) := by decide +kernel
theorem dX8_cheapest_46 : decode cX8_cheapest 46 = .ok (.aload_n 0, 1) := by decide +kernel
theorem dX8_cheapest_47 : decode cX8_cheapest 47 = .ok (.iconst 2, 1) := by decide +kernel
theorem dX8_cheapest_48 : decode cX8_cheapest 48 = .ok (.invokevirtual 49, 3) := by decide +kernel
theorem dX8_cheapest_51 : decode cX8_cheapest 51 = .ok (.ireturn, 1) := by decide +kernel
theorem dX8_waitNow_0 : decode cX8_waitNow 0 = .ok (.iconst 0, 1) := by decide +kernel
theorem dX8_waitNow_1 : decode cX8_waitNow 1 = .ok (.istore 5, 2) := by decide +kernel
theorem dX8_waitNow_3 : decode cX8_waitNow 3 = .ok (.iload 5, 2) := by decide +kernel
theorem dX8_waitNow_5 : decode cX8_waitNow 5 = .ok (.sipush 200, 3) := by decide +kernel
theorem dX8_waitNow_8 : decode cX8_waitNow 8 = .ok (.if_icmp .gt 43, 3) := by decide +kernel
theorem dX8_waitNow_11 : decode cX8_waitNow 11 = .ok (.aload_n 0, 1) := by decide +kernel
theorem dX8_waitNow_12 : decode cX8_waitNow 12 = .ok (.iload_n 1, 1) := by decide +kernel
theorem dX8_waitNow_13 : decode cX8_waitNow 13 = .ok (.iload_n 2, 1) := by decide +kernel
theorem dX8_waitNow_14 : decode cX8_waitNow 14 = .ok (.iload_n 3, 1) := by decide +kernel
theorem dX8_waitNow_15 : decode cX8_waitNow 15 = .ok (.aload_n 0, 1) := by decide +kernel
theorem dX8_waitNow_16 : decode cX8_waitNow 16 = .ok (.getfield 7, 3) := by decide +kernel
theorem dX8_waitNow_19 : decode cX8_waitNow 19 = .ok (.iconst 1, 1) := by decide +kernel
theorem dX8_waitNow_20 : decode cX8_waitNow 20 = .ok (.iaload, 1) := by decide +kernel
theorem dX8_waitNow_21 : decode cX8_waitNow 21 = .ok (.iload 5, 2) := by decide +kernel
theorem dX8_waitNow_23 : decode cX8_waitNow 23 = .ok (.aload_n 0, 1) := by decide +kernel
theorem dX8_waitNow_24 : decode cX8_waitNow 24 = .ok (.bipush 6, 2) := by decide +kernel
theorem dX8_waitNow_26 : decode cX8_waitNow 26 = .ok (.invokevirtual 59, 3) := by decide +kernel
theorem dX8_waitNow_29 : decode cX8_waitNow 29 = .ok (.imul, 1) := by decide +kernel
theorem dX8_waitNow_30 : decode cX8_waitNow 30 = .ok (.isub, 1) := by decide +kernel
theorem dX8_waitNow_31 : decode cX8_waitNow 31 = .ok (.invokestatic 100, 3) := by decide +kernel
theorem dX8_waitNow_34 : decode cX8_waitNow 34 = .ok (.invokevirtual 85, 3) := by decide +kernel
theorem dX8_waitNow_37 : decode cX8_waitNow 37 = .ok (.iload 4, 2) := by decide +kernel
theorem dX8_waitNow_39 : decode cX8_waitNow 39 = .ok (.if_icmp .gt 6, 3) := by decide +kernel
theorem dX8_waitNow_42 : decode cX8_waitNow 42 = .ok (.iload 5, 2) := by decide +kernel
theorem dX8_waitNow_44 : decode cX8_waitNow 44 = .ok (.ireturn, 1) := by decide +kernel
theorem dX8_waitNow_45 : decode cX8_waitNow 45 = .ok (.iinc 5 1, 3) := by decide +kernel
theorem dX8_waitNow_48 : decode cX8_waitNow 48 = .ok (.goto (-45), 3) := by decide +kernel
theorem dX8_waitNow_51 : decode cX8_waitNow 51 = .ok (.iconst (-1), 1) := by decide +kernel
theorem dX8_waitNow_52 : decode cX8_waitNow 52 = .ok (.ireturn, 1) := by decide +kernel
theorem dX8_waitFor_0 : decode cX8_waitFor 0 = .ok (.aload_n 0, 1) := by decide +kernel
theorem dX8_waitFor_1 : decode cX8_waitFor 1 = .ok (.iconst 0, 1) := by decide +kernel
theorem dX8_waitFor_2 : decode cX8_waitFor 2 = .ok (.putfield 38, 3) := by decide +kernel
theorem dX8_waitFor_5 : decode cX8_waitFor 5 = .ok (.iload_n 1, 1) := by decide +kernel
theorem dX8_waitFor_6 : decode cX8_waitFor 6 = .ok (.invokestatic 66, 3) := by decide +kernel
theorem dX8_waitFor_9 : decode cX8_waitFor 9 = .ok (.ifCond .eq 11, 3) := by decide +kernel
theorem dX8_waitFor_12 : decode cX8_waitFor 12 = .ok (.aload_n 0, 1) := by decide +kernel
theorem dX8_waitFor_13 : decode cX8_waitFor 13 = .ok (.iload_n 2, 1) := by decide +kernel
theorem dX8_waitFor_14 : decode cX8_waitFor 14 = .ok (.invokevirtual 89, 3) := by decide +kernel
theorem dX8_waitFor_17 : decode cX8_waitFor 17 = .ok (.ifCond .ne 9, 3) := by decide +kernel
theorem dX8_waitFor_20 : decode cX8_waitFor 20 = .ok (.aload_n 0, 1) := by decide +kernel
theorem dX8_waitFor_21 : decode cX8_waitFor 21 = .ok (.iconst 1, 1) := by decide +kernel
theorem dX8_waitFor_22 : decode cX8_waitFor 22 = .ok (.invokevirtual 49, 3) := by decide +kernel
theorem dX8_waitFor_25 : decode cX8_waitFor 25 = .ok (.ireturn, 1) := by decide +kernel
theorem dX8_waitFor_26 : decode cX8_waitFor 26 = .ok (.iload_n 3, 1) := by decide +kernel
theorem dX8_waitFor_27 : decode cX8_waitFor 27 = .ok (.invokestatic 73, 3) := by decide +kernel
theorem dX8_waitFor_30 : decode cX8_waitFor 30 = .ok (.ifCond .eq 27, 3) := by decide +kernel
theorem dX8_waitFor_33 : decode cX8_waitFor 33 = .ok (.iload 4, 2) := by decide +kernel
theorem dX8_waitFor_35 : decode cX8_waitFor 35 = .ok (.iconst 1, 1) := by decide +kernel
theorem dX8_waitFor_36 : decode cX8_waitFor 36 = .ok (.sipush 10000, 3) := by decide +kernel
theorem dX8_waitFor_39 : decode cX8_waitFor 39 = .ok (.invokestatic 42, 3) := by decide +kernel
theorem dX8_waitFor_42 : decode cX8_waitFor 42 = .ok (.ifCond .eq 15, 3) := by decide +kernel
theorem dX8_waitFor_45 : decode cX8_waitFor 45 = .ok (.aload_n 0, 1) := by decide +kernel
theorem dX8_waitFor_46 : decode cX8_waitFor 46 = .ok (.iload_n 1, 1) := by decide +kernel
theorem dX8_waitFor_47 : decode cX8_waitFor 47 = .ok (.iload_n 2, 1) := by decide +kernel
theorem dX8_waitFor_48 : decode cX8_waitFor 48 = .ok (.iload_n 3, 1) := by decide +kernel
theorem dX8_waitFor_49 : decode cX8_waitFor 49 = .ok (.iload 4, 2) := by decide +kernel
theorem dX8_waitFor_51 : decode cX8_waitFor 51 = .ok (.invokevirtual 223, 3) := by decide +kernel
theorem dX8_waitFor_54 : decode cX8_waitFor 54 = .ok (.goto 8, 3) := by decide +kernel
theorem dX8_waitFor_57 : decode cX8_waitFor 57 = .ok (.aload_n 0, 1) := by decide +kernel
theorem dX8_waitFor_58 : decode cX8_waitFor 58 = .ok (.iconst 2, 1) := by decide +kernel
theorem dX8_waitFor_59 : decode cX8_waitFor 59 = .ok (.invokevirtual 49, 3) := by decide +kernel
theorem dX8_waitFor_62 : decode cX8_waitFor 62 = .ok (.ireturn, 1) := by decide +kernel
theorem dX8_disturbs_0 : decode cX8_disturbs 0 = .ok (.iconst 0, 1) := by decide +kernel
theorem dX8_disturbs_1 : decode cX8_disturbs 1 = .ok (.istore_n 3, 1) := by decide +kernel
theorem dX8_disturbs_2 : decode cX8_disturbs 2 = .ok (.iconst 0, 1) := by decide +kernel
theorem dX8_disturbs_3 : decode cX8_disturbs 3 = .ok (.istore 4, 2) := by decide +kernel
theorem dX8_disturbs_5 : decode cX8_disturbs 5 = .ok (.iload 4, 2) := by decide +kernel
theorem dX8_disturbs_7 : decode cX8_disturbs 7 = .ok (.bipush 64, 2) := by decide +kernel
theorem dX8_disturbs_9 : decode cX8_disturbs 9 = .ok (.if_icmp .ge 84, 3) := by decide +kernel
theorem dX8_disturbs_12 : decode cX8_disturbs 12 = .ok (.iload_n 2, 1) := by decide +kernel
theorem dX8_disturbs_13 : decode cX8_disturbs 13 = .ok (.ifCond .eq 36, 3) := by decide +kernel
theorem dX8_disturbs_16 : decode cX8_disturbs 16 = .ok (.iload_n 2, 1) := by decide +kernel
theorem dX8_disturbs_17 : decode cX8_disturbs 17 = .ok (.iconst 1, 1) := by decide +kernel
theorem dX8_disturbs_18 : decode cX8_disturbs 18 = .ok (.if_icmp .ne 13, 3) := by decide +kernel
theorem dX8_disturbs_21 : decode cX8_disturbs 21 = .ok (.aload_n 0, 1) := by decide +kernel
theorem dX8_disturbs_22 : decode cX8_disturbs 22 = .ok (.iload 4, 2) := by decide +kernel
theorem dX8_disturbs_24 : decode cX8_disturbs 24 = .ok (.iconst 4, 1) := by decide +kernel
theorem dX8_disturbs_25 : decode cX8_disturbs 25 = .ok (.invokevirtual 62, 3) := by decide +kernel
theorem dX8_disturbs_28 : decode cX8_disturbs 28 = .ok (.ifCond .gt 21, 3) := by decide +kernel
theorem dX8_disturbs_31 : decode cX8_disturbs 31 = .ok (.iload_n 2, 1) := by decide +kernel
theorem dX8_disturbs_32 : decode cX8_disturbs 32 = .ok (.iconst 1, 1) := by decide +kernel
theorem dX8_disturbs_33 : decode cX8_disturbs 33 = .ok (.if_icmp .le 20, 3) := by decide +kernel
theorem dX8_disturbs_36 : decode cX8_disturbs 36 = .ok (.aload_n 0, 1) := by decide +kernel
theorem dX8_disturbs_37 : decode cX8_disturbs 37 = .ok (.iload 4, 2) := by decide +kernel
theorem dX8_disturbs_39 : decode cX8_disturbs 39 = .ok (.iconst 2, 1) := by decide +kernel
theorem dX8_disturbs_40 : decode cX8_disturbs 40 = .ok (.invokevirtual 62, 3) := by decide +kernel
theorem dX8_disturbs_43 : decode cX8_disturbs 43 = .ok (.iload_n 2, 1) := by decide +kernel
theorem dX8_disturbs_44 : decode cX8_disturbs 44 = .ok (.iconst 1, 1) := by decide +kernel
theorem dX8_disturbs_45 : decode cX8_disturbs 45 = .ok (.isub, 1) := by decide +kernel
theorem dX8_disturbs_46 : decode cX8_disturbs 46 = .ok (.if_icmp .ne 7, 3) := by decide +kernel
theorem dX8_disturbs_49 : decode cX8_disturbs 49 = .ok (.iconst 1, 1) := by decide +kernel
theorem dX8_disturbs_50 : decode cX8_disturbs 50 = .ok (.goto 4, 3) := by decide +kernel
theorem dX8_disturbs_53 : decode cX8_disturbs 53 = .ok (.iconst 0, 1) := by decide +kernel
theorem dX8_disturbs_54 : decode cX8_disturbs 54 = .ok (.istore 5, 2) := by decide +kernel
theorem dX8_disturbs_56 : decode cX8_disturbs 56 = .ok (.iload_n 3, 1) := by decide +kernel
theorem dX8_disturbs_57 : decode cX8_disturbs 57 = .ok (.iload 5, 2) := by decide +kernel
theorem dX8_disturbs_59 : decode cX8_disturbs 59 = .ok (.ifCond .eq 25, 3) := by decide +kernel
theorem dX8_disturbs_62 : decode cX8_disturbs 62 = .ok (.iload_n 1, 1) := by decide +kernel
theorem dX8_disturbs_63 : decode cX8_disturbs 63 = .ok (.iload 4, 2) := by decide +kernel
theorem dX8_disturbs_65 : decode cX8_disturbs 65 = .ok (.invokestatic 109, 3) := by decide +kernel
theorem dX8_disturbs_68 : decode cX8_disturbs 68 = .ok (.ifCond .eq 16, 3) := by decide +kernel
theorem dX8_disturbs_71 : decode cX8_disturbs 71 = .ok (.aload_n 0, 1) := by decide +kernel
theorem dX8_disturbs_72 : decode cX8_disturbs 72 = .ok (.iload 4, 2) := by decide +kernel
theorem dX8_disturbs_74 : decode cX8_disturbs 74 = .ok (.invokevirtual 113, 3) := by decide +kernel
theorem dX8_disturbs_77 : decode cX8_disturbs 77 = .ok (.ifCond .eq 7, 3) := by decide +kernel
theorem dX8_disturbs_80 : decode cX8_disturbs 80 = .ok (.iconst 1, 1) := by decide +kernel
theorem dX8_disturbs_81 : decode cX8_disturbs 81 = .ok (.goto 4, 3) := by decide +kernel
theorem dX8_disturbs_84 : decode cX8_disturbs 84 = .ok (.iconst 0, 1) := by decide +kernel
theorem dX8_disturbs_85 : decode cX8_disturbs 85 = .ok (.iadd, 1) := by decide +kernel
theorem dX8_disturbs_86 : decode cX8_disturbs 86 = .ok (.istore_n 3, 1) := by decide +kernel
theorem dX8_disturbs_87 : decode cX8_disturbs 87 = .ok (.iinc 4 1, 3) := by decide +kernel
theorem dX8_disturbs_90 : decode cX8_disturbs 90 = .ok (.goto (-85), 3) := by decide +kernel
theorem dX8_disturbs_93 : decode cX8_disturbs 93 = .ok (.iload_n 3, 1) := by decide +kernel
theorem dX8_disturbs_94 : decode cX8_disturbs 94 = .ok (.ireturn, 1) := by decide +kernel
theorem dX8_readNow_0 : decode cX8_readNow 0 = .ok (.iload_n 2, 1) := by decide +kernel
theorem dX8_readNow_1 : decode cX8_readNow 1 = .ok (.tableswitch 61 0 3 #[31, 38, 45, 55], 31) := by decide +kernel
theorem dX8_readNow_32 : decode cX8_readNow 32 = .ok (.aload_n 0, 1) := by decide +kernel
theorem dX8_readNow_33 : decode cX8_readNow 33 = .ok (.iload_n 1, 1) := by decide +kernel
theorem dX8_readNow_34 : decode cX8_readNow 34 = .ok (.iconst 0, 1) := by decide +kernel
theorem dX8_readNow_35 : decode cX8_readNow 35 = .ok (.invokevirtual 62, 3) := by decide +kernel
theorem dX8_readNow_38 : decode cX8_readNow 38 = .ok (.ireturn, 1) := by decide +kernel
theorem dX8_readNow_39 : decode cX8_readNow 39 = .ok (.aload_n 0, 1) := by decide +kernel
theorem dX8_readNow_40 : decode cX8_readNow 40 = .ok (.iload_n 1, 1) := by decide +kernel
theorem dX8_readNow_41 : decode cX8_readNow 41 = .ok (.iconst 0, 1) := by decide +kernel
theorem dX8_readNow_42 : decode cX8_readNow 42 = .ok (.invokevirtual 226, 3) := by decide +kernel
theorem dX8_readNow_45 : decode cX8_readNow 45 = .ok (.ireturn, 1) := by decide +kernel
theorem dX8_readNow_46 : decode cX8_readNow 46 = .ok (.aload_n 0, 1) := by decide +kernel
theorem dX8_readNow_47 : decode cX8_readNow 47 = .ok (.aload_n 0, 1) := by decide +kernel
theorem dX8_readNow_48 : decode cX8_readNow 48 = .ok (.iconst 2, 1) := by decide +kernel
theorem dX8_readNow_49 : decode cX8_readNow 49 = .ok (.invokevirtual 59, 3) := by decide +kernel
theorem dX8_readNow_52 : decode cX8_readNow 52 = .ok (.invokevirtual 119, 3) := by decide +kernel
theorem dX8_readNow_55 : decode cX8_readNow 55 = .ok (.ireturn, 1) := by decide +kernel
theorem dX8_readNow_56 : decode cX8_readNow 56 = .ok (.aload_n 0, 1) := by decide +kernel
theorem dX8_readNow_57 : decode cX8_readNow 57 = .ok (.iload_n 1, 1) := by decide +kernel
theorem dX8_readNow_58 : decode cX8_readNow 58 = .ok (.invokevirtual 106, 3) := by decide +kernel
theorem dX8_readNow_61 : decode cX8_readNow 61 = .ok (.ireturn, 1) := by decide +kernel
theorem dX8_readNow_62 : decode cX8_readNow 62 = .ok (.aload_n 0, 1) := by decide +kernel
theorem dX8_readNow_63 : decode cX8_readNow 63 = .ok (.iload_n 1, 1) := by decide +kernel
theorem dX8_readNow_64 : decode cX8_readNow 64 = .ok (.iconst 1, 1) := by decide +kernel
theorem dX8_readNow_65 : decode cX8_readNow 65 = .ok (.invokevirtual 226, 3) := by decide +kernel
theorem dX8_readNow_68 : decode cX8_readNow 68 = .ok (.ireturn, 1) := by decide +kernel
theorem dX8_ifRead_0 : decode cX8_ifRead 0 = .ok (.aload_n 0, 1) := by decide +kernel
theorem dX8_ifRead_1 : decode cX8_ifRead 1 = .ok (.iconst 0, 1) := by decide +kernel
theorem dX8_ifRead_2 : decode cX8_ifRead 2 = .ok (.putfield 38, 3) := by decide +kernel
theorem dX8_ifRead_5 : decode cX8_ifRead 5 = .ok (.iload_n 1, 1) := by decide +kernel
theorem dX8_ifRead_6 : decode cX8_ifRead 6 = .ok (.invokestatic 66, 3) := by decide +kernel
theorem dX8_ifRead_9 : decode cX8_ifRead 9 = .ok (.ifCond .ne 9, 3) := by decide +kernel
theorem dX8_ifRead_12 : decode cX8_ifRead 12 = .ok (.aload_n 0, 1) := by decide +kernel
theorem dX8_ifRead_13 : decode cX8_ifRead 13 = .ok (.iconst 1, 1) := by decide +kernel
theorem dX8_ifRead_14 : decode cX8_ifRead 14 = .ok (.invokevirtual 49, 3) := by decide +kernel
theorem dX8_ifRead_17 : decode cX8_ifRead 17 = .ok (.ireturn, 1) := by decide +kernel
theorem dX8_ifRead_18 : decode cX8_ifRead 18 = .ok (.iload_n 2, 1) := by decide +kernel
theorem dX8_ifRead_19 : decode cX8_ifRead 19 = .ok (.iconst 0, 1) := by decide +kernel
end
section
theorem dX8_ifRead_20 : decode cX8_ifRead 20 = .ok (.iconst 4, 1) := by decide +kernel
theorem dX8_ifRead_21 : decode cX8_ifRead 21 = .ok (.invokestatic 42, 3) := by decide +kernel
theorem dX8_ifRead_24 : decode cX8_ifRead 24 = .ok (.ifCond .eq 12, 3) := by decide +kernel
theorem dX8_ifRead_27 : decode cX8_ifRead 27 = .ok (.aload_n 0, 1) := by decide +kernel
theorem dX8_ifRead_28 : decode cX8_ifRead 28 = .ok (.iload_n 1, 1) := by decide +kernel
theorem dX8_ifRead_29 : decode cX8_ifRead 29 = .ok (.iload_n 2, 1) := by decide +kernel
theorem dX8_ifRead_30 : decode cX8_ifRead 30 = .ok (.invokevirtual 229, 3) := by decide +kernel
theorem dX8_ifRead_33 : decode cX8_ifRead 33 = .ok (.goto 8, 3) := by decide +kernel
theorem dX8_ifRead_36 : decode cX8_ifRead 36 = .ok (.aload_n 0, 1) := by decide +kernel
theorem dX8_ifRead_37 : decode cX8_ifRead 37 = .ok (.iconst 2, 1) := by decide +kernel
theorem dX8_ifRead_38 : decode cX8_ifRead 38 = .ok (.invokevirtual 49, 3) := by decide +kernel
theorem dX8_ifRead_41 : decode cX8_ifRead 41 = .ok (.ireturn, 1) := by decide +kernel
theorem dX8_isGentler_0 : decode cX8_isGentler 0 = .ok (.aload_n 0, 1) := by decide +kernel
theorem dX8_isGentler_1 : decode cX8_isGentler 1 = .ok (.iload_n 1, 1) := by decide +kernel
theorem dX8_isGentler_2 : decode cX8_isGentler 2 = .ok (.iconst 0, 1) := by decide +kernel
theorem dX8_isGentler_3 : decode cX8_isGentler 3 = .ok (.invokevirtual 226, 3) := by decide +kernel
theorem dX8_isGentler_6 : decode cX8_isGentler 6 = .ok (.istore_n 3, 1) := by decide +kernel
theorem dX8_isGentler_7 : decode cX8_isGentler 7 = .ok (.aload_n 0, 1) := by decide +kernel
theorem dX8_isGentler_8 : decode cX8_isGentler 8 = .ok (.iload_n 2, 1) := by decide +kernel
theorem dX8_isGentler_9 : decode cX8_isGentler 9 = .ok (.iconst 0, 1) := by decide +kernel
theorem dX8_isGentler_10 : decode cX8_isGentler 10 = .ok (.invokevirtual 226, 3) := by decide +kernel
theorem dX8_isGentler_13 : decode cX8_isGentler 13 = .ok (.istore 4, 2) := by decide +kernel
theorem dX8_isGentler_15 : decode cX8_isGentler 15 = .ok (.iload_n 3, 1) := by decide +kernel
theorem dX8_isGentler_16 : decode cX8_isGentler 16 = .ok (.iload 4, 2) := by decide +kernel
theorem dX8_isGentler_18 : decode cX8_isGentler 18 = .ok (.if_icmp .lt 24, 3) := by decide +kernel
theorem dX8_isGentler_21 : decode cX8_isGentler 21 = .ok (.iload_n 3, 1) := by decide +kernel
theorem dX8_isGentler_22 : decode cX8_isGentler 22 = .ok (.iload 4, 2) := by decide +kernel
theorem dX8_isGentler_24 : decode cX8_isGentler 24 = .ok (.if_icmp .ne 22, 3) := by decide +kernel
theorem dX8_isGentler_27 : decode cX8_isGentler 27 = .ok (.aload_n 0, 1) := by decide +kernel
theorem dX8_isGentler_28 : decode cX8_isGentler 28 = .ok (.iload_n 1, 1) := by decide +kernel
theorem dX8_isGentler_29 : decode cX8_isGentler 29 = .ok (.iconst 1, 1) := by decide +kernel
theorem dX8_isGentler_30 : decode cX8_isGentler 30 = .ok (.invokevirtual 62, 3) := by decide +kernel
theorem dX8_isGentler_33 : decode cX8_isGentler 33 = .ok (.aload_n 0, 1) := by decide +kernel
theorem dX8_isGentler_34 : decode cX8_isGentler 34 = .ok (.iload_n 2, 1) := by decide +kernel
theorem dX8_isGentler_35 : decode cX8_isGentler 35 = .ok (.iconst 1, 1) := by decide +kernel
theorem dX8_isGentler_36 : decode cX8_isGentler 36 = .ok (.invokevirtual 62, 3) := by decide +kernel
theorem dX8_isGentler_39 : decode cX8_isGentler 39 = .ok (.if_icmp .le 7, 3) := by decide +kernel
theorem dX8_isGentler_42 : decode cX8_isGentler 42 = .ok (.iconst 1, 1) := by decide +kernel
theorem dX8_isGentler_43 : decode cX8_isGentler 43 = .ok (.goto 4, 3) := by decide +kernel
theorem dX8_isGentler_46 : decode cX8_isGentler 46 = .ok (.iconst 0, 1) := by decide +kernel
theorem dX8_isGentler_47 : decode cX8_isGentler 47 = .ok (.ireturn, 1) := by decide +kernel
theorem dX8_gentlestNow_0 : decode cX8_gentlestNow 0 = .ok (.iconst (-1), 1) := by decide +kernel
theorem dX8_gentlestNow_1 : decode cX8_gentlestNow 1 = .ok (.istore_n 1, 1) := by decide +kernel
theorem dX8_gentlestNow_2 : decode cX8_gentlestNow 2 = .ok (.iconst 0, 1) := by decide +kernel
theorem dX8_gentlestNow_3 : decode cX8_gentlestNow 3 = .ok (.istore_n 2, 1) := by decide +kernel
theorem dX8_gentlestNow_4 : decode cX8_gentlestNow 4 = .ok (.iload_n 2, 1) := by decide +kernel
theorem dX8_gentlestNow_5 : decode cX8_gentlestNow 5 = .ok (.bipush 64, 2) := by decide +kernel
theorem dX8_gentlestNow_7 : decode cX8_gentlestNow 7 = .ok (.if_icmp .ge 57, 3) := by decide +kernel
theorem dX8_gentlestNow_10 : decode cX8_gentlestNow 10 = .ok (.aload_n 0, 1) := by decide +kernel
theorem dX8_gentlestNow_11 : decode cX8_gentlestNow 11 = .ok (.iload_n 2, 1) := by decide +kernel
theorem dX8_gentlestNow_12 : decode cX8_gentlestNow 12 = .ok (.invokevirtual 132, 3) := by decide +kernel
theorem dX8_gentlestNow_15 : decode cX8_gentlestNow 15 = .ok (.ifCond .eq 17, 3) := by decide +kernel
theorem dX8_gentlestNow_18 : decode cX8_gentlestNow 18 = .ok (.aload_n 0, 1) := by decide +kernel
theorem dX8_gentlestNow_19 : decode cX8_gentlestNow 19 = .ok (.iload_n 2, 1) := by decide +kernel
theorem dX8_gentlestNow_20 : decode cX8_gentlestNow 20 = .ok (.iconst 0, 1) := by decide +kernel
theorem dX8_gentlestNow_21 : decode cX8_gentlestNow 21 = .ok (.invokevirtual 62, 3) := by decide +kernel
theorem dX8_gentlestNow_24 : decode cX8_gentlestNow 24 = .ok (.iconst 1, 1) := by decide +kernel
theorem dX8_gentlestNow_25 : decode cX8_gentlestNow 25 = .ok (.if_icmp .ne 7, 3) := by decide +kernel
theorem dX8_gentlestNow_28 : decode cX8_gentlestNow 28 = .ok (.iconst 1, 1) := by decide +kernel
theorem dX8_gentlestNow_29 : decode cX8_gentlestNow 29 = .ok (.goto 4, 3) := by decide +kernel
theorem dX8_gentlestNow_32 : decode cX8_gentlestNow 32 = .ok (.iconst 0, 1) := by decide +kernel
theorem dX8_gentlestNow_33 : decode cX8_gentlestNow 33 = .ok (.istore_n 3, 1) := by decide +kernel
theorem dX8_gentlestNow_34 : decode cX8_gentlestNow 34 = .ok (.iload_n 3, 1) := by decide +kernel
theorem dX8_gentlestNow_35 : decode cX8_gentlestNow 35 = .ok (.ifCond .eq 21, 3) := by decide +kernel
theorem dX8_gentlestNow_38 : decode cX8_gentlestNow 38 = .ok (.iload_n 1, 1) := by decide +kernel
theorem dX8_gentlestNow_39 : decode cX8_gentlestNow 39 = .ok (.iconst (-1), 1) := by decide +kernel
theorem dX8_gentlestNow_40 : decode cX8_gentlestNow 40 = .ok (.if_icmp .eq 12, 3) := by decide +kernel
theorem dX8_gentlestNow_43 : decode cX8_gentlestNow 43 = .ok (.aload_n 0, 1) := by decide +kernel
theorem dX8_gentlestNow_44 : decode cX8_gentlestNow 44 = .ok (.iload_n 2, 1) := by decide +kernel
theorem dX8_gentlestNow_45 : decode cX8_gentlestNow 45 = .ok (.iload_n 1, 1) := by decide +kernel
theorem dX8_gentlestNow_46 : decode cX8_gentlestNow 46 = .ok (.invokevirtual 232, 3) := by decide +kernel
theorem dX8_gentlestNow_49 : decode cX8_gentlestNow 49 = .ok (.ifCond .eq 7, 3) := by decide +kernel
theorem dX8_gentlestNow_52 : decode cX8_gentlestNow 52 = .ok (.iload_n 2, 1) := by decide +kernel
theorem dX8_gentlestNow_53 : decode cX8_gentlestNow 53 = .ok (.goto 4, 3) := by decide +kernel
theorem dX8_gentlestNow_56 : decode cX8_gentlestNow 56 = .ok (.iload_n 1, 1) := by decide +kernel
theorem dX8_gentlestNow_57 : decode cX8_gentlestNow 57 = .ok (.istore_n 1, 1) := by decide +kernel
theorem dX8_gentlestNow_58 : decode cX8_gentlestNow 58 = .ok (.iinc 2 1, 3) := by decide +kernel
theorem dX8_gentlestNow_61 : decode cX8_gentlestNow 61 = .ok (.goto (-57), 3) := by decide +kernel
theorem dX8_gentlestNow_64 : decode cX8_gentlestNow 64 = .ok (.iload_n 1, 1) := by decide +kernel
theorem dX8_gentlestNow_65 : decode cX8_gentlestNow 65 = .ok (.ireturn, 1) := by decide +kernel
theorem dX8_gentlest_0 : decode cX8_gentlest 0 = .ok (.aload_n 0, 1) := by decide +kernel
theorem dX8_gentlest_1 : decode cX8_gentlest 1 = .ok (.iconst 0, 1) := by decide +kernel
theorem dX8_gentlest_2 : decode cX8_gentlest 2 = .ok (.putfield 38, 3) := by decide +kernel
theorem dX8_gentlest_5 : decode cX8_gentlest 5 = .ok (.aload_n 0, 1) := by decide +kernel
theorem dX8_gentlest_6 : decode cX8_gentlest 6 = .ok (.invokevirtual 235, 3) := by decide +kernel
theorem dX8_gentlest_9 : decode cX8_gentlest 9 = .ok (.ireturn, 1) := by decide +kernel
theorem dX8_savableNow_0 : decode cX8_savableNow 0 = .ok (.aload_n 0, 1) := by decide +kernel
theorem dX8_savableNow_1 : decode cX8_savableNow 1 = .ok (.getfield 7, 3) := by decide +kernel
theorem dX8_savableNow_4 : decode cX8_savableNow 4 = .ok (.bipush 6, 2) := by decide +kernel
theorem dX8_savableNow_6 : decode cX8_savableNow 6 = .ok (.iaload, 1) := by decide +kernel
theorem dX8_savableNow_7 : decode cX8_savableNow 7 = .ok (.istore_n 2, 1) := by decide +kernel
theorem dX8_savableNow_8 : decode cX8_savableNow 8 = .ok (.aload_n 0, 1) := by decide +kernel
theorem dX8_savableNow_9 : decode cX8_savableNow 9 = .ok (.invokevirtual 238, 3) := by decide +kernel
theorem dX8_savableNow_12 : decode cX8_savableNow 12 = .ok (.aload_n 0, 1) := by decide +kernel
theorem dX8_savableNow_13 : decode cX8_savableNow 13 = .ok (.invokevirtual 145, 3) := by decide +kernel
theorem dX8_savableNow_16 : decode cX8_savableNow 16 = .ok (.ifCond .le 35, 3) := by decide +kernel
theorem dX8_savableNow_19 : decode cX8_savableNow 19 = .ok (.iconst 0, 1) := by decide +kernel
theorem dX8_savableNow_20 : decode cX8_savableNow 20 = .ok (.istore_n 3, 1) := by decide +kernel
theorem dX8_savableNow_21 : decode cX8_savableNow 21 = .ok (.iload_n 3, 1) := by decide +kernel
theorem dX8_savableNow_22 : decode cX8_savableNow 22 = .ok (.iload_n 1, 1) := by decide +kernel
theorem dX8_savableNow_23 : decode cX8_savableNow 23 = .ok (.if_icmp .ge 21, 3) := by decide +kernel
theorem dX8_savableNow_26 : decode cX8_savableNow 26 = .ok (.aload_n 0, 1) := by decide +kernel
theorem dX8_savableNow_27 : decode cX8_savableNow 27 = .ok (.invokevirtual 145, 3) := by decide +kernel
theorem dX8_savableNow_30 : decode cX8_savableNow 30 = .ok (.ifCond .le 14, 3) := by decide +kernel
theorem dX8_savableNow_33 : decode cX8_savableNow 33 = .ok (.aload_n 0, 1) := by decide +kernel
theorem dX8_savableNow_34 : decode cX8_savableNow 34 = .ok (.invokevirtual 148, 3) := by decide +kernel
theorem dX8_savableNow_37 : decode cX8_savableNow 37 = .ok (.pop, 1) := by decide +kernel
theorem dX8_savableNow_38 : decode cX8_savableNow 38 = .ok (.iinc 3 1, 3) := by decide +kernel
theorem dX8_savableNow_41 : decode cX8_savableNow 41 = .ok (.goto (-20), 3) := by decide +kernel
theorem dX8_savableNow_44 : decode cX8_savableNow 44 = .ok (.aload_n 0, 1) := by decide +kernel
theorem dX8_savableNow_45 : decode cX8_savableNow 45 = .ok (.invokevirtual 157, 3) := by decide +kernel
theorem dX8_savableNow_48 : decode cX8_savableNow 48 = .ok (.goto (-36), 3) := by decide +kernel
theorem dX8_savableNow_51 : decode cX8_savableNow 51 = .ok (.aload_n 0, 1) := by decide +kernel
theorem dX8_savableNow_52 : decode cX8_savableNow 52 = .ok (.getfield 7, 3) := by decide +kernel
theorem dX8_savableNow_55 : decode cX8_savableNow 55 = .ok (.bipush 6, 2) := by decide +kernel
theorem dX8_savableNow_57 : decode cX8_savableNow 57 = .ok (.iaload, 1) := by decide +kernel
theorem dX8_savableNow_58 : decode cX8_savableNow 58 = .ok (.istore_n 3, 1) := by decide +kernel
theorem dX8_savableNow_59 : decode cX8_savableNow 59 = .ok (.aload_n 0, 1) := by decide +kernel
theorem dX8_savableNow_60 : decode cX8_savableNow 60 = .ok (.invokevirtual 241, 3) := by decide +kernel
theorem dX8_savableNow_63 : decode cX8_savableNow 63 = .ok (.iload_n 3, 1) := by decide +kernel
theorem dX8_savableNow_64 : decode cX8_savableNow 64 = .ok (.iload_n 2, 1) := by decide +kernel
theorem dX8_savableNow_65 : decode cX8_savableNow 65 = .ok (.isub, 1) := by decide +kernel
theorem dX8_savableNow_66 : decode cX8_savableNow 66 = .ok (.ireturn, 1) := by decide +kernel
theorem dX8_savable_0 : decode cX8_savable 0 = .ok (.aload_n 0, 1) := by decide +kernel
theorem dX8_savable_1 : decode cX8_savable 1 = .ok (.iconst 0, 1) := by decide +kernel
theorem dX8_savable_2 : decode cX8_savable 2 = .ok (.putfield 38, 3) := by decide +kernel
theorem dX8_savable_5 : decode cX8_savable 5 = .ok (.iload_n 1, 1) := by decide +kernel
theorem dX8_savable_6 : decode cX8_savable 6 = .ok (.iconst 1, 1) := by decide +kernel
theorem dX8_savable_7 : decode cX8_savable 7 = .ok (.bipush 9, 2) := by decide +kernel
theorem dX8_savable_9 : decode cX8_savable 9 = .ok (.invokestatic 42, 3) := by decide +kernel
theorem dX8_savable_12 : decode cX8_savable 12 = .ok (.ifCond .eq 11, 3) := by decide +kernel
theorem dX8_savable_15 : decode cX8_savable 15 = .ok (.aload_n 0, 1) := by decide +kernel
theorem dX8_savable_16 : decode cX8_savable 16 = .ok (.iload_n 1, 1) := by decide +kernel
theorem dX8_savable_17 : decode cX8_savable 17 = .ok (.invokevirtual 244, 3) := by decide +kernel
theorem dX8_savable_20 : decode cX8_savable 20 = .ok (.goto 8, 3) := by decide +kernel
theorem dX8_savable_23 : decode cX8_savable 23 = .ok (.aload_n 0, 1) := by decide +kernel
theorem dX8_savable_24 : decode cX8_savable 24 = .ok (.iconst 1, 1) := by decide +kernel
theorem dX8_savable_25 : decode cX8_savable 25 = .ok (.invokevirtual 49, 3) := by decide +kernel
theorem dX8_savable_28 : decode cX8_savable 28 = .ok (.ireturn, 1) := by decide +kernel
theorem dX8_riskNow_0 : decode cX8_riskNow 0 = .ok (.iconst 0, 1) := by decide +kernel
theorem dX8_riskNow_1 : decode cX8_riskNow 1 = .ok (.istore_n 2, 1) := by decide +kernel
theorem dX8_riskNow_2 : decode cX8_riskNow 2 = .ok (.iconst 0, 1) := by decide +kernel
theorem dX8_riskNow_3 : decode cX8_riskNow 3 = .ok (.istore_n 3, 1) := by decide +kernel
theorem dX8_riskNow_4 : decode cX8_riskNow 4 = .ok (.iload_n 3, 1) := by decide +kernel
theorem dX8_riskNow_5 : decode cX8_riskNow 5 = .ok (.bipush 64, 2) := by decide +kernel
theorem dX8_riskNow_7 : decode cX8_riskNow 7 = .ok (.if_icmp .ge 44, 3) := by decide +kernel
theorem dX8_riskNow_10 : decode cX8_riskNow 10 = .ok (.aload_n 0, 1) := by decide +kernel
theorem dX8_riskNow_11 : decode cX8_riskNow 11 = .ok (.iload_n 3, 1) := by decide +kernel
theorem dX8_riskNow_12 : decode cX8_riskNow 12 = .ok (.invokevirtual 132, 3) := by decide +kernel
theorem dX8_riskNow_15 : decode cX8_riskNow 15 = .ok (.ifCond .eq 14, 3) := by decide +kernel
theorem dX8_riskNow_18 : decode cX8_riskNow 18 = .ok (.aload_n 0, 1) := by decide +kernel
theorem dX8_riskNow_19 : decode cX8_riskNow 19 = .ok (.iload_n 3, 1) := by decide +kernel
theorem dX8_riskNow_20 : decode cX8_riskNow 20 = .ok (.iload_n 1, 1) := by decide +kernel
theorem dX8_riskNow_21 : decode cX8_riskNow 21 = .ok (.iconst 2, 1) := by decide +kernel
theorem dX8_riskNow_22 : decode cX8_riskNow 22 = .ok (.iadd, 1) := by decide +kernel
theorem dX8_riskNow_23 : decode cX8_riskNow 23 = .ok (.invokevirtual 226, 3) := by decide +kernel
theorem dX8_riskNow_26 : decode cX8_riskNow 26 = .ok (.goto 4, 3) := by decide +kernel
theorem dX8_riskNow_29 : decode cX8_riskNow 29 = .ok (.iconst 0, 1) := by decide +kernel
theorem dX8_riskNow_30 : decode cX8_riskNow 30 = .ok (.istore 4, 2) := by decide +kernel
theorem dX8_riskNow_32 : decode cX8_riskNow 32 = .ok (.iload 4, 2) := by decide +kernel
theorem dX8_riskNow_34 : decode cX8_riskNow 34 = .ok (.iload_n 2, 1) := by decide +kernel
theorem dX8_riskNow_35 : decode cX8_riskNow 35 = .ok (.if_icmp .le 8, 3) := by decide +kernel
theorem dX8_riskNow_38 : decode cX8_riskNow 38 = .ok (.iload 4, 2) := by decide +kernel
theorem dX8_riskNow_40 : decode cX8_riskNow 40 = .ok (.goto 4, 3) := by decide +kernel
theorem dX8_riskNow_43 : decode cX8_riskNow 43 = .ok (.iload_n 2, 1) := by decide +kernel
theorem dX8_riskNow_44 : decode cX8_riskNow 44 = .ok (.istore_n 2, 1) := by decide +kernel
theorem dX8_riskNow_45 : decode cX8_riskNow 45 = .ok (.iinc 3 1, 3) := by decide +kernel
theorem dX8_riskNow_48 : decode cX8_riskNow 48 = .ok (.goto (-44), 3) := by decide +kernel
theorem dX8_riskNow_51 : decode cX8_riskNow 51 = .ok (.iload_n 2, 1) := by decide +kernel
theorem dX8_riskNow_52 : decode cX8_riskNow 52 = .ok (.ireturn, 1) := by decide +kernel
theorem dX8_atRisk_0 : decode cX8_atRisk 0 = .ok (.aload_n 0, 1) := by decide +kernel
theorem dX8_atRisk_1 : decode cX8_atRisk 1 = .ok (.iconst 0, 1) := by decide +kernel
theorem dX8_atRisk_2 : decode cX8_atRisk 2 = .ok (.putfield 38, 3) := by decide +kernel
theorem dX8_atRisk_5 : decode cX8_atRisk 5 = .ok (.aload_n 0, 1) := by decide +kernel
theorem dX8_atRisk_6 : decode cX8_atRisk 6 = .ok (.iload_n 1, 1) := by decide +kernel
theorem dX8_atRisk_7 : decode cX8_atRisk 7 = .ok (.invokevirtual 70, 3) := by decide +kernel
theorem dX8_atRisk_10 : decode cX8_atRisk 10 = .ok (.ifCond .eq 11, 3) := by decide +kernel
theorem dX8_atRisk_13 : decode cX8_atRisk 13 = .ok (.aload_n 0, 1) := by decide +kernel
theorem dX8_atRisk_14 : decode cX8_atRisk 14 = .ok (.iload_n 1, 1) := by decide +kernel
theorem dX8_atRisk_15 : decode cX8_atRisk 15 = .ok (.invokevirtual 247, 3) := by decide +kernel
theorem dX8_atRisk_18 : decode cX8_atRisk 18 = .ok (.goto 8, 3) := by decide +kernel
theorem dX8_atRisk_21 : decode cX8_atRisk 21 = .ok (.aload_n 0, 1) := by decide +kernel
theorem dX8_atRisk_22 : decode cX8_atRisk 22 = .ok (.iconst 1, 1) := by decide +kernel
theorem dX8_atRisk_23 : decode cX8_atRisk 23 = .ok (.invokevirtual 49, 3) := by decide +kernel
theorem dX8_atRisk_26 : decode cX8_atRisk 26 = .ok (.ireturn, 1) := by decide +kernel
theorem dX8_backNow_0 : decode cX8_backNow 0 = .ok (.aload_n 0, 1) := by decide +kernel
theorem dX8_backNow_1 : decode cX8_backNow 1 = .ok (.getfield 7, 3) := by decide +kernel
theorem dX8_backNow_4 : decode cX8_backNow 4 = .ok (.iconst 5, 1) := by decide +kernel
theorem dX8_backNow_5 : decode cX8_backNow 5 = .ok (.iaload, 1) := by decide +kernel
theorem dX8_backNow_6 : decode cX8_backNow 6 = .ok (.ifCond .ne 7, 3) := by decide +kernel
theorem dX8_backNow_9 : decode cX8_backNow 9 = .ok (.dconst 0, 1) := by decide +kernel
theorem dX8_backNow_10 : decode cX8_backNow 10 = .ok (.goto 19, 3) := by decide +kernel
theorem dX8_backNow_13 : decode cX8_backNow 13 = .ok (.aload_n 0, 1) := by decide +kernel
theorem dX8_backNow_14 : decode cX8_backNow 14 = .ok (.getfield 7, 3) := by decide +kernel
theorem dX8_backNow_17 : decode cX8_backNow 17 = .ok (.bipush 6, 2) := by decide +kernel
theorem dX8_backNow_19 : decode cX8_backNow 19 = .ok (.iaload, 1) := by decide +kernel
theorem dX8_backNow_20 : decode cX8_backNow 20 = .ok (.i2d, 1) := by decide +kernel
theorem dX8_backNow_21 : decode cX8_backNow 21 = .ok (.aload_n 0, 1) := by decide +kernel
theorem dX8_backNow_22 : decode cX8_backNow 22 = .ok (.getfield 7, 3) := by decide +kernel
theorem dX8_backNow_25 : decode cX8_backNow 25 = .ok (.iconst 5, 1) := by decide +kernel
theorem dX8_backNow_26 : decode cX8_backNow 26 = .ok (.iaload, 1) := by decide +kernel
theorem dX8_backNow_27 : decode cX8_backNow 27 = .ok (.i2d, 1) := by decide +kernel
theorem dX8_backNow_28 : decode cX8_backNow 28 = .ok (.ddiv, 1) := by decide +kernel
theorem dX8_backNow_29 : decode cX8_backNow 29 = .ok (.dreturn, 1) := by decide +kernel
theorem dX8_backShare_0 : decode cX8_backShare 0 = .ok (.aload_n 0, 1) := by decide +kernel
theorem dX8_backShare_1 : decode cX8_backShare 1 = .ok (.iconst 0, 1) := by decide +kernel
theorem dX8_backShare_2 : decode cX8_backShare 2 = .ok (.putfield 38, 3) := by decide +kernel
theorem dX8_backShare_5 : decode cX8_backShare 5 = .ok (.aload_n 0, 1) := by decide +kernel
theorem dX8_backShare_6 : decode cX8_backShare 6 = .ok (.invokevirtual 250, 3) := by decide +kernel
theorem dX8_backShare_9 : decode cX8_backShare 9 = .ok (.dreturn, 1) := by decide +kernel
theorem dX8_mix_0 : decode cX8_mix 0 = .ok (.aload_n 0, 1) := by decide +kernel
theorem dX8_mix_1 : decode cX8_mix 1 = .ok (.ldc2_w 254, 3) := by decide +kernel
theorem dX8_mix_4 : decode cX8_mix 4 = .ok (.aload_n 0, 1) := by decide +kernel
theorem dX8_mix_5 : decode cX8_mix 5 = .ok (.getfield 256, 3) := by decide +kernel
theorem dX8_mix_8 : decode cX8_mix 8 = .ok (.lmul, 1) := by decide +kernel
theorem dX8_mix_9 : decode cX8_mix 9 = .ok (.lload_n 1, 1) := by decide +kernel
theorem dX8_mix_10 : decode cX8_mix 10 = .ok (.ladd, 1) := by decide +kernel
theorem dX8_mix_11 : decode cX8_mix 11 = .ok (.putfield 256, 3) := by decide +kernel
theorem dX8_mix_14 : decode cX8_mix 14 = .ok (.return_, 1) := by decide +kernel
theorem dX8_mixPeople_0 : decode cX8_mixPeople 0 = .ok (.iconst 0, 1) := by decide +kernel
theorem dX8_mixPeople_1 : decode cX8_mixPeople 1 = .ok (.istore_n 1, 1) := by decide +kernel
theorem dX8_mixPeople_2 : decode cX8_mixPeople 2 = .ok (.iload_n 1, 1) := by decide +kernel
theorem dX8_mixPeople_3 : decode cX8_mixPeople 3 = .ok (.aload_n 0, 1) := by decide +kernel
theorem dX8_mixPeople_4 : decode cX8_mixPeople 4 = .ok (.getfield 7, 3) := by decide +kernel
theorem dX8_mixPeople_7 : decode cX8_mixPeople 7 = .ok (.iconst 2, 1) := by decide +kernel
theorem dX8_mixPeople_8 : decode cX8_mixPeople 8 = .ok (.iaload, 1) := by decide +kernel
theorem dX8_mixPeople_9 : decode cX8_mixPeople 9 = .ok (.if_icmp .ge 44, 3) := by decide +kernel
theorem dX8_mixPeople_12 : decode cX8_mixPeople 12 = .ok (.iconst 0, 1) := by decide +kernel
theorem dX8_mixPeople_13 : decode cX8_mixPeople 13 = .ok (.istore_n 2, 1) := by decide +kernel
theorem dX8_mixPeople_14 : decode cX8_mixPeople 14 = .ok (.iload_n 2, 1) := by decide +kernel
theorem dX8_mixPeople_15 : decode cX8_mixPeople 15 = .ok (.bipush 6, 2) := by decide +kernel
theorem dX8_mixPeople_17 : decode cX8_mixPeople 17 = .ok (.if_icmp .ge 20, 3) := by decide +kernel
theorem dX8_mixPeople_20 : decode cX8_mixPeople 20 = .ok (.aload_n 0, 1) := by decide +kernel
theorem dX8_mixPeople_21 : decode cX8_mixPeople 21 = .ok (.aload_n 0, 1) := by decide +kernel
theorem dX8_mixPeople_22 : decode cX8_mixPeople 22 = .ok (.iload_n 1, 1) := by decide +kernel
theorem dX8_mixPeople_23 : decode cX8_mixPeople 23 = .ok (.iload_n 2, 1) := by decide +kernel
theorem dX8_mixPeople_24 : decode cX8_mixPeople 24 = .ok (.invokevirtual 202, 3) := by decide +kernel
theorem dX8_mixPeople_27 : decode cX8_mixPeople 27 = .ok (.i2l, 1) := by decide +kernel
theorem dX8_mixPeople_28 : decode cX8_mixPeople 28 = .ok (.invokevirtual 260, 3) := by decide +kernel
theorem dX8_mixPeople_31 : decode cX8_mixPeople 31 = .ok (.iinc 2 1, 3) := by decide +kernel
theorem dX8_mixPeople_34 : decode cX8_mixPeople 34 = .ok (.goto (-20), 3) := by decide +kernel
theorem dX8_mixPeople_37 : decode cX8_mixPeople 37 = .ok (.aload_n 0, 1) := by decide +kernel
theorem dX8_mixPeople_38 : decode cX8_mixPeople 38 = .ok (.aload_n 0, 1) := by decide +kernel
theorem dX8_mixPeople_39 : decode cX8_mixPeople 39 = .ok (.iload_n 1, 1) := by decide +kernel
theorem dX8_mixPeople_40 : decode cX8_mixPeople 40 = .ok (.invokevirtual 247, 3) := by decide +kernel
theorem dX8_mixPeople_43 : decode cX8_mixPeople 43 = .ok (.i2l, 1) := by decide +kernel
theorem dX8_mixPeople_44 : decode cX8_mixPeople 44 = .ok (.invokevirtual 260, 3) := by decide +kernel
theorem dX8_mixPeople_47 : decode cX8_mixPeople 47 = .ok (.iinc 1 1, 3) := by decide +kernel
theorem dX8_mixPeople_50 : decode cX8_mixPeople 50 = .ok (.goto (-48), 3) := by decide +kernel
theorem dX8_mixPeople_53 : decode cX8_mixPeople 53 = .ok (.iconst 0, 1) := by decide +kernel
theorem dX8_mixPeople_54 : decode cX8_mixPeople 54 = .ok (.istore_n 1, 1) := by decide +kernel
theorem dX8_mixPeople_55 : decode cX8_mixPeople 55 = .ok (.iload_n 1, 1) := by decide +kernel
theorem dX8_mixPeople_56 : decode cX8_mixPeople 56 = .ok (.bipush 7, 2) := by decide +kernel
theorem dX8_mixPeople_58 : decode cX8_mixPeople 58 = .ok (.aload_n 0, 1) := by decide +kernel
theorem dX8_mixPeople_59 : decode cX8_mixPeople 59 = .ok (.getfield 7, 3) := by decide +kernel
theorem dX8_mixPeople_62 : decode cX8_mixPeople 62 = .ok (.iconst 3, 1) := by decide +kernel
theorem dX8_mixPeople_63 : decode cX8_mixPeople 63 = .ok (.iaload, 1) := by decide +kernel
theorem dX8_mixPeople_64 : decode cX8_mixPeople 64 = .ok (.imul, 1) := by decide +kernel
theorem dX8_mixPeople_65 : decode cX8_mixPeople 65 = .ok (.if_icmp .ge 26, 3) := by decide +kernel
theorem dX8_mixPeople_68 : decode cX8_mixPeople 68 = .ok (.aload_n 0, 1) := by decide +kernel
theorem dX8_mixPeople_69 : decode cX8_mixPeople 69 = .ok (.aload_n 0, 1) := by decide +kernel
theorem dX8_mixPeople_70 : decode cX8_mixPeople 70 = .ok (.iload_n 1, 1) := by decide +kernel
theorem dX8_mixPeople_71 : decode cX8_mixPeople 71 = .ok (.bipush 7, 2) := by decide +kernel
theorem dX8_mixPeople_73 : decode cX8_mixPeople 73 = .ok (.idiv, 1) := by decide +kernel
theorem dX8_mixPeople_74 : decode cX8_mixPeople 74 = .ok (.iload_n 1, 1) := by decide +kernel
theorem dX8_mixPeople_75 : decode cX8_mixPeople 75 = .ok (.bipush 7, 2) := by decide +kernel
theorem dX8_mixPeople_77 : decode cX8_mixPeople 77 = .ok (.irem, 1) := by decide +kernel
theorem dX8_mixPeople_78 : decode cX8_mixPeople 78 = .ok (.invokevirtual 208, 3) := by decide +kernel
theorem dX8_mixPeople_81 : decode cX8_mixPeople 81 = .ok (.i2l, 1) := by decide +kernel
theorem dX8_mixPeople_82 : decode cX8_mixPeople 82 = .ok (.invokevirtual 260, 3) := by decide +kernel
theorem dX8_mixPeople_85 : decode cX8_mixPeople 85 = .ok (.iinc 1 1, 3) := by decide +kernel
theorem dX8_mixPeople_88 : decode cX8_mixPeople 88 = .ok (.goto (-33), 3) := by decide +kernel
theorem dX8_mixPeople_91 : decode cX8_mixPeople 91 = .ok (.return_, 1) := by decide +kernel
theorem dX8_mixAhead_0 : decode cX8_mixAhead 0 = .ok (.aload_n 0, 1) := by decide +kernel
theorem dX8_mixAhead_1 : decode cX8_mixAhead 1 = .ok (.invokevirtual 141, 3) := by decide +kernel
theorem dX8_mixAhead_4 : decode cX8_mixAhead 4 = .ok (.istore_n 1, 1) := by decide +kernel
theorem dX8_mixAhead_5 : decode cX8_mixAhead 5 = .ok (.iconst 0, 1) := by decide +kernel
theorem dX8_mixAhead_6 : decode cX8_mixAhead 6 = .ok (.istore_n 2, 1) := by decide +kernel
theorem dX8_mixAhead_7 : decode cX8_mixAhead 7 = .ok (.iload_n 2, 1) := by decide +kernel
theorem dX8_mixAhead_8 : decode cX8_mixAhead 8 = .ok (.iload_n 1, 1) := by decide +kernel
theorem dX8_mixAhead_9 : decode cX8_mixAhead 9 = .ok (.if_icmp .ge 39, 3) := by decide +kernel
theorem dX8_mixAhead_12 : decode cX8_mixAhead 12 = .ok (.aload_n 0, 1) := by decide +kernel
theorem dX8_mixAhead_13 : decode cX8_mixAhead 13 = .ok (.aload_n 0, 1) := by decide +kernel
theorem dX8_mixAhead_14 : decode cX8_mixAhead 14 = .ok (.getfield 31, 3) := by decide +kernel
theorem dX8_mixAhead_17 : decode cX8_mixAhead 17 = .ok (.iload_n 2, 1) := by decide +kernel
theorem dX8_mixAhead_18 : decode cX8_mixAhead 18 = .ok (.iaload, 1) := by decide +kernel
theorem dX8_mixAhead_19 : decode cX8_mixAhead 19 = .ok (.i2l, 1) := by decide +kernel
theorem dX8_mixAhead_20 : decode cX8_mixAhead 20 = .ok (.invokevirtual 260, 3) := by decide +kernel
theorem dX8_mixAhead_23 : decode cX8_mixAhead 23 = .ok (.aload_n 0, 1) := by decide +kernel
theorem dX8_mixAhead_24 : decode cX8_mixAhead 24 = .ok (.aload_n 0, 1) := by decide +kernel
theorem dX8_mixAhead_25 : decode cX8_mixAhead 25 = .ok (.aload_n 0, 1) := by decide +kernel
theorem dX8_mixAhead_26 : decode cX8_mixAhead 26 = .ok (.getfield 31, 3) := by decide +kernel
theorem dX8_mixAhead_29 : decode cX8_mixAhead 29 = .ok (.iload_n 2, 1) := by decide +kernel
theorem dX8_mixAhead_30 : decode cX8_mixAhead 30 = .ok (.iaload, 1) := by decide +kernel
theorem dX8_mixAhead_31 : decode cX8_mixAhead 31 = .ok (.bipush 6, 2) := by decide +kernel
theorem dX8_mixAhead_33 : decode cX8_mixAhead 33 = .ok (.invokevirtual 62, 3) := by decide +kernel
theorem dX8_mixAhead_36 : decode cX8_mixAhead 36 = .ok (.iconst 1, 1) := by decide +kernel
theorem dX8_mixAhead_37 : decode cX8_mixAhead 37 = .ok (.isub, 1) := by decide +kernel
theorem dX8_mixAhead_38 : decode cX8_mixAhead 38 = .ok (.i2l, 1) := by decide +kernel
theorem dX8_mixAhead_39 : decode cX8_mixAhead 39 = .ok (.invokevirtual 260, 3) := by decide +kernel
theorem dX8_mixAhead_42 : decode cX8_mixAhead 42 = .ok (.iinc 2 1, 3) := by decide +kernel
theorem dX8_mixAhead_45 : decode cX8_mixAhead 45 = .ok (.goto (-38), 3) := by decide +kernel
theorem dX8_mixAhead_48 : decode cX8_mixAhead 48 = .ok (.iconst 0, 1) := by decide +kernel
theorem dX8_mixAhead_49 : decode cX8_mixAhead 49 = .ok (.istore_n 2, 1) := by decide +kernel
theorem dX8_mixAhead_50 : decode cX8_mixAhead 50 = .ok (.iload_n 2, 1) := by decide +kernel
theorem dX8_mixAhead_51 : decode cX8_mixAhead 51 = .ok (.bipush 8, 2) := by decide +kernel
theorem dX8_mixAhead_53 : decode cX8_mixAhead 53 = .ok (.if_icmp .ge 19, 3) := by decide +kernel
theorem dX8_mixAhead_56 : decode cX8_mixAhead 56 = .ok (.aload_n 0, 1) := by decide +kernel
theorem dX8_mixAhead_57 : decode cX8_mixAhead 57 = .ok (.aload_n 0, 1) := by decide +kernel
theorem dX8_mixAhead_58 : decode cX8_mixAhead 58 = .ok (.iload_n 2, 1) := by decide +kernel
theorem dX8_mixAhead_59 : decode cX8_mixAhead 59 = .ok (.invokevirtual 211, 3) := by decide +kernel
theorem dX8_mixAhead_62 : decode cX8_mixAhead 62 = .ok (.i2l, 1) := by decide +kernel
theorem dX8_mixAhead_63 : decode cX8_mixAhead 63 = .ok (.invokevirtual 260, 3) := by decide +kernel
theorem dX8_mixAhead_66 : decode cX8_mixAhead 66 = .ok (.iinc 2 1, 3) := by decide +kernel
theorem dX8_mixAhead_69 : decode cX8_mixAhead 69 = .ok (.goto (-19), 3) := by decide +kernel
theorem dX8_mixAhead_72 : decode cX8_mixAhead 72 = .ok (.aload_n 0, 1) := by decide +kernel
theorem dX8_mixAhead_73 : decode cX8_mixAhead 73 = .ok (.aload_n 0, 1) := by decide +kernel
theorem dX8_mixAhead_74 : decode cX8_mixAhead 74 = .ok (.invokevirtual 235, 3) := by decide +kernel
theorem dX8_mixAhead_77 : decode cX8_mixAhead 77 = .ok (.i2l, 1) := by decide +kernel
theorem dX8_mixAhead_78 : decode cX8_mixAhead 78 = .ok (.invokevirtual 260, 3) := by decide +kernel
theorem dX8_mixAhead_81 : decode cX8_mixAhead 81 = .ok (.aload_n 0, 1) := by decide +kernel
theorem dX8_mixAhead_82 : decode cX8_mixAhead 82 = .ok (.aload_n 0, 1) := by decide +kernel
theorem dX8_mixAhead_83 : decode cX8_mixAhead 83 = .ok (.iconst 1, 1) := by decide +kernel
theorem dX8_mixAhead_84 : decode cX8_mixAhead 84 = .ok (.invokevirtual 244, 3) := by decide +kernel
theorem dX8_mixAhead_87 : decode cX8_mixAhead 87 = .ok (.i2l, 1) := by decide +kernel
theorem dX8_mixAhead_88 : decode cX8_mixAhead 88 = .ok (.invokevirtual 260, 3) := by decide +kernel
theorem dX8_mixAhead_91 : decode cX8_mixAhead 91 = .ok (.aload_n 0, 1) := by decide +kernel
theorem dX8_mixAhead_92 : decode cX8_mixAhead 92 = .ok (.aload_n 0, 1) := by decide +kernel
theorem dX8_mixAhead_93 : decode cX8_mixAhead 93 = .ok (.iconst 3, 1) := by decide +kernel
theorem dX8_mixAhead_94 : decode cX8_mixAhead 94 = .ok (.invokevirtual 244, 3) := by decide +kernel
theorem dX8_mixAhead_97 : decode cX8_mixAhead 97 = .ok (.i2l, 1) := by decide +kernel
theorem dX8_mixAhead_98 : decode cX8_mixAhead 98 = .ok (.invokevirtual 260, 3) := by decide +kernel
theorem dX8_mixAhead_101 : decode cX8_mixAhead 101 = .ok (.aload_n 0, 1) := by decide +kernel
theorem dX8_mixAhead_102 : decode cX8_mixAhead 102 = .ok (.aload_n 0, 1) := by decide +kernel
theorem dX8_mixAhead_103 : decode cX8_mixAhead 103 = .ok (.invokevirtual 250, 3) := by decide +kernel
theorem dX8_mixAhead_106 : decode cX8_mixAhead 106 = .ok (.invokestatic 264, 3) := by decide +kernel
theorem dX8_mixAhead_109 : decode cX8_mixAhead 109 = .ok (.invokevirtual 260, 3) := by decide +kernel
theorem dX8_mixAhead_112 : decode cX8_mixAhead 112 = .ok (.return_, 1) := by decide +kernel
theorem dX8_digest_0 : decode cX8_digest 0 = .ok (.aload_n 0, 1) := by decide +kernel
theorem dX8_digest_1 : decode cX8_digest 1 = .ok (.iconst 0, 1) := by decide +kernel
theorem dX8_digest_2 : decode cX8_digest 2 = .ok (.putfield 38, 3) := by decide +kernel
theorem dX8_digest_5 : decode cX8_digest 5 = .ok (.aload_n 0, 1) := by decide +kernel
theorem dX8_digest_6 : decode cX8_digest 6 = .ok (.ldc2_w 270, 3) := by decide +kernel
theorem dX8_digest_9 : decode cX8_digest 9 = .ok (.putfield 256, 3) := by decide +kernel
theorem dX8_digest_12 : decode cX8_digest 12 = .ok (.iconst 0, 1) := by decide +kernel
theorem dX8_digest_13 : decode cX8_digest 13 = .ok (.istore_n 1, 1) := by decide +kernel
theorem dX8_digest_14 : decode cX8_digest 14 = .ok (.iload_n 1, 1) := by decide +kernel
theorem dX8_digest_15 : decode cX8_digest 15 = .ok (.bipush 19, 2) := by decide +kernel
theorem dX8_digest_17 : decode cX8_digest 17 = .ok (.if_icmp .ge 19, 3) := by decide +kernel
theorem dX8_digest_20 : decode cX8_digest 20 = .ok (.aload_n 0, 1) := by decide +kernel
theorem dX8_digest_21 : decode cX8_digest 21 = .ok (.aload_n 0, 1) := by decide +kernel
theorem dX8_digest_22 : decode cX8_digest 22 = .ok (.iload_n 1, 1) := by decide +kernel
theorem dX8_digest_23 : decode cX8_digest 23 = .ok (.invokevirtual 217, 3) := by decide +kernel
theorem dX8_digest_26 : decode cX8_digest 26 = .ok (.i2l, 1) := by decide +kernel
theorem dX8_digest_27 : decode cX8_digest 27 = .ok (.invokevirtual 260, 3) := by decide +kernel
theorem dX8_digest_30 : decode cX8_digest 30 = .ok (.iinc 1 1, 3) := by decide +kernel
theorem dX8_digest_33 : decode cX8_digest 33 = .ok (.goto (-19), 3) := by decide +kernel
theorem dX8_digest_36 : decode cX8_digest 36 = .ok (.iconst 0, 1) := by decide +kernel
theorem dX8_digest_37 : decode cX8_digest 37 = .ok (.istore_n 1, 1) := by decide +kernel
theorem dX8_digest_38 : decode cX8_digest 38 = .ok (.iload_n 1, 1) := by decide +kernel
theorem dX8_digest_39 : decode cX8_digest 39 = .ok (.bipush 8, 2) := by decide +kernel
theorem dX8_digest_41 : decode cX8_digest 41 = .ok (.if_icmp .ge 19, 3) := by decide +kernel
theorem dX8_digest_44 : decode cX8_digest 44 = .ok (.aload_n 0, 1) := by decide +kernel
theorem dX8_digest_45 : decode cX8_digest 45 = .ok (.aload_n 0, 1) := by decide +kernel
theorem dX8_digest_46 : decode cX8_digest 46 = .ok (.iload_n 1, 1) := by decide +kernel
theorem dX8_digest_47 : decode cX8_digest 47 = .ok (.invokevirtual 59, 3) := by decide +kernel
theorem dX8_digest_50 : decode cX8_digest 50 = .ok (.i2l, 1) := by decide +kernel
theorem dX8_digest_51 : decode cX8_digest 51 = .ok (.invokevirtual 260, 3) := by decide +kernel
theorem dX8_digest_54 : decode cX8_digest 54 = .ok (.iinc 1 1, 3) := by decide +kernel
theorem dX8_digest_57 : decode cX8_digest 57 = .ok (.goto (-19), 3) := by decide +kernel
theorem dX8_digest_60 : decode cX8_digest 60 = .ok (.iconst 0, 1) := by decide +kernel
theorem dX8_digest_61 : decode cX8_digest 61 = .ok (.istore_n 1, 1) := by decide +kernel
theorem dX8_digest_62 : decode cX8_digest 62 = .ok (.iload_n 1, 1) := by decide +kernel
theorem dX8_digest_63 : decode cX8_digest 63 = .ok (.bipush 64, 2) := by decide +kernel
theorem dX8_digest_65 : decode cX8_digest 65 = .ok (.if_icmp .ge 45, 3) := by decide +kernel
theorem dX8_digest_68 : decode cX8_digest 68 = .ok (.iconst 0, 1) := by decide +kernel
theorem dX8_digest_69 : decode cX8_digest 69 = .ok (.istore_n 2, 1) := by decide +kernel
theorem dX8_digest_70 : decode cX8_digest 70 = .ok (.iload_n 2, 1) := by decide +kernel
theorem dX8_digest_71 : decode cX8_digest 71 = .ok (.bipush 9, 2) := by decide +kernel
theorem dX8_digest_73 : decode cX8_digest 73 = .ok (.if_icmp .ge 20, 3) := by decide +kernel
theorem dX8_digest_76 : decode cX8_digest 76 = .ok (.aload_n 0, 1) := by decide +kernel
theorem dX8_digest_77 : decode cX8_digest 77 = .ok (.aload_n 0, 1) := by decide +kernel
theorem dX8_digest_78 : decode cX8_digest 78 = .ok (.iload_n 1, 1) := by decide +kernel
theorem dX8_digest_79 : decode cX8_digest 79 = .ok (.iload_n 2, 1) := by decide +kernel
theorem dX8_digest_80 : decode cX8_digest 80 = .ok (.invokevirtual 192, 3) := by decide +kernel
theorem dX8_digest_83 : decode cX8_digest 83 = .ok (.i2l, 1) := by decide +kernel
theorem dX8_digest_84 : decode cX8_digest 84 = .ok (.invokevirtual 260, 3) := by decide +kernel
theorem dX8_digest_87 : decode cX8_digest 87 = .ok (.iinc 2 1, 3) := by decide +kernel
theorem dX8_digest_90 : decode cX8_digest 90 = .ok (.goto (-20), 3) := by decide +kernel
theorem dX8_digest_93 : decode cX8_digest 93 = .ok (.aload_n 0, 1) := by decide +kernel
theorem dX8_digest_94 : decode cX8_digest 94 = .ok (.aload_n 0, 1) := by decide +kernel
theorem dX8_digest_95 : decode cX8_digest 95 = .ok (.iload_n 1, 1) := by decide +kernel
theorem dX8_digest_96 : decode cX8_digest 96 = .ok (.iconst 0, 1) := by decide +kernel
theorem dX8_digest_97 : decode cX8_digest 97 = .ok (.invokevirtual 226, 3) := by decide +kernel
theorem dX8_digest_100 : decode cX8_digest 100 = .ok (.i2l, 1) := by decide +kernel
theorem dX8_digest_101 : decode cX8_digest 101 = .ok (.invokevirtual 260, 3) := by decide +kernel
theorem dX8_digest_104 : decode cX8_digest 104 = .ok (.iinc 1 1, 3) := by decide +kernel
theorem dX8_digest_107 : decode cX8_digest 107 = .ok (.goto (-45), 3) := by decide +kernel
theorem dX8_digest_110 : decode cX8_digest 110 = .ok (.aload_n 0, 1) := by decide +kernel
theorem dX8_digest_111 : decode cX8_digest 111 = .ok (.invokevirtual 272, 3) := by decide +kernel
theorem dX8_digest_114 : decode cX8_digest 114 = .ok (.aload_n 0, 1) := by decide +kernel
theorem dX8_digest_115 : decode cX8_digest 115 = .ok (.invokevirtual 275, 3) := by decide +kernel
theorem dX8_digest_118 : decode cX8_digest 118 = .ok (.aload_n 0, 1) := by decide +kernel
theorem dX8_digest_119 : decode cX8_digest 119 = .ok (.aload_n 0, 1) := by decide +kernel
theorem dX8_digest_120 : decode cX8_digest 120 = .ok (.getfield 160, 3) := by decide +kernel
theorem dX8_digest_123 : decode cX8_digest 123 = .ok (.i2l, 1) := by decide +kernel
theorem dX8_digest_124 : decode cX8_digest 124 = .ok (.invokevirtual 260, 3) := by decide +kernel
theorem dX8_digest_127 : decode cX8_digest 127 = .ok (.iconst 0, 1) := by decide +kernel
theorem dX8_digest_128 : decode cX8_digest 128 = .ok (.istore_n 1, 1) := by decide +kernel
theorem dX8_digest_129 : decode cX8_digest 129 = .ok (.iload_n 1, 1) := by decide +kernel
theorem dX8_digest_130 : decode cX8_digest 130 = .ok (.aload_n 0, 1) := by decide +kernel
theorem dX8_digest_131 : decode cX8_digest 131 = .ok (.getfield 160, 3) := by decide +kernel
theorem dX8_digest_134 : decode cX8_digest 134 = .ok (.if_icmp .ge 20, 3) := by decide +kernel
theorem dX8_digest_137 : decode cX8_digest 137 = .ok (.aload_n 0, 1) := by decide +kernel
theorem dX8_digest_138 : decode cX8_digest 138 = .ok (.aload_n 0, 1) := by decide +kernel
theorem dX8_digest_139 : decode cX8_digest 139 = .ok (.getfield 19, 3) := by decide +kernel
theorem dX8_digest_142 : decode cX8_digest 142 = .ok (.iload_n 1, 1) := by decide +kernel
theorem dX8_digest_143 : decode cX8_digest 143 = .ok (.iaload, 1) := by decide +kernel
theorem dX8_digest_144 : decode cX8_digest 144 = .ok (.i2l, 1) := by decide +kernel
theorem dX8_digest_145 : decode cX8_digest 145 = .ok (.invokevirtual 260, 3) := by decide +kernel
theorem dX8_digest_148 : decode cX8_digest 148 = .ok (.iinc 1 1, 3) := by decide +kernel
theorem dX8_digest_151 : decode cX8_digest 151 = .ok (.goto (-22), 3) := by decide +kernel
theorem dX8_digest_154 : decode cX8_digest 154 = .ok (.aload_n 0, 1) := by decide +kernel
theorem dX8_digest_155 : decode cX8_digest 155 = .ok (.getfield 256, 3) := by decide +kernel
theorem dX8_digest_158 : decode cX8_digest 158 = .ok (.lreturn, 1) := by decide +kernel
theorem dJxe99ae_isNaN_b9ae7_0 : decode cJxe99ae_isNaN_b9ae7 0 = .ok (.dload_n 0, 1) := by decide +kernel
theorem dJxe99ae_isNaN_b9ae7_1 : decode cJxe99ae_isNaN_b9ae7 1 = .ok (.dload_n 0, 1) := by decide +kernel
theorem dJxe99ae_isNaN_b9ae7_2 : decode cJxe99ae_isNaN_b9ae7 2 = .ok (.dcmp .l, 1) := by decide +kernel
theorem dJxe99ae_isNaN_b9ae7_3 : decode cJxe99ae_isNaN_b9ae7 3 = .ok (.ifCond .eq 7, 3) := by decide +kernel
theorem dJxe99ae_isNaN_b9ae7_6 : decode cJxe99ae_isNaN_b9ae7 6 = .ok (.iconst 1, 1) := by decide +kernel
theorem dJxe99ae_isNaN_b9ae7_7 : decode cJxe99ae_isNaN_b9ae7 7 = .ok (.goto 4, 3) := by decide +kernel
theorem dJxe99ae_isNaN_b9ae7_10 : decode cJxe99ae_isNaN_b9ae7 10 = .ok (.iconst 0, 1) := by decide +kernel
theorem dJxe99ae_isNaN_b9ae7_11 : decode cJxe99ae_isNaN_b9ae7 11 = .ok (.ireturn, 1) := by decide +kernel
theorem dJxe99ae_doubleToLongBits_ccdee_0 : decode cJxe99ae_doubleToLongBits_ccdee 0 = .ok (.dload_n 0, 1) := by decide +kernel
theorem dJxe99ae_doubleToLongBits_ccdee_1 : decode cJxe99ae_doubleToLongBits_ccdee 1 = .ok (.invokestatic 122, 3) := by decide +kernel
theorem dJxe99ae_doubleToLongBits_ccdee_4 : decode cJxe99ae_doubleToLongBits_ccdee 4 = .ok (.ifCond .ne 8, 3) := by decide +kernel
theorem dJxe99ae_doubleToLongBits_ccdee_7 : decode cJxe99ae_doubleToLongBits_ccdee 7 = .ok (.dload_n 0, 1) := by decide +kernel
theorem dJxe99ae_doubleToLongBits_ccdee_8 : decode cJxe99ae_doubleToLongBits_ccdee 8 = .ok (.invokestatic 134, 3) := by decide +kernel
theorem dJxe99ae_doubleToLongBits_ccdee_11 : decode cJxe99ae_doubleToLongBits_ccdee 11 = .ok (.lreturn, 1) := by decide +kernel
theorem dJxe99ae_doubleToLongBits_ccdee_12 : decode cJxe99ae_doubleToLongBits_ccdee 12 = .ok (.ldc2_w 137, 3) := by decide +kernel
theorem dJxe99ae_doubleToLongBits_ccdee_15 : decode cJxe99ae_doubleToLongBits_ccdee 15 = .ok (.lreturn, 1) := by decide +kernel
theorem dJ13_bitCount_95d88_0 : decode cJ13_bitCount_95d88 0 = .ok (.lload_n 0, 1) := by decide +kernel
theorem dJ13_bitCount_95d88_1 : decode cJ13_bitCount_95d88 1 = .ok (.lload_n 0, 1) := by decide +kernel
theorem dJ13_bitCount_95d88_2 : decode cJ13_bitCount_95d88 2 = .ok (.iconst 1, 1) := by decide +kernel
theorem dJ13_bitCount_95d88_3 : decode cJ13_bitCount_95d88 3 = .ok (.lushr, 1) := by decide +kernel
theorem dJ13_bitCount_95d88_4 : decode cJ13_bitCount_95d88 4 = .ok (.ldc2_w 314, 3) := by decide +kernel
theorem dJ13_bitCount_95d88_7 : decode cJ13_bitCount_95d88 7 = .ok (.land, 1) := by decide +kernel
theorem dJ13_bitCount_95d88_8 : decode cJ13_bitCount_95d88 8 = .ok (.lsub, 1) := by decide +kernel
theorem dJ13_bitCount_95d88_9 : decode cJ13_bitCount_95d88 9 = .ok (.lstore_n 0, 1) := by decide +kernel
theorem dJ13_bitCount_95d88_10 : decode cJ13_bitCount_95d88 10 = .ok (.lload_n 0, 1) := by decide +kernel
theorem dJ13_bitCount_95d88_11 : decode cJ13_bitCount_95d88 11 = .ok (.ldc2_w 316, 3) := by decide +kernel
theorem dJ13_bitCount_95d88_14 : decode cJ13_bitCount_95d88 14 = .ok (.land, 1) := by decide +kernel
theorem dJ13_bitCount_95d88_15 : decode cJ13_bitCount_95d88 15 = .ok (.lload_n 0, 1) := by decide +kernel
theorem dJ13_bitCount_95d88_16 : decode cJ13_bitCount_95d88 16 = .ok (.iconst 2, 1) := by decide +kernel
theorem dJ13_bitCount_95d88_17 : decode cJ13_bitCount_95d88 17 = .ok (.lushr, 1) := by decide +kernel
theorem dJ13_bitCount_95d88_18 : decode cJ13_bitCount_95d88 18 = .ok (.ldc2_w 316, 3) := by decide +kernel
theorem dJ13_bitCount_95d88_21 : decode cJ13_bitCount_95d88 21 = .ok (.land, 1) := by decide +kernel
theorem dJ13_bitCount_95d88_22 : decode cJ13_bitCount_95d88 22 = .ok (.ladd, 1) := by decide +kernel
theorem dJ13_bitCount_95d88_23 : decode cJ13_bitCount_95d88 23 = .ok (.lstore_n 0, 1) := by decide +kernel
theorem dJ13_bitCount_95d88_24 : decode cJ13_bitCount_95d88 24 = .ok (.lload_n 0, 1) := by decide +kernel
theorem dJ13_bitCount_95d88_25 : decode cJ13_bitCount_95d88 25 = .ok (.lload_n 0, 1) := by decide +kernel
theorem dJ13_bitCount_95d88_26 : decode cJ13_bitCount_95d88 26 = .ok (.iconst 4, 1) := by decide +kernel
theorem dJ13_bitCount_95d88_27 : decode cJ13_bitCount_95d88 27 = .ok (.lushr, 1) := by decide +kernel
theorem dJ13_bitCount_95d88_28 : decode cJ13_bitCount_95d88 28 = .ok (.ladd, 1) := by decide +kernel
theorem dJ13_bitCount_95d88_29 : decode cJ13_bitCount_95d88 29 = .ok (.ldc2_w 318, 3) := by decide +kernel
theorem dJ13_bitCount_95d88_32 : decode cJ13_bitCount_95d88 32 = .ok (.land, 1) := by decide +kernel
theorem dJ13_bitCount_95d88_33 : decode cJ13_bitCount_95d88 33 = .ok (.lstore_n 0, 1) := by decide +kernel
theorem dJ13_bitCount_95d88_34 : decode cJ13_bitCount_95d88 34 = .ok (.lload_n 0, 1) := by decide +kernel
theorem dJ13_bitCount_95d88_35 : decode cJ13_bitCount_95d88 35 = .ok (.lload_n 0, 1) := by decide +kernel
theorem dJ13_bitCount_95d88_36 : decode cJ13_bitCount_95d88 36 = .ok (.bipush 8, 2) := by decide +kernel
theorem dJ13_bitCount_95d88_38 : decode cJ13_bitCount_95d88 38 = .ok (.lushr, 1) := by decide +kernel
theorem dJ13_bitCount_95d88_39 : decode cJ13_bitCount_95d88 39 = .ok (.ladd, 1) := by decide +kernel
theorem dJ13_bitCount_95d88_40 : decode cJ13_bitCount_95d88 40 = .ok (.lstore_n 0, 1) := by decide +kernel
theorem dJ13_bitCount_95d88_41 : decode cJ13_bitCount_95d88 41 = .ok (.lload_n 0, 1) := by decide +kernel
theorem dJ13_bitCount_95d88_42 : decode cJ13_bitCount_95d88 42 = .ok (.lload_n 0, 1) := by decide +kernel
theorem dJ13_bitCount_95d88_43 : decode cJ13_bitCount_95d88 43 = .ok (.bipush 16, 2) := by decide +kernel
theorem dJ13_bitCount_95d88_45 : decode cJ13_bitCount_95d88 45 = .ok (.lushr, 1) := by decide +kernel
theorem dJ13_bitCount_95d88_46 : decode cJ13_bitCount_95d88 46 = .ok (.ladd, 1) := by decide +kernel
theorem dJ13_bitCount_95d88_47 : decode cJ13_bitCount_95d88 47 = .ok (.lstore_n 0, 1) := by decide +kernel
theorem dJ13_bitCount_95d88_48 : decode cJ13_bitCount_95d88 48 = .ok (.lload_n 0, 1) := by decide +kernel
theorem dJ13_bitCount_95d88_49 : decode cJ13_bitCount_95d88 49 = .ok (.lload_n 0, 1) := by decide +kernel
theorem dJ13_bitCount_95d88_50 : decode cJ13_bitCount_95d88 50 = .ok (.bipush 32, 2) := by decide +kernel
theorem dJ13_bitCount_95d88_52 : decode cJ13_bitCount_95d88 52 = .ok (.lushr, 1) := by decide +kernel
theorem dJ13_bitCount_95d88_53 : decode cJ13_bitCount_95d88 53 = .ok (.ladd, 1) := by decide +kernel
theorem dJ13_bitCount_95d88_54 : decode cJ13_bitCount_95d88 54 = .ok (.lstore_n 0, 1) := by decide +kernel
theorem dJ13_bitCount_95d88_55 : decode cJ13_bitCount_95d88 55 = .ok (.lload_n 0, 1) := by decide +kernel
theorem dJ13_bitCount_95d88_56 : decode cJ13_bitCount_95d88 56 = .ok (.l2i, 1) := by decide +kernel
theorem dJ13_bitCount_95d88_57 : decode cJ13_bitCount_95d88 57 = .ok (.bipush 127, 2) := by decide +kernel
theorem dJ13_bitCount_95d88_59 : decode cJ13_bitCount_95d88 59 = .ok (.iand, 1) := by decide +kernel
theorem dJ13_bitCount_95d88_60 : decode cJ13_bitCount_95d88 60 = .ok (.ireturn, 1) := by decide +kernel
theorem dJ9_max_7cf53_0 : decode cJ9_max_7cf53 0 = .ok (.iload_n 0, 1) := by decide +kernel
theorem dJ9_max_7cf53_1 : decode cJ9_max_7cf53 1 = .ok (.iload_n 1, 1) := by decide +kernel
theorem dJ9_max_7cf53_2 : decode cJ9_max_7cf53 2 = .ok (.if_icmp .lt 7, 3) := by decide +kernel
theorem dJ9_max_7cf53_5 : decode cJ9_max_7cf53 5 = .ok (.iload_n 0, 1) := by decide +kernel
theorem dJ9_max_7cf53_6 : decode cJ9_max_7cf53 6 = .ok (.goto 4, 3) := by decide +kernel
theorem dJ9_max_7cf53_9 : decode cJ9_max_7cf53 9 = .ok (.iload_n 1, 1) := by decide +kernel
theorem dJ9_max_7cf53_10 : decode cJ9_max_7cf53 10 = .ok (.ireturn, 1) := by decide +kernel
theorem dJ9_min_7cf53_0 : decode cJ9_min_7cf53 0 = .ok (.iload_n 0, 1) := by decide +kernel
theorem dJ9_min_7cf53_1 : decode cJ9_min_7cf53 1 = .ok (.iload_n 1, 1) := by decide +kernel
theorem dJ9_min_7cf53_2 : decode cJ9_min_7cf53 2 = .ok (.if_icmp .gt 7, 3) := by decide +kernel
theorem dJ9_min_7cf53_5 : decode cJ9_min_7cf53 5 = .ok (.iload_n 0, 1) := by decide +kernel
theorem dJ9_min_7cf53_6 : decode cJ9_min_7cf53 6 = .ok (.goto 4, 3) := by decide +kernel
theorem dJ9_min_7cf53_9 : decode cJ9_min_7cf53 9 = .ok (.iload_n 1, 1) := by decide +kernel
theorem dJ9_min_7cf53_10 : decode cJ9_min_7cf53 10 = .ok (.ireturn, 1) := by decide +kernel
theorem dJ7_fill_53178_0 : decode cJ7_fill_53178 0 = .ok (.iconst 0, 1) := by decide +kernel
theorem dJ7_fill_53178_1 : decode cJ7_fill_53178 1 = .ok (.istore_n 2, 1) := by decide +kernel
theorem dJ7_fill_53178_2 : decode cJ7_fill_53178 2 = .ok (.aload_n 0, 1) := by decide +kernel
theorem dJ7_fill_53178_3 : decode cJ7_fill_53178 3 = .ok (.arraylength, 1) := by decide +kernel
theorem dJ7_fill_53178_4 : decode cJ7_fill_53178 4 = .ok (.istore_n 3, 1) := by decide +kernel
theorem dJ7_fill_53178_5 : decode cJ7_fill_53178 5 = .ok (.iload_n 2, 1) := by decide +kernel
theorem dJ7_fill_53178_6 : decode cJ7_fill_53178 6 = .ok (.iload_n 3, 1) := by decide +kernel
theorem dJ7_fill_53178_7 : decode cJ7_fill_53178 7 = .ok (.if_icmp .ge 13, 3) := by decide +kernel
theorem dJ7_fill_53178_10 : decode cJ7_fill_53178 10 = .ok (.aload_n 0, 1) := by decide +kernel
theorem dJ7_fill_53178_11 : decode cJ7_fill_53178 11 = .ok (.iload_n 2, 1) := by decide +kernel
theorem dJ7_fill_53178_12 : decode cJ7_fill_53178 12 = .ok (.iload_n 1, 1) := by decide +kernel
theorem dJ7_fill_53178_13 : decode cJ7_fill_53178 13 = .ok (.iastore, 1) := by decide +kernel
theorem dJ7_fill_53178_14 : decode cJ7_fill_53178 14 = .ok (.iinc 2 1, 3) := by decide +kernel
theorem dJ7_fill_53178_17 : decode cJ7_fill_53178 17 = .ok (.goto (-12), 3) := by decide +kernel
theorem dJ7_fill_53178_20 : decode cJ7_fill_53178 20 = .ok (.return_, 1) := by decide +kernel
theorem dL_addTenant_0 : decode cL_addTenant 0 = .ok (.aload_n 2, 1) := by decide +kernel
theorem dL_addTenant_1 : decode cL_addTenant 1 = .ok (.iconst 0, 1) := by decide +kernel
theorem dL_addTenant_2 : decode cL_addTenant 2 = .ok (.aload_n 0, 1) := by decide +kernel
theorem dL_addTenant_3 : decode cL_addTenant 3 = .ok (.iload_n 1, 1) := by decide +kernel
theorem dL_addTenant_4 : decode cL_addTenant 4 = .ok (.invokevirtual 7, 3) := by decide +kernel
theorem dL_addTenant_7 : decode cL_addTenant 7 = .ok (.i2l, 1) := by decide +kernel
theorem dL_addTenant_8 : decode cL_addTenant 8 = .ok (.lastore, 1) := by decide +kernel
theorem dL_addTenant_9 : decode cL_addTenant 9 = .ok (.goto 9, 3) := by decide +kernel
theorem dL_addTenant_12 : decode cL_addTenant 12 = .ok (.astore_n 3, 1) := by decide +kernel
theorem dL_addTenant_13 : decode cL_addTenant 13 = .ok (.iconst 1, 1) := by decide +kernel
theorem dL_addTenant_14 : decode cL_addTenant 14 = .ok (.ireturn, 1) := by decide +kernel
theorem dL_addTenant_15 : decode cL_addTenant 15 = .ok (.astore_n 3, 1) := by decide +kernel
theorem dL_addTenant_16 : decode cL_addTenant 16 = .ok (.iconst 2, 1) := by decide +kernel
theorem dL_addTenant_17 : decode cL_addTenant 17 = .ok (.ireturn, 1) := by decide +kernel
theorem dL_addTenant_18 : decode cL_addTenant 18 = .ok (.iconst 0, 1) := by decide +kernel
theorem dL_addTenant_19 : decode cL_addTenant 19 = .ok (.ireturn, 1) := by decide +kernel
theorem dL_addInsurer_0 : decode cL_addInsurer 0 = .ok (.aload 4, 2) := by decide +kernel
theorem dL_addInsurer_2 : decode cL_addInsurer 2 = .ok (.iconst 0, 1) := by decide +kernel
theorem dL_addInsurer_3 : decode cL_addInsurer 3 = .ok (.aload_n 0, 1) := by decide +kernel
theorem dL_addInsurer_4 : decode cL_addInsurer 4 = .ok (.iload_n 1, 1) := by decide +kernel
theorem dL_addInsurer_5 : decode cL_addInsurer 5 = .ok (.iload_n 2, 1) := by decide +kernel
theorem dL_addInsurer_6 : decode cL_addInsurer 6 = .ok (.iload_n 3, 1) := by decide +kernel
theorem dL_addInsurer_7 : decode cL_addInsurer 7 = .ok (.invokevirtual 17, 3) := by decide +kernel
theorem dL_addInsurer_10 : decode cL_addInsurer 10 = .ok (.i2l, 1) := by decide +kernel
theorem dL_addInsurer_11 : decode cL_addInsurer 11 = .ok (.lastore, 1) := by decide +kernel
theorem dL_addInsurer_12 : decode cL_addInsurer 12 = .ok (.goto 11, 3) := by decide +kernel
theorem dL_addInsurer_15 : decode cL_addInsurer 15 = .ok (.astore 5, 2) := by decide +kernel
theorem dL_addInsurer_17 : decode cL_addInsurer 17 = .ok (.iconst 1, 1) := by decide +kernel
theorem dL_addInsurer_18 : decode cL_addInsurer 18 = .ok (.ireturn, 1) := by decide +kernel
theorem dL_addInsurer_19 : decode cL_addInsurer 19 = .ok (.astore 5, 2) := by decide +kernel
theorem dL_addInsurer_21 : decode cL_addInsurer 21 = .ok (.iconst 2, 1) := by decide +kernel
theorem dL_addInsurer_22 : decode cL_addInsurer 22 = .ok (.ireturn, 1) := by decide +kernel
theorem dL_addInsurer_23 : decode cL_addInsurer 23 = .ok (.iconst 0, 1) := by decide +kernel
theorem dL_addInsurer_24 : decode cL_addInsurer 24 = .ok (.ireturn, 1) := by decide +kernel
theorem dL_set_0 : decode cL_set 0 = .ok (.aload_n 3, 1) := by decide +kernel
theorem dL_set_1 : decode cL_set 1 = .ok (.iconst 0, 1) := by decide +kernel
theorem dL_set_2 : decode cL_set 2 = .ok (.aload_n 0, 1) := by decide +kernel
theorem dL_set_3 : decode cL_set 3 = .ok (.iload_n 1, 1) := by decide +kernel
theorem dL_set_4 : decode cL_set 4 = .ok (.iload_n 2, 1) := by decide +kernel
theorem dL_set_5 : decode cL_set 5 = .ok (.invokevirtual 21, 3) := by decide +kernel
theorem dL_set_8 : decode cL_set 8 = .ok (.i2l, 1) := by decide +kernel
theorem dL_set_9 : decode cL_set 9 = .ok (.lastore, 1) := by decide +kernel
theorem dL_set_10 : decode cL_set 10 = .ok (.goto 11, 3) := by decide +kernel
theorem dL_set_13 : decode cL_set 13 = .ok (.astore 4, 2) := by decide +kernel
theorem dL_set_15 : decode cL_set 15 = .ok (.iconst 1, 1) := by decide +kernel
theorem dL_set_16 : decode cL_set 16 = .ok (.ireturn, 1) := by decide +kernel
theorem dL_set_17 : decode cL_set 17 = .ok (.astore 4, 2) := by decide +kernel
theorem dL_set_19 : decode cL_set 19 = .ok (.iconst 2, 1) := by decide +kernel
theorem dL_set_20 : decode cL_set 20 = .ok (.ireturn, 1) := by decide +kernel
theorem dL_set_21 : decode cL_set 21 = .ok (.iconst 0, 1) := by decide +kernel
theorem dL_set_22 : decode cL_set 22 = .ok (.ireturn, 1) := by decide +kernel
theorem dL_lease_0 : decode cL_lease 0 = .ok (.aload 4, 2) := by decide +kernel
theorem dL_lease_2 : decode cL_lease 2 = .ok (.iconst 0, 1) := by decide +kernel
theorem dL_lease_3 : decode cL_lease 3 = .ok (.aload_n 0, 1) := by decide +kernel
theorem dL_lease_4 : decode cL_lease 4 = .ok (.iload_n 1, 1) := by decide +kernel
theorem dL_lease_5 : decode cL_lease 5 = .ok (.iload_n 2, 1) := by decide +kernel
theorem dL_lease_6 : decode cL_lease 6 = .ok (.iload_n 3, 1) := by decide +kernel
theorem dL_lease_7 : decode cL_lease 7 = .ok (.invokevirtual 27, 3) := by decide +kernel
theorem dL_lease_10 : decode cL_lease 10 = .ok (.i2l, 1) := by decide +kernel
theorem dL_lease_11 : decode cL_lease 11 = .ok (.lastore, 1) := by decide +kernel
theorem dL_lease_12 : decode cL_lease 12 = .ok (.goto 15, 3) := by decide +kernel
theorem dL_lease_15 : decode cL_lease 15 = .ok (.astore 5, 2) := by decide +kernel
theorem dL_lease_17 : decode cL_lease 17 = .ok (.iconst 1, 1) := by decide +kernel
theorem dL_lease_18 : decode cL_lease 18 = .ok (.ireturn, 1) := by decide +kernel
theorem dL_lease_19 : decode cL_lease 19 = .ok (.astore 5, 2) := by decide +kernel
theorem dL_lease_21 : decode cL_lease 21 = .ok (.iconst 2, 1) := by decide +kernel
theorem dL_lease_22 : decode cL_lease 22 = .ok (.ireturn, 1) := by decide +kernel
theorem dL_lease_23 : decode cL_lease 23 = .ok (.astore 5, 2) := by decide +kernel
theorem dL_lease_25 : decode cL_lease 25 = .ok (.iconst 3, 1) := by decide +kernel
theorem dL_lease_26 : decode cL_lease 26 = .ok (.ireturn, 1) := by decide +kernel
theorem dL_lease_27 : decode cL_lease 27 = .ok (.iconst 0, 1) := by decide +kernel
theorem dL_lease_28 : decode cL_lease 28 = .ok (.ireturn, 1) := by decide +kernel
theorem dL_insure_0 : decode cL_insure 0 = .ok (.aload 4, 2) := by decide +kernel
theorem dL_insure_2 : decode cL_insure 2 = .ok (.iconst 0, 1) := by decide +kernel
theorem dL_insure_3 : decode cL_insure 3 = .ok (.aload_n 0, 1) := by decide +kernel
theorem dL_insure_4 : decode cL_insure 4 = .ok (.iload_n 1, 1) := by decide +kernel
theorem dL_insure_5 : decode cL_insure 5 = .ok (.iload_n 2, 1) := by decide +kernel
theorem dL_insure_6 : decode cL_insure 6 = .ok (.iload_n 3, 1) := by decide +kernel
theorem dL_insure_7 : decode cL_insure 7 = .ok (.invokevirtual 30, 3) := by decide +kernel
theorem dL_insure_10 : decode cL_insure 10 = .ok (.i2l, 1) := by decide +kernel
theorem dL_insure_11 : decode cL_insure 11 = .ok (.lastore, 1) := by decide +kernel
theorem dL_insure_12 : decode cL_insure 12 = .ok (.goto 15, 3) := by decide +kernel
theorem dL_insure_15 : decode cL_insure 15 = .ok (.astore 5, 2) := by decide +kernel
theorem dL_insure_17 : decode cL_insure 17 = .ok (.iconst 1, 1) := by decide +kernel
theorem dL_insure_18 : decode cL_insure 18 = .ok (.ireturn, 1) := by decide +kernel
theorem dL_insure_19 : decode cL_insure 19 = .ok (.astore 5, 2) := by decide +kernel
theorem dL_insure_21 : decode cL_insure 21 = .ok (.iconst 2, 1) := by decide +kernel
theorem dL_insure_22 : decode cL_insure 22 = .ok (.ireturn, 1) := by decide +kernel
theorem dL_insure_23 : decode cL_insure 23 = .ok (.astore 5, 2) := by decide +kernel
theorem dL_insure_25 : decode cL_insure 25 = .ok (.iconst 3, 1) := by decide +kernel
theorem dL_insure_26 : decode cL_insure 26 = .ok (.ireturn, 1) := by decide +kernel
theorem dL_insure_27 : decode cL_insure 27 = .ok (.iconst 0, 1) := by decide +kernel
theorem dL_insure_28 : decode cL_insure 28 = .ok (.ireturn, 1) := by decide +kernel
theorem dL_renew_0 : decode cL_renew 0 = .ok (.aload_n 2, 1) := by decide +kernel
theorem dL_renew_1 : decode cL_renew 1 = .ok (.iconst 0, 1) := by decide +kernel
theorem dL_renew_2 : decode cL_renew 2 = .ok (.aload_n 0, 1) := by decide +kernel
theorem dL_renew_3 : decode cL_renew 3 = .ok (.iload_n 1, 1) := by decide +kernel
theorem dL_renew_4 : decode cL_renew 4 = .ok (.invokevirtual 33, 3) := by decide +kernel
theorem dL_renew_7 : decode cL_renew 7 = .ok (.i2l, 1) := by decide +kernel
theorem dL_renew_8 : decode cL_renew 8 = .ok (.lastore, 1) := by decide +kernel
theorem dL_renew_9 : decode cL_renew 9 = .ok (.goto 9, 3) := by decide +kernel
theorem dL_renew_12 : decode cL_renew 12 = .ok (.astore_n 3, 1) := by decide +kernel
theorem dL_renew_13 : decode cL_renew 13 = .ok (.iconst 1, 1) := by decide +kernel
theorem dL_renew_14 : decode cL_renew 14 = .ok (.ireturn, 1) := by decide +kernel
theorem dL_renew_15 : decode cL_renew 15 = .ok (.astore_n 3, 1) := by decide +kernel
theorem dL_renew_16 : decode cL_renew 16 = .ok (.iconst 2, 1) := by decide +kernel
theorem dL_renew_17 : decode cL_renew 17 = .ok (.ireturn, 1) := by decide +kernel
theorem dL_renew_18 : decode cL_renew 18 = .ok (.iconst 0, 1) := by decide +kernel
theorem dL_renew_19 : decode cL_renew 19 = .ok (.ireturn, 1) := by decide +kernel
theorem dL_write_0 : decode cL_write 0 = .ok (.aload_n 3, 1) := by decide +kernel
theorem dL_write_1 : decode cL_write 1 = .ok (.iconst 0, 1) := by decide +kernel
theorem dL_write_2 : decode cL_write 2 = .ok (.aload_n 0, 1) := by decide +kernel
theorem dL_write_3 : decode cL_write 3 = .ok (.iload_n 1, 1) := by decide +kernel
theorem dL_write_4 : decode cL_write 4 = .ok (.iload_n 2, 1) := by decide +kernel
theorem dL_write_5 : decode cL_write 5 = .ok (.invokevirtual 36, 3) := by decide +kernel
theorem dL_write_8 : decode cL_write 8 = .ok (.i2l, 1) := by decide +kernel
theorem dL_write_9 : decode cL_write 9 = .ok (.lastore, 1) := by decide +kernel
theorem dL_write_10 : decode cL_write 10 = .ok (.goto 11, 3) := by decide +kernel
theorem dL_write_13 : decode cL_write 13 = .ok (.astore 4, 2) := by decide +kernel
theorem dL_write_15 : decode cL_write 15 = .ok (.iconst 1, 1) := by decide +kernel
theorem dL_write_16 : decode cL_write 16 = .ok (.ireturn, 1) := by decide +kernel
theorem dL_write_17 : decode cL_write 17 = .ok (.astore 4, 2) := by decide +kernel
theorem dL_write_19 : decode cL_write 19 = .ok (.iconst 2, 1) := by decide +kernel
theorem dL_write_20 : decode cL_write 20 = .ok (.ireturn, 1) := by decide +kernel
theorem dL_write_21 : decode cL_write 21 = .ok (.iconst 0, 1) := by decide +kernel
theorem dL_write_22 : decode cL_write 22 = .ok (.ireturn, 1) := by decide +kernel
theorem dL_read_0 : decode cL_read 0 = .ok (.aload_n 2, 1) := by decide +kernel
theorem dL_read_1 : decode cL_read 1 = .ok (.iconst 0, 1) := by decide +kernel
theorem dL_read_2 : decode cL_read 2 = .ok (.aload_n 0, 1) := by decide +kernel
theorem dL_read_3 : decode cL_read 3 = .ok (.iload_n 1, 1) := by decide +kernel
theorem dL_read_4 : decode cL_read 4 = .ok (.invokevirtual 40, 3) := by decide +kernel
theorem dL_read_7 : decode cL_read 7 = .ok (.i2l, 1) := by decide +kernel
theorem dL_read_8 : decode cL_read 8 = .ok (.lastore, 1) := by decide +kernel
theorem dL_read_9 : decode cL_read 9 = .ok (.goto 9, 3) := by decide +kernel
theorem dL_read_12 : decode cL_read 12 = .ok (.astore_n 3, 1) := by decide +kernel
theorem dL_read_13 : decode cL_read 13 = .ok (.iconst 1, 1) := by decide +kernel
theorem dL_read_14 : decode cL_read 14 = .ok (.ireturn, 1) := by decide +kernel
theorem dL_read_15 : decode cL_read 15 = .ok (.astore_n 3, 1) := by decide +kernel
theorem dL_read_16 : decode cL_read 16 = .ok (.iconst 2, 1) := by decide +kernel
theorem dL_read_17 : decode cL_read 17 = .ok (.ireturn, 1) := by decide +kernel
theorem dL_read_18 : decode cL_read 18 = .ok (.iconst 0, 1) := by decide +kernel
theorem dL_read_19 : decode cL_read 19 = .ok (.ireturn, 1) := by decide +kernel
theorem dL_writeBack_0 : decode cL_writeBack 0 = .ok (.aload_n 1, 1) := by decide +kernel
theorem dL_writeBack_1 : decode cL_writeBack 1 = .ok (.iconst 0, 1) := by decide +kernel
theorem dL_writeBack_2 : decode cL_writeBack 2 = .ok (.aload_n 0, 1) := by decide +kernel
theorem dL_writeBack_3 : decode cL_writeBack 3 = .ok (.invokevirtual 43, 3) := by decide +kernel
theorem dL_writeBack_6 : decode cL_writeBack 6 = .ok (.i2l, 1) := by decide +kernel
theorem dL_writeBack_7 : decode cL_writeBack 7 = .ok (.lastore, 1) := by decide +kernel
theorem dL_writeBack_8 : decode cL_writeBack 8 = .ok (.goto 6, 3) := by decide +kernel
theorem dL_writeBack_11 : decode cL_writeBack 11 = .ok (.astore_n 2, 1) := by decide +kernel
theorem dL_writeBack_12 : decode cL_writeBack 12 = .ok (.iconst 1, 1) := by decide +kernel
theorem dL_writeBack_13 : decode cL_writeBack 13 = .ok (.ireturn, 1) := by decide +kernel
theorem dL_writeBack_14 : decode cL_writeBack 14 = .ok (.iconst 0, 1) := by decide +kernel
theorem dL_writeBack_15 : decode cL_writeBack 15 = .ok (.ireturn, 1) := by decide +kernel
theorem dL_pass_0 : decode cL_pass 0 = .ok (.aload_n 2, 1) := by decide +kernel
theorem dL_pass_1 : decode cL_pass 1 = .ok (.iconst 0, 1) := by decide +kernel
theorem dL_pass_2 : decode cL_pass 2 = .ok (.aload_n 0, 1) := by decide +kernel
theorem dL_pass_3 : decode cL_pass 3 = .ok (.iload_n 1, 1) := by decide +kernel
theorem dL_pass_4 : decode cL_pass 4 = .ok (.invokevirtual 47, 3) := by decide +kernel
theorem dL_pass_7 : decode cL_pass 7 = .ok (.i2l, 1) := by decide +kernel
theorem dL_pass_8 : decode cL_pass 8 = .ok (.lastore, 1) := by decide +kernel
theorem dL_pass_9 : decode cL_pass 9 = .ok (.goto 9, 3) := by decide +kernel
theorem dL_pass_12 : decode cL_pass 12 = .ok (.astore_n 3, 1) := by decide +kernel
theorem dL_pass_13 : decode cL_pass 13 = .ok (.iconst 1, 1) := by decide +kernel
theorem dL_pass_14 : decode cL_pass 14 = .ok (.ireturn, 1) := by decide +kernel
theorem dL_pass_15 : decode cL_pass 15 = .ok (.astore_n 3, 1) := by decide +kernel
theorem dL_pass_16 : decode cL_pass 16 = .ok (.iconst 2, 1) := by decide +kernel
theorem dL_pass_17 : decode cL_pass 17 = .ok (.ireturn, 1) := by decide +kernel
theorem dL_pass_18 : decode cL_pass 18 = .ok (.iconst 0, 1) := by decide +kernel
theorem dL_pass_19 : decode cL_pass 19 = .ok (.ireturn, 1) := by decide +kernel
theorem dL_append_0 : decode cL_append 0 = .ok (.aload_n 2, 1) := by decide +kernel
theorem dL_append_1 : decode cL_append 1 = .ok (.iconst 0, 1) := by decide +kernel
theorem dL_append_2 : decode cL_append 2 = .ok (.aload_n 0, 1) := by decide +kernel
theorem dL_append_3 : decode cL_append 3 = .ok (.iload_n 1, 1) := by decide +kernel
theorem dL_append_4 : decode cL_append 4 = .ok (.invokevirtual 50, 3) := by decide +kernel
theorem dL_append_7 : decode cL_append 7 = .ok (.i2l, 1) := by decide +kernel
theorem dL_append_8 : decode cL_append 8 = .ok (.lastore, 1) := by decide +kernel
theorem dL_append_9 : decode cL_append 9 = .ok (.goto 9, 3) := by decide +kernel
theorem dL_append_12 : decode cL_append 12 = .ok (.astore_n 3, 1) := by decide +kernel
theorem dL_append_13 : decode cL_append 13 = .ok (.iconst 1, 1) := by decide +kernel
theorem dL_append_14 : decode cL_append 14 = .ok (.ireturn, 1) := by decide +kernel
theorem dL_append_15 : decode cL_append 15 = .ok (.astore_n 3, 1) := by decide +kernel
theorem dL_append_16 : decode cL_append 16 = .ok (.iconst 2, 1) := by decide +kernel
theorem dL_append_17 : decode cL_append 17 = .ok (.ireturn, 1) := by decide +kernel
theorem dL_append_18 : decode cL_append 18 = .ok (.iconst 0, 1) := by decide +kernel
theorem dL_append_19 : decode cL_append 19 = .ok (.ireturn, 1) := by decide +kernel
theorem dL_run_0 : decode cL_run 0 = .ok (.aload_n 2, 1) := by decide +kernel
theorem dL_run_1 : decode cL_run 1 = .ok (.iconst 0, 1) := by decide +kernel
theorem dL_run_2 : decode cL_run 2 = .ok (.aload_n 0, 1) := by decide +kernel
theorem dL_run_3 : decode cL_run 3 = .ok (.iload_n 1, 1) := by decide +kernel
theorem dL_run_4 : decode cL_run 4 = .ok (.invokevirtual 53, 3) := by decide +kernel
theorem dL_run_7 : decode cL_run 7 = .ok (.i2l, 1) := by decide +kernel
theorem dL_run_8 : decode cL_run 8 = .ok (.lastore, 1) := by decide +kernel
theorem dL_run_9 : decode cL_run 9 = .ok (.goto 9, 3) := by decide +kernel
theorem dL_run_12 : decode cL_run 12 = .ok (.astore_n 3, 1) := by decide +kernel
theorem dL_run_13 : decode cL_run 13 = .ok (.iconst 1, 1) := by decide +kernel
theorem dL_run_14 : decode cL_run 14 = .ok (.ireturn, 1) := by decide +kernel
theorem dL_run_15 : decode cL_run 15 = .ok (.astore_n 3, 1) := by decide +kernel
theorem dL_run_16 : decode cL_run 16 = .ok (.iconst 2, 1) := by decide +kernel
theorem dL_run_17 : decode cL_run 17 = .ok (.ireturn, 1) := by decide +kernel
theorem dL_run_18 : decode cL_run 18 = .ok (.iconst 0, 1) := by decide +kernel
theorem dL_run_19 : decode cL_run 19 = .ok (.ireturn, 1) := by decide +kernel
theorem dL_undo_0 : decode cL_undo 0 = .ok (.aload_n 1, 1) := by decide +kernel
theorem dL_undo_1 : decode cL_undo 1 = .ok (.iconst 0, 1) := by decide +kernel
theorem dL_undo_2 : decode cL_undo 2 = .ok (.aload_n 0, 1) := by decide +kernel
theorem dL_undo_3 : decode cL_undo 3 = .ok (.invokevirtual 56, 3) := by decide +kernel
theorem dL_undo_6 : decode cL_undo 6 = .ok (.i2l, 1) := by decide +kernel
theorem dL_undo_7 : decode cL_undo 7 = .ok (.lastore, 1) := by decide +kernel
theorem dL_undo_8 : decode cL_undo 8 = .ok (.goto 6, 3) := by decide +kernel
theorem dL_undo_11 : decode cL_undo 11 = .ok (.astore_n 2, 1) := by decide +kernel
theorem dL_undo_12 : decode cL_undo 12 = .ok (.iconst 1, 1) := by decide +kernel
theorem dL_undo_13 : decode cL_undo 13 = .ok (.ireturn, 1) := by decide +kernel
theorem dL_undo_14 : decode cL_undo 14 = .ok (.iconst 0, 1) := by decide +kernel
theorem dL_undo_15 : decode cL_undo 15 = .ok (.ireturn, 1) := by decide +kernel
theorem dL_core_0 : decode cL_core 0 = .ok (.aload_n 3, 1) := by decide +kernel
theorem dL_core_1 : decode cL_core 1 = .ok (.iconst 0, 1) := by decide +kernel
theorem dL_core_2 : decode cL_core 2 = .ok (.aload_n 0, 1) := by decide +kernel
theorem dL_core_3 : decode cL_core 3 = .ok (.iload_n 1, 1) := by decide +kernel
theorem dL_core_4 : decode cL_core 4 = .ok (.iload_n 2, 1) := by decide +kernel
theorem dL_core_5 : decode cL_core 5 = .ok (.invokevirtual 59, 3) := by decide +kernel
theorem dL_core_8 : decode cL_core 8 = .ok (.i2l, 1) := by decide +kernel
theorem dL_core_9 : decode cL_core 9 = .ok (.lastore, 1) := by decide +kernel
theorem dL_core_10 : decode cL_core 10 = .ok (.goto 11, 3) := by decide +kernel
theorem dL_core_13 : decode cL_core 13 = .ok (.astore 4, 2) := by decide +kernel
theorem dL_core_15 : decode cL_core 15 = .ok (.iconst 1, 1) := by decide +kernel
theorem dL_core_16 : decode cL_core 16 = .ok (.ireturn, 1) := by decide +kernel
theorem dL_core_17 : decode cL_core 17 = .ok (.astore 4, 2) := by decide +kernel
theorem dL_core_19 : decode cL_core 19 = .ok (.iconst 2, 1) := by decide +kernel
theorem dL_core_20 : decode cL_core 20 = .ok (.ireturn, 1) := by decide +kernel
theorem dL_core_21 : decode cL_core 21 = .ok (.iconst 0, 1) := by decide +kernel
theorem dL_core_22 : decode cL_core 22 = .ok (.ireturn, 1) := by decide +kernel
theorem dL_tenant_0 : decode cL_tenant 0 = .ok (.aload_n 3, 1) := by decide +kernel
theorem dL_tenant_1 : decode cL_tenant 1 = .ok (.iconst 0, 1) := by decide +kernel
theorem dL_tenant_2 : decode cL_tenant 2 = .ok (.aload_n 0, 1) := by decide +kernel
theorem dL_tenant_3 : decode cL_tenant 3 = .ok (.iload_n 1, 1) := by decide +kernel
theorem dL_tenant_4 : decode cL_tenant 4 = .ok (.iload_n 2, 1) := by decide +kernel
theorem dL_tenant_5 : decode cL_tenant 5 = .ok (.invokevirtual 62, 3) := by decide +kernel
theorem dL_tenant_8 : decode cL_tenant 8 = .ok (.i2l, 1) := by decide +kernel
theorem dL_tenant_9 : decode cL_tenant 9 = .ok (.lastore, 1) := by decide +kernel
theorem dL_tenant_10 : decode cL_tenant 10 = .ok (.goto 11, 3) := by decide +kernel
theorem dL_tenant_13 : decode cL_tenant 13 = .ok (.astore 4, 2) := by decide +kernel
theorem dL_tenant_15 : decode cL_tenant 15 = .ok (.iconst 1, 1) := by decide +kernel
theorem dL_tenant_16 : decode cL_tenant 16 = .ok (.ireturn, 1) := by decide +kernel
theorem dL_tenant_17 : decode cL_tenant 17 = .ok (.astore 4, 2) := by decide +kernel
theorem dL_tenant_19 : decode cL_tenant 19 = .ok (.iconst 2, 1) := by decide +kernel
theorem dL_tenant_20 : decode cL_tenant 20 = .ok (.ireturn, 1) := by decide +kernel
theorem dL_tenant_21 : decode cL_tenant 21 = .ok (.iconst 0, 1) := by decide +kernel
theorem dL_tenant_22 : decode cL_tenant 22 = .ok (.ireturn, 1) := by decide +kernel
theorem dL_insurer_0 : decode cL_insurer 0 = .ok (.aload_n 3, 1) := by decide +kernel
theorem dL_insurer_1 : decode cL_insurer 1 = .ok (.iconst 0, 1) := by decide +kernel
theorem dL_insurer_2 : decode cL_insurer 2 = .ok (.aload_n 0, 1) := by decide +kernel
theorem dL_insurer_3 : decode cL_insurer 3 = .ok (.iload_n 1, 1) := by decide +kernel
theorem dL_insurer_4 : decode cL_insurer 4 = .ok (.iload_n 2, 1) := by decide +kernel
theorem dL_insurer_5 : decode cL_insurer 5 = .ok (.invokevirtual 65, 3) := by decide +kernel
theorem dL_insurer_8 : decode cL_insurer 8 = .ok (.i2l, 1) := by decide +kernel
theorem dL_insurer_9 : decode cL_insurer 9 = .ok (.lastore, 1) := by decide +kernel
theorem dL_insurer_10 : decode cL_insurer 10 = .ok (.goto 11, 3) := by decide +kernel
theorem dL_insurer_13 : decode cL_insurer 13 = .ok (.astore 4, 2) := by decide +kernel
theorem dL_insurer_15 : decode cL_insurer 15 = .ok (.iconst 1, 1) := by decide +kernel
theorem dL_insurer_16 : decode cL_insurer 16 = .ok (.ireturn, 1) := by decide +kernel
theorem dL_insurer_17 : decode cL_insurer 17 = .ok (.astore 4, 2) := by decide +kernel
theorem dL_insurer_19 : decode cL_insurer 19 = .ok (.iconst 2, 1) := by decide +kernel
theorem dL_insurer_20 : decode cL_insurer 20 = .ok (.ireturn, 1) := by decide +kernel
theorem dL_insurer_21 : decode cL_insurer 21 = .ok (.iconst 0, 1) := by decide +kernel
theorem dL_insurer_22 : decode cL_insurer 22 = .ok (.ireturn, 1) := by decide +kernel
theorem dL_owed_0 : decode cL_owed 0 = .ok (.aload_n 3, 1) := by decide +kernel
theorem dL_owed_1 : decode cL_owed 1 = .ok (.iconst 0, 1) := by decide +kernel
theorem dL_owed_2 : decode cL_owed 2 = .ok (.aload_n 0, 1) := by decide +kernel
theorem dL_owed_3 : decode cL_owed 3 = .ok (.iload_n 1, 1) := by decide +kernel
theorem dL_owed_4 : decode cL_owed 4 = .ok (.iload_n 2, 1) := by decide +kernel
theorem dL_owed_5 : decode cL_owed 5 = .ok (.invokevirtual 68, 3) := by decide +kernel
theorem dL_owed_8 : decode cL_owed 8 = .ok (.i2l, 1) := by decide +kernel
theorem dL_owed_9 : decode cL_owed 9 = .ok (.lastore, 1) := by decide +kernel
theorem dL_owed_10 : decode cL_owed 10 = .ok (.goto 7, 3) := by decide +kernel
theorem dL_owed_13 : decode cL_owed 13 = .ok (.astore 4, 2) := by decide +kernel
theorem dL_owed_15 : decode cL_owed 15 = .ok (.iconst 1, 1) := by decide +kernel
theorem dL_owed_16 : decode cL_owed 16 = .ok (.ireturn, 1) := by decide +kernel
theorem dL_owed_17 : decode cL_owed 17 = .ok (.iconst 0, 1) := by decide +kernel
theorem dL_owed_18 : decode cL_owed 18 = .ok (.ireturn, 1) := by decide +kernel
theorem dL_weakest_0 : decode cL_weakest 0 = .ok (.aload_n 2, 1) := by decide +kernel
theorem dL_weakest_1 : decode cL_weakest 1 = .ok (.iconst 0, 1) := by decide +kernel
theorem dL_weakest_2 : decode cL_weakest 2 = .ok (.aload_n 0, 1) := by decide +kernel
theorem dL_weakest_3 : decode cL_weakest 3 = .ok (.iload_n 1, 1) := by decide +kernel
theorem dL_weakest_4 : decode cL_weakest 4 = .ok (.invokevirtual 71, 3) := by decide +kernel
theorem dL_weakest_7 : decode cL_weakest 7 = .ok (.i2l, 1) := by decide +kernel
theorem dL_weakest_8 : decode cL_weakest 8 = .ok (.lastore, 1) := by decide +kernel
theorem dL_weakest_9 : decode cL_weakest 9 = .ok (.goto 6, 3) := by decide +kernel
theorem dL_weakest_12 : decode cL_weakest 12 = .ok (.astore_n 3, 1) := by decide +kernel
theorem dL_weakest_13 : decode cL_weakest 13 = .ok (.iconst 1, 1) := by decide +kernel
theorem dL_weakest_14 : decode cL_weakest 14 = .ok (.ireturn, 1) := by decide +kernel
theorem dL_weakest_15 : decode cL_weakest 15 = .ok (.iconst 0, 1) := by decide +kernel
theorem dL_weakest_16 : decode cL_weakest 16 = .ok (.ireturn, 1) := by decide +kernel
theorem dL_count_0 : decode cL_count 0 = .ok (.aload_n 2, 1) := by decide +kernel
theorem dL_count_1 : decode cL_count 1 = .ok (.iconst 0, 1) := by decide +kernel
theorem dL_count_2 : decode cL_count 2 = .ok (.aload_n 0, 1) := by decide +kernel
theorem dL_count_3 : decode cL_count 3 = .ok (.iload_n 1, 1) := by decide +kernel
theorem dL_count_4 : decode cL_count 4 = .ok (.invokevirtual 74, 3) := by decide +kernel
theorem dL_count_7 : decode cL_count 7 = .ok (.i2l, 1) := by decide +kernel
theorem dL_count_8 : decode cL_count 8 = .ok (.lastore, 1) := by decide +kernel
theorem dL_count_9 : decode cL_count 9 = .ok (.goto 6, 3) := by decide +kernel
theorem dL_count_12 : decode cL_count 12 = .ok (.astore_n 3, 1) := by decide +kernel
theorem dL_count_13 : decode cL_count 13 = .ok (.iconst 1, 1) := by decide +kernel
theorem dL_count_14 : decode cL_count 14 = .ok (.ireturn, 1) := by decide +kernel
theorem dL_count_15 : decode cL_count 15 = .ok (.iconst 0, 1) := by decide +kernel
theorem dL_count_16 : decode cL_count 16 = .ok (.ireturn, 1) := by decide +kernel
theorem dL_setting_0 : decode cL_setting 0 = .ok (.aload_n 2, 1) := by decide +kernel
theorem dL_setting_1 : decode cL_setting 1 = .ok (.iconst 0, 1) := by decide +kernel
theorem dL_setting_2 : decode cL_setting 2 = .ok (.aload_n 0, 1) := by decide +kernel
theorem dL_setting_3 : decode cL_setting 3 = .ok (.iload_n 1, 1) := by decide +kernel
theorem dL_setting_4 : decode cL_setting 4 = .ok (.invokevirtual 77, 3) := by decide +kernel
theorem dL_setting_7 : decode cL_setting 7 = .ok (.i2l, 1) := by decide +kernel
theorem dL_setting_8 : decode cL_setting 8 = .ok (.lastore, 1) := by decide +kernel
theorem dL_setting_9 : decode cL_setting 9 = .ok (.goto 6, 3) := by decide +kernel
theorem dL_setting_12 : decode cL_setting 12 = .ok (.astore_n 3, 1) := by decide +kernel
theorem dL_setting_13 : decode cL_setting 13 = .ok (.iconst 1, 1) := by decide +kernel
theorem dL_setting_14 : decode cL_setting 14 = .ok (.ireturn, 1) := by decide +kernel
theorem dL_setting_15 : decode cL_setting 15 = .ok (.iconst 0, 1) := by decide +kernel
theorem dL_setting_16 : decode cL_setting 16 = .ok (.ireturn, 1) := by decide +kernel
theorem dL_premium_0 : decode cL_premium 0 = .ok (.aload 4, 2) := by decide +kernel
theorem dL_premium_2 : decode cL_premium 2 = .ok (.iconst 0, 1) := by decide +kernel
theorem dL_premium_3 : decode cL_premium 3 = .ok (.aload_n 0, 1) := by decide +kernel
theorem dL_premium_4 : decode cL_premium 4 = .ok (.iload_n 1, 1) := by decide +kernel
theorem dL_premium_5 : decode cL_premium 5 = .ok (.iload_n 2, 1) := by decide +kernel
theorem dL_premium_6 : decode cL_premium 6 = .ok (.iload_n 3, 1) := by decide +kernel
theorem dL_premium_7 : decode cL_premium 7 = .ok (.invokevirtual 80, 3) := by decide +kernel
theorem dL_premium_10 : decode cL_premium 10 = .ok (.i2l, 1) := by decide +kernel
theorem dL_premium_11 : decode cL_premium 11 = .ok (.lastore, 1) := by decide +kernel
theorem dL_premium_12 : decode cL_premium 12 = .ok (.goto 11, 3) := by decide +kernel
theorem dL_premium_15 : decode cL_premium 15 = .ok (.astore 5, 2) := by decide +kernel
theorem dL_premium_17 : decode cL_premium 17 = .ok (.iconst 1, 1) := by decide +kernel
theorem dL_premium_18 : decode cL_premium 18 = .ok (.ireturn, 1) := by decide +kernel
theorem dL_premium_19 : decode cL_premium 19 = .ok (.astore 5, 2) := by decide +kernel
theorem dL_premium_21 : decode cL_premium 21 = .ok (.iconst 2, 1) := by decide +kernel
theorem dL_premium_22 : decode cL_premium 22 = .ok (.ireturn, 1) := by decide +kernel
theorem dL_premium_23 : decode cL_premium 23 = .ok (.iconst 0, 1) := by decide +kernel
theorem dL_premium_24 : decode cL_premium 24 = .ok (.ireturn, 1) := by decide +kernel
theorem dL_cheapest_0 : decode cL_cheapest 0 = .ok (.aload 4, 2) := by decide +kernel
theorem dL_cheapest_2 : decode cL_cheapest 2 = .ok (.iconst 0, 1) := by decide +kernel
theorem dL_cheapest_3 : decode cL_cheapest 3 = .ok (.aload_n 0, 1) := by decide +kernel
theorem dL_cheapest_4 : decode cL_cheapest 4 = .ok (.iload_n 1, 1) := by decide +kernel
theorem dL_cheapest_5 : decode cL_cheapest 5 = .ok (.iload_n 2, 1) := by decide +kernel
theorem dL_cheapest_6 : decode cL_cheapest 6 = .ok (.iload_n 3, 1) := by decide +kernel
theorem dL_cheapest_7 : decode cL_cheapest 7 = .ok (.invokevirtual 83, 3) := by decide +kernel
theorem dL_cheapest_10 : decode cL_cheapest 10 = .ok (.i2l, 1) := by decide +kernel
theorem dL_cheapest_11 : decode cL_cheapest 11 = .ok (.lastore, 1) := by decide +kernel
theorem dL_cheapest_12 : decode cL_cheapest 12 = .ok (.goto 11, 3) := by decide +kernel
theorem dL_cheapest_15 : decode cL_cheapest 15 = .ok (.astore 5, 2) := by decide +kernel
theorem dL_cheapest_17 : decode cL_cheapest 17 = .ok (.iconst 1, 1) := by decide +kernel
theorem dL_cheapest_18 : decode cL_cheapest 18 = .ok (.ireturn, 1) := by decide +kernel
theorem dL_cheapest_19 : decode cL_cheapest 19 = .ok (.astore 5, 2) := by decide +kernel
theorem dL_cheapest_21 : decode cL_cheapest 21 = .ok (.iconst 2, 1) := by decide +kernel
theorem dL_cheapest_22 : decode cL_cheapest 22 = .ok (.ireturn, 1) := by decide +kernel
theorem dL_cheapest_23 : decode cL_cheapest 23 = .ok (.iconst 0, 1) := by decide +kernel
theorem dL_cheapest_24 : decode cL_cheapest 24 = .ok (.ireturn, 1) := by decide +kernel
theorem dL_waitFor_0 : decode cL_waitFor 0 = .ok (.aload 5, 2) := by decide +kernel
theorem dL_waitFor_2 : decode cL_waitFor 2 = .ok (.iconst 0, 1) := by decide +kernel
theorem dL_waitFor_3 : decode cL_waitFor 3 = .ok (.aload_n 0, 1) := by decide +kernel
theorem dL_waitFor_4 : decode cL_waitFor 4 = .ok (.iload_n 1, 1) := by decide +kernel
theorem dL_waitFor_5 : decode cL_waitFor 5 = .ok (.iload_n 2, 1) := by decide +kernel
theorem dL_waitFor_6 : decode cL_waitFor 6 = .ok (.iload_n 3, 1) := by decide +kernel
theorem dL_waitFor_7 : decode cL_waitFor 7 = .ok (.iload 4, 2) := by decide +kernel
theorem dL_waitFor_9 : decode cL_waitFor 9 = .ok (.invokevirtual 86, 3) := by decide +kernel
theorem dL_waitFor_12 : decode cL_waitFor 12 = .ok (.i2l, 1) := by decide +kernel
theorem dL_waitFor_13 : decode cL_waitFor 13 = .ok (.lastore, 1) := by decide +kernel
theorem dL_waitFor_14 : decode cL_waitFor 14 = .ok (.goto 11, 3) := by decide +kernel
theorem dL_waitFor_17 : decode cL_waitFor 17 = .ok (.astore 6, 2) := by decide +kernel
theorem dL_waitFor_19 : decode cL_waitFor 19 = .ok (.iconst 1, 1) := by decide +kernel
theorem dL_waitFor_20 : decode cL_waitFor 20 = .ok (.ireturn, 1) := by decide +kernel
theorem dL_waitFor_21 : decode cL_waitFor 21 = .ok (.astore 6, 2) := by decide +kernel
theorem dL_waitFor_23 : decode cL_waitFor 23 = .ok (.iconst 2, 1) := by decide +kernel
theorem dL_waitFor_24 : decode cL_waitFor 24 = .ok (.ireturn, 1) := by decide +kernel
theorem dL_waitFor_25 : decode cL_waitFor 25 = .ok (.iconst 0, 1) := by decide +kernel
theorem dL_waitFor_26 : decode cL_waitFor 26 = .ok (.ireturn, 1) := by decide +kernel
theorem dL_ifRead_0 : decode cL_ifRead 0 = .ok (.aload_n 3, 1) := by decide +kernel
theorem dL_ifRead_1 : decode cL_ifRead 1 = .ok (.iconst 0, 1) := by decide +kernel
theorem dL_ifRead_2 : decode cL_ifRead 2 = .ok (.aload_n 0, 1) := by decide +kernel
theorem dL_ifRead_3 : decode cL_ifRead 3 = .ok (.iload_n 1, 1) := by decide +kernel
theorem dL_ifRead_4 : decode cL_ifRead 4 = .ok (.iload_n 2, 1) := by decide +kernel
theorem dL_ifRead_5 : decode cL_ifRead 5 = .ok (.invokevirtual 90, 3) := by decide +kernel
theorem dL_ifRead_8 : decode cL_ifRead 8 = .ok (.i2l, 1) := by decide +kernel
theorem dL_ifRead_9 : decode cL_ifRead 9 = .ok (.lastore, 1) := by decide +kernel
theorem dL_ifRead_10 : decode cL_ifRead 10 = .ok (.goto 11, 3) := by decide +kernel
theorem dL_ifRead_13 : decode cL_ifRead 13 = .ok (.astore 4, 2) := by decide +kernel
theorem dL_ifRead_15 : decode cL_ifRead 15 = .ok (.iconst 1, 1) := by decide +kernel
theorem dL_ifRead_16 : decode cL_ifRead 16 = .ok (.ireturn, 1) := by decide +kernel
theorem dL_ifRead_17 : decode cL_ifRead 17 = .ok (.astore 4, 2) := by decide +kernel
theorem dL_ifRead_19 : decode cL_ifRead 19 = .ok (.iconst 2, 1) := by decide +kernel
theorem dL_ifRead_20 : decode cL_ifRead 20 = .ok (.ireturn, 1) := by decide +kernel
theorem dL_ifRead_21 : decode cL_ifRead 21 = .ok (.iconst 0, 1) := by decide +kernel
theorem dL_ifRead_22 : decode cL_ifRead 22 = .ok (.ireturn, 1) := by decide +kernel
theorem dL_savable_0 : decode cL_savable 0 = .ok (.aload_n 2, 1) := by decide +kernel
theorem dL_savable_1 : decode cL_savable 1 = .ok (.iconst 0, 1) := by decide +kernel
theorem dL_savable_2 : decode cL_savable 2 = .ok (.aload_n 0, 1) := by decide +kernel
theorem dL_savable_3 : decode cL_savable 3 = .ok (.iload_n 1, 1) := by decide +kernel
theorem dL_savable_4 : decode cL_savable 4 = .ok (.invokevirtual 93, 3) := by decide +kernel
theorem dL_savable_7 : decode cL_savable 7 = .ok (.i2l, 1) := by decide +kernel
theorem dL_savable_8 : decode cL_savable 8 = .ok (.lastore, 1) := by decide +kernel
theorem dL_savable_9 : decode cL_savable 9 = .ok (.goto 6, 3) := by decide +kernel
theorem dL_savable_12 : decode cL_savable 12 = .ok (.astore_n 3, 1) := by decide +kernel
theorem dL_savable_13 : decode cL_savable 13 = .ok (.iconst 1, 1) := by decide +kernel
theorem dL_savable_14 : decode cL_savable 14 = .ok (.ireturn, 1) := by decide +kernel
theorem dL_savable_15 : decode cL_savable 15 = .ok (.iconst 0, 1) := by decide +kernel
theorem dL_savable_16 : decode cL_savable 16 = .ok (.ireturn, 1) := by decide +kernel
theorem dL_atRisk_0 : decode cL_atRisk 0 = .ok (.aload_n 2, 1) := by decide +kernel
theorem dL_atRisk_1 : decode cL_atRisk 1 = .ok (.iconst 0, 1) := by decide +kernel
theorem dL_atRisk_2 : decode cL_atRisk 2 = .ok (.aload_n 0, 1) := by decide +kernel
theorem dL_atRisk_3 : decode cL_atRisk 3 = .ok (.iload_n 1, 1) := by decide +kernel
theorem dL_atRisk_4 : decode cL_atRisk 4 = .ok (.invokevirtual 96, 3) := by decide +kernel
theorem dL_atRisk_7 : decode cL_atRisk 7 = .ok (.i2l, 1) := by decide +kernel
theorem dL_atRisk_8 : decode cL_atRisk 8 = .ok (.lastore, 1) := by decide +kernel
theorem dL_atRisk_9 : decode cL_atRisk 9 = .ok (.goto 6, 3) := by decide +kernel
theorem dL_atRisk_12 : decode cL_atRisk 12 = .ok (.astore_n 3, 1) := by decide +kernel
theorem dL_atRisk_13 : decode cL_atRisk 13 = .ok (.iconst 1, 1) := by decide +kernel
theorem dL_atRisk_14 : decode cL_atRisk 14 = .ok (.ireturn, 1) := by decide +kernel
theorem dL_atRisk_15 : decode cL_atRisk 15 = .ok (.iconst 0, 1) := by decide +kernel
theorem dL_atRisk_16 : decode cL_atRisk 16 = .ok (.ireturn, 1) := by decide +kernel
theorem dL_law_0 : decode cL_law 0 = .ok (.new 8, 3) := by decide +kernel
theorem dL_law_3 : decode cL_law 3 = .ok (.dup, 1) := by decide +kernel
theorem dL_law_4 : decode cL_law 4 = .ok (.invokespecial 99, 3) := by decide +kernel
theorem dL_law_7 : decode cL_law 7 = .ok (.astore_n 1, 1) := by decide +kernel
theorem dL_law_8 : decode cL_law 8 = .ok (.new 100, 3) := by decide +kernel
theorem dL_law_11 : decode cL_law 11 = .ok (.dup, 1) := by decide +kernel
theorem dL_law_12 : decode cL_law 12 = .ok (.invokespecial 102, 3) := by decide +kernel
theorem dL_law_15 : decode cL_law 15 = .ok (.astore_n 2, 1) := by decide +kernel
theorem dL_law_16 : decode cL_law 16 = .ok (.iconst 1, 1) := by decide +kernel
theorem dL_law_17 : decode cL_law 17 = .ok (.newarray .long, 2) := by decide +kernel
theorem dL_law_19 : decode cL_law 19 = .ok (.astore_n 3, 1) := by decide +kernel
theorem dL_law_20 : decode cL_law 20 = .ok (.iconst 0, 1) := by decide +kernel
theorem dL_law_21 : decode cL_law 21 = .ok (.istore 4, 2) := by decide +kernel
theorem dL_law_23 : decode cL_law 23 = .ok (.iload 4, 2) := by decide +kernel
theorem dL_law_25 : decode cL_law 25 = .ok (.aload_n 0, 1) := by decide +kernel
theorem dL_law_26 : decode cL_law 26 = .ok (.arraylength, 1) := by decide +kernel
theorem dL_law_27 : decode cL_law 27 = .ok (.iconst 5, 1) := by decide +kernel
theorem dL_law_28 : decode cL_law 28 = .ok (.isub, 1) := by decide +kernel
theorem dL_law_29 : decode cL_law 29 = .ok (.if_icmp .gt 1935, 3) := by decide +kernel
theorem dL_law_32 : decode cL_law 32 = .ok (.aload_n 0, 1) := by decide +kernel
theorem dL_law_33 : decode cL_law 33 = .ok (.iload 4, 2) := by decide +kernel
theorem dL_law_35 : decode cL_law 35 = .ok (.iaload, 1) := by decide +kernel
theorem dL_law_36 : decode cL_law 36 = .ok (.bipush 31, 2) := by decide +kernel
theorem dL_law_38 : decode cL_law 38 = .ok (.iand, 1) := by decide +kernel
theorem dL_law_39 : decode cL_law 39 = .ok (.tableswitch 1919 0 30 #[137, 193, 273, 341, 421, 501, 557, 641, 697, 741, 797, 853, 866, 879, 935, 979, 1047, 1115, 1183, 1251, 1307, 1363, 1419, 1499, 1579, 1671, 1739, 1752, 1808, 1864, 1905], 137) := by decide +kernel
theorem dL_law_176 : decode cL_law 176 = .ok (.aload_n 1, 1) := by decide +kernel
theorem dL_law_177 : decode cL_law 177 = .ok (.aload_n 0, 1) := by decide +kernel
theorem dL_law_178 : decode cL_law 178 = .ok (.iload 4, 2) := by decide +kernel
theorem dL_law_180 : decode cL_law 180 = .ok (.iconst 1, 1) := by decide +kernel
theorem dL_law_181 : decode cL_law 181 = .ok (.iadd, 1) := by decide +kernel
theorem dL_law_182 : decode cL_law 182 = .ok (.iaload, 1) := by decide +kernel
theorem dL_law_183 : decode cL_law 183 = .ok (.aload_n 3, 1) := by decide +kernel
theorem dL_law_184 : decode cL_law 184 = .ok (.invokestatic 103, 3) := by decide +kernel
theorem dL_law_187 : decode cL_law 187 = .ok (.istore 5, 2) := by decide +kernel
theorem dL_law_189 : decode cL_law 189 = .ok (.aload_n 2, 1) := by decide +kernel
theorem dL_law_190 : decode cL_law 190 = .ok (.aload_n 0, 1) := by decide +kernel
theorem dL_law_191 : decode cL_law 191 = .ok (.iload 4, 2) := by decide +kernel
theorem dL_law_193 : decode cL_law 193 = .ok (.iconst 1, 1) := by decide +kernel
theorem dL_law_194 : decode cL_law 194 = .ok (.iadd, 1) := by decide +kernel
theorem dL_law_195 : decode cL_law 195 = .ok (.iaload, 1) := by decide +kernel
theorem dL_law_196 : decode cL_law 196 = .ok (.invokevirtual 108, 3) := by decide +kernel
theorem dL_law_199 : decode cL_law 199 = .ok (.istore 6, 2) := by decide +kernel
theorem dL_law_201 : decode cL_law 201 = .ok (.aload_n 2, 1) := by decide +kernel
theorem dL_law_202 : decode cL_law 202 = .ok (.invokevirtual 109, 3) := by decide +kernel
theorem dL_law_205 : decode cL_law 205 = .ok (.iload 5, 2) := by decide +kernel
theorem dL_law_207 : decode cL_law 207 = .ok (.if_icmp .eq 5, 3) := by decide +kernel
theorem dL_law_210 : decode cL_law 210 = .ok (.iconst 0, 1) := by decide +kernel
theorem dL_law_211 : decode cL_law 211 = .ok (.ireturn, 1) := by decide +kernel
theorem dL_law_212 : decode cL_law 212 = .ok (.iload 5, 2) := by decide +kernel
theorem dL_law_214 : decode cL_law 214 = .ok (.ifCond .ne 15, 3) := by decide +kernel
theorem dL_law_217 : decode cL_law 217 = .ok (.aload_n 3, 1) := by decide +kernel
theorem dL_law_218 : decode cL_law 218 = .ok (.iconst 0, 1) := by decide +kernel
theorem dL_law_219 : decode cL_law 219 = .ok (.laload, 1) := by decide +kernel
theorem dL_law_220 : decode cL_law 220 = .ok (.iload 6, 2) := by decide +kernel
theorem dL_law_222 : decode cL_law 222 = .ok (.i2l, 1) := by decide +kernel
theorem dL_law_223 : decode cL_law 223 = .ok (.lcmp, 1) := by decide +kernel
theorem dL_law_224 : decode cL_law 224 = .ok (.ifCond .eq 5, 3) := by decide +kernel
theorem dL_law_227 : decode cL_law 227 = .ok (.iconst 0, 1) := by decide +kernel
theorem dL_law_228 : decode cL_law 228 = .ok (.ireturn, 1) := by decide +kernel
theorem dL_law_229 : decode cL_law 229 = .ok (.goto 1729, 3) := by decide +kernel
theorem dL_law_232 : decode cL_law 232 = .ok (.aload_n 1, 1) := by decide +kernel
theorem dL_law_233 : decode cL_law 233 = .ok (.aload_n 0, 1) := by decide +kernel
theorem dL_law_234 : decode cL_law 234 = .ok (.iload 4, 2) := by decide +kernel
theorem dL_law_236 : decode cL_law 236 = .ok (.iconst 1, 1) := by decide +kernel
theorem dL_law_237 : decode cL_law 237 = .ok (.iadd, 1) := by decide +kernel
theorem dL_law_238 : decode cL_law 238 = .ok (.iaload, 1) := by decide +kernel
theorem dL_law_239 : decode cL_law 239 = .ok (.aload_n 0, 1) := by decide +kernel
theorem dL_law_240 : decode cL_law 240 = .ok (.iload 4, 2) := by decide +kernel
theorem dL_law_242 : decode cL_law 242 = .ok (.iconst 2, 1) := by decide +kernel
theorem dL_law_243 : decode cL_law 243 = .ok (.iadd, 1) := by decide +kernel
theorem dL_law_244 : decode cL_law 244 = .ok (.iaload, 1) := by decide +kernel
theorem dL_law_245 : decode cL_law 245 = .ok (.aload_n 0, 1) := by decide +kernel
theorem dL_law_246 : decode cL_law 246 = .ok (.iload 4, 2) := by decide +kernel
theorem dL_law_248 : decode cL_law 248 = .ok (.iconst 3, 1) := by decide +kernel
theorem dL_law_249 : decode cL_law 249 = .ok (.iadd, 1) := by decide +kernel
theorem dL_law_250 : decode cL_law 250 = .ok (.iaload, 1) := by decide +kernel
theorem dL_law_251 : decode cL_law 251 = .ok (.aload_n 3, 1) := by decide +kernel
theorem dL_law_252 : decode cL_law 252 = .ok (.invokestatic 112, 3) := by decide +kernel
theorem dL_law_255 : decode cL_law 255 = .ok (.istore 5, 2) := by decide +kernel
theorem dL_law_257 : decode cL_law 257 = .ok (.aload_n 2, 1) := by decide +kernel
theorem dL_law_258 : decode cL_law 258 = .ok (.aload_n 0, 1) := by decide +kernel
theorem dL_law_259 : decode cL_law 259 = .ok (.iload 4, 2) := by decide +kernel
theorem dL_law_261 : decode cL_law 261 = .ok (.iconst 1, 1) := by decide +kernel
theorem dL_law_262 : decode cL_law 262 = .ok (.iadd, 1) := by decide +kernel
theorem dL_law_263 : decode cL_law 263 = .ok (.iaload, 1) := by decide +kernel
theorem dL_law_264 : decode cL_law 264 = .ok (.aload_n 0, 1) := by decide +kernel
theorem dL_law_265 : decode cL_law 265 = .ok (.iload 4, 2) := by decide +kernel
theorem dL_law_267 : decode cL_law 267 = .ok (.iconst 2, 1) := by decide +kernel
theorem dL_law_268 : decode cL_law 268 = .ok (.iadd, 1) := by decide +kernel
theorem dL_law_269 : decode cL_law 269 = .ok (.iaload, 1) := by decide +kernel
theorem dL_law_270 : decode cL_law 270 = .ok (.aload_n 0, 1) := by decide +kernel
theorem dL_law_271 : decode cL_law 271 = .ok (.iload 4, 2) := by decide +kernel
theorem dL_law_273 : decode cL_law 273 = .ok (.iconst 3, 1) := by decide +kernel
theorem dL_law_274 : decode cL_law 274 = .ok (.iadd, 1) := by decide +kernel
theorem dL_law_275 : decode cL_law 275 = .ok (.iaload, 1) := by decide +kernel
theorem dL_law_276 : decode cL_law 276 = .ok (.invokevirtual 115, 3) := by decide +kernel
theorem dL_law_279 : decode cL_law 279 = .ok (.istore 6, 2) := by decide +kernel
theorem dL_law_281 : decode cL_law 281 = .ok (.aload_n 2, 1) := by decide +kernel
theorem dL_law_282 : decode cL_law 282 = .ok (.invokevirtual 109, 3) := by decide +kernel
theorem dL_law_285 : decode cL_law 285 = .ok (.iload 5, 2) := by decide +kernel
theorem dL_law_287 : decode cL_law 287 = .ok (.if_icmp .eq 5, 3) := by decide +kernel
theorem dL_law_290 : decode cL_law 290 = .ok (.iconst 0, 1) := by decide +kernel
theorem dL_law_291 : decode cL_law 291 = .ok (.ireturn, 1) := by decide +kernel
theorem dL_law_292 : decode cL_law 292 = .ok (.iload 5, 2) := by decide +kernel
theorem dL_law_294 : decode cL_law 294 = .ok (.ifCond .ne 15, 3) := by decide +kernel
theorem dL_law_297 : decode cL_law 297 = .ok (.aload_n 3, 1) := by decide +kernel
theorem dL_law_298 : decode cL_law 298 = .ok (.iconst 0, 1) := by decide +kernel
theorem dL_law_299 : decode cL_law 299 = .ok (.laload, 1) := by decide +kernel
theorem dL_law_300 : decode cL_law 300 = .ok (.iload 6, 2) := by decide +kernel
theorem dL_law_302 : decode cL_law 302 = .ok (.i2l, 1) := by decide +kernel
theorem dL_law_303 : decode cL_law 303 = .ok (.lcmp, 1) := by decide +kernel
theorem dL_law_304 : decode cL_law 304 = .ok (.ifCond .eq 5, 3) := by decide +kernel
theorem dL_law_307 : decode cL_law 307 = .ok (.iconst 0, 1) := by decide +kernel
theorem dL_law_308 : decode cL_law 308 = .ok (.ireturn, 1) := by decide +kernel
theorem dL_law_309 : decode cL_law 309 = .ok (.goto 1649, 3) := by decide +kernel
theorem dL_law_312 : decode cL_law 312 = .ok (.aload_n 1, 1) := by decide +kernel
theorem dL_law_313 : decode cL_law 313 = .ok (.aload_n 0, 1) := by decide +kernel
theorem dL_law_314 : decode cL_law 314 = .ok (.iload 4, 2) := by decide +kernel
theorem dL_law_316 : decode cL_law 316 = .ok (.iconst 1, 1) := by decide +kernel
theorem dL_law_317 : decode cL_law 317 = .ok (.iadd, 1) := by decide +kernel
theorem dL_law_318 : decode cL_law 318 = .ok (.iaload, 1) := by decide +kernel
theorem dL_law_319 : decode cL_law 319 = .ok (.aload_n 0, 1) := by decide +kernel
theorem dL_law_320 : decode cL_law 320 = .ok (.iload 4, 2) := by decide +kernel
theorem dL_law_322 : decode cL_law 322 = .ok (.iconst 2, 1) := by decide +kernel
theorem dL_law_323 : decode cL_law 323 = .ok (.iadd, 1) := by decide +kernel
theorem dL_law_324 : decode cL_law 324 = .ok (.iaload, 1) := by decide +kernel
theorem dL_law_325 : decode cL_law 325 = .ok (.aload_n 3, 1) := by decide +kernel
theorem dL_law_326 : decode cL_law 326 = .ok (.invokestatic 116, 3) := by decide +kernel
theorem dL_law_329 : decode cL_law 329 = .ok (.istore 5, 2) := by decide +kernel
theorem dL_law_331 : decode cL_law 331 = .ok (.aload_n 2, 1) := by decide +kernel
theorem dL_law_332 : decode cL_law 332 = .ok (.aload_n 0, 1) := by decide +kernel
theorem dL_law_333 : decode cL_law 333 = .ok (.iload 4, 2) := by decide +kernel
theorem dL_law_335 : decode cL_law 335 = .ok (.iconst 1, 1) := by decide +kernel
theorem dL_law_336 : decode cL_law 336 = .ok (.iadd, 1) := by decide +kernel
theorem dL_law_337 : decode cL_law 337 = .ok (.iaload, 1) := by decide +kernel
theorem dL_law_338 : decode cL_law 338 = .ok (.aload_n 0, 1) := by decide +kernel
theorem dL_law_339 : decode cL_law 339 = .ok (.iload 4, 2) := by decide +kernel
theorem dL_law_341 : decode cL_law 341 = .ok (.iconst 2, 1) := by decide +kernel
theorem dL_law_342 : decode cL_law 342 = .ok (.iadd, 1) := by decide +kernel
theorem dL_law_343 : decode cL_law 343 = .ok (.iaload, 1) := by decide +kernel
theorem dL_law_344 : decode cL_law 344 = .ok (.invokevirtual 119, 3) := by decide +kernel
theorem dL_law_347 : decode cL_law 347 = .ok (.istore 6, 2) := by decide +kernel
theorem dL_law_349 : decode cL_law 349 = .ok (.aload_n 2, 1) := by decide +kernel
theorem dL_law_350 : decode cL_law 350 = .ok (.invokevirtual 109, 3) := by decide +kernel
theorem dL_law_353 : decode cL_law 353 = .ok (.iload 5, 2) := by decide +kernel
theorem dL_law_355 : decode cL_law 355 = .ok (.if_icmp .eq 5, 3) := by decide +kernel
theorem dL_law_358 : decode cL_law 358 = .ok (.iconst 0, 1) := by decide +kernel
theorem dL_law_359 : decode cL_law 359 = .ok (.ireturn, 1) := by decide +kernel
theorem dL_law_360 : decode cL_law 360 = .ok (.iload 5, 2) := by decide +kernel
theorem dL_law_362 : decode cL_law 362 = .ok (.ifCond .ne 15, 3) := by decide +kernel
theorem dL_law_365 : decode cL_law 365 = .ok (.aload_n 3, 1) := by decide +kernel
theorem dL_law_366 : decode cL_law 366 = .ok (.iconst 0, 1) := by decide +kernel
theorem dL_law_367 : decode cL_law 367 = .ok (.laload, 1) := by decide +kernel
theorem dL_law_368 : decode cL_law 368 = .ok (.iload 6, 2) := by decide +kernel
theorem dL_law_370 : decode cL_law 370 = .ok (.i2l, 1) := by decide +kernel
theorem dL_law_371 : decode cL_law 371 = .ok (.lcmp, 1) := by decide +kernel
theorem dL_law_372 : decode cL_law 372 = .ok (.ifCond .eq 5, 3) := by decide +kernel
theorem dL_law_375 : decode cL_law 375 = .ok (.iconst 0, 1) := by decide +kernel
theorem dL_law_376 : decode cL_law 376 = .ok (.ireturn, 1) := by decide +kernel
theorem dL_law_377 : decode cL_law 377 = .ok (.goto 1581, 3) := by decide +kernel
theorem dL_law_380 : decode cL_law 380 = .ok (.aload_n 1, 1) := by decide +kernel
theorem dL_law_381 : decode cL_law 381 = .ok (.aload_n 0, 1) := by decide +kernel
theorem dL_law_382 : decode cL_law 382 = .ok (.iload 4, 2) := by decide +kernel
theorem dL_law_384 : decode cL_law 384 = .ok (.iconst 1, 1) := by decide +kernel
theorem dL_law_385 : decode cL_law 385 = .ok (.iadd, 1) := by decide +kernel
theorem dL_law_386 : decode cL_law 386 = .ok (.iaload, 1) := by decide +kernel
theorem dL_law_387 : decode cL_law 387 = .ok (.aload_n 0, 1) := by decide +kernel
theorem dL_law_388 : decode cL_law 388 = .ok (.iload 4, 2) := by decide +kernel
theorem dL_law_390 : decode cL_law 390 = .ok (.iconst 2, 1) := by decide +kernel
theorem dL_law_391 : decode cL_law 391 = .ok (.iadd, 1) := by decide +kernel
theorem dL_law_392 : decode cL_law 392 = .ok (.iaload, 1) := by decide +kernel
theorem dL_law_393 : decode cL_law 393 = .ok (.aload_n 0, 1) := by decide +kernel
theorem dL_law_394 : decode cL_law 394 = .ok (.iload 4, 2) := by decide +kernel
theorem dL_law_396 : decode cL_law 396 = .ok (.iconst 3, 1) := by decide +kernel
theorem dL_law_397 : decode cL_law 397 = .ok (.iadd, 1) := by decide +kernel
theorem dL_law_398 : decode cL_law 398 = .ok (.iaload, 1) := by decide +kernel
theorem dL_law_399 : decode cL_law 399 = .ok (.aload_n 3, 1) := by decide +kernel
theorem dL_law_400 : decode cL_law 400 = .ok (.invokestatic 120, 3) := by decide +kernel
theorem dL_law_403 : decode cL_law 403 = .ok (.istore 5, 2) := by decide +kernel
theorem dL_law_405 : decode cL_law 405 = .ok (.aload_n 2, 1) := by decide +kernel
theorem dL_law_406 : decode cL_law 406 = .ok (.aload_n 0, 1) := by decide +kernel
theorem dL_law_407 : decode cL_law 407 = .ok (.iload 4, 2) := by decide +kernel
theorem dL_law_409 : decode cL_law 409 = .ok (.iconst 1, 1) := by decide +kernel
theorem dL_law_410 : decode cL_law 410 = .ok (.iadd, 1) := by decide +kernel
theorem dL_law_411 : decode cL_law 411 = .ok (.iaload, 1) := by decide +kernel
theorem dL_law_412 : decode cL_law 412 = .ok (.aload_n 0, 1) := by decide +kernel
theorem dL_law_413 : decode cL_law 413 = .ok (.iload 4, 2) := by decide +kernel
theorem dL_law_415 : decode cL_law 415 = .ok (.iconst 2, 1) := by decide +kernel
theorem dL_law_416 : decode cL_law 416 = .ok (.iadd, 1) := by decide +kernel
theorem dL_law_417 : decode cL_law 417 = .ok (.iaload, 1) := by decide +kernel
theorem dL_law_418 : decode cL_law 418 = .ok (.aload_n 0, 1) := by decide +kernel
theorem dL_law_419 : decode cL_law 419 = .ok (.iload 4, 2) := by decide +kernel
theorem dL_law_421 : decode cL_law 421 = .ok (.iconst 3, 1) := by decide +kernel
theorem dL_law_422 : decode cL_law 422 = .ok (.iadd, 1) := by decide +kernel
theorem dL_law_423 : decode cL_law 423 = .ok (.iaload, 1) := by decide +kernel
theorem dL_law_424 : decode cL_law 424 = .ok (.invokevirtual 122, 3) := by decide +kernel
theorem dL_law_427 : decode cL_law 427 = .ok (.istore 6, 2) := by decide +kernel
theorem dL_law_429 : decode cL_law 429 = .ok (.aload_n 2, 1) := by decide +kernel
theorem dL_law_430 : decode cL_law 430 = .ok (.invokevirtual 109, 3) := by decide +kernel
theorem dL_law_433 : decode cL_law 433 = .ok (.iload 5, 2) := by decide +kernel
theorem dL_law_435 : decode cL_law 435 = .ok (.if_icmp .eq 5, 3) := by decide +kernel
theorem dL_law_438 : decode cL_law 438 = .ok (.iconst 0, 1) := by decide +kernel
theorem dL_law_439 : decode cL_law 439 = .ok (.ireturn, 1) := by decide +kernel
theorem dL_law_440 : decode cL_law 440 = .ok (.iload 5, 2) := by decide +kernel
theorem dL_law_442 : decode cL_law 442 = .ok (.ifCond .ne 15, 3) := by decide +kernel
theorem dL_law_445 : decode cL_law 445 = .ok (.aload_n 3, 1) := by decide +kernel
theorem dL_law_446 : decode cL_law 446 = .ok (.iconst 0, 1) := by decide +kernel
theorem dL_law_447 : decode cL_law 447 = .ok (.laload, 1) := by decide +kernel
theorem dL_law_448 : decode cL_law 448 = .ok (.iload 6, 2) := by decide +kernel
theorem dL_law_450 : decode cL_law 450 = .ok (.i2l, 1) := by decide +kernel
theorem dL_law_451 : decode cL_law 451 = .ok (.lcmp, 1) := by decide +kernel
theorem dL_law_452 : decode cL_law 452 = .ok (.ifCond .eq 5, 3) := by decide +kernel
theorem dL_law_455 : decode cL_law 455 = .ok (.iconst 0, 1) := by decide +kernel
theorem dL_law_456 : decode cL_law 456 = .ok (.ireturn, 1) := by decide +kernel
theorem dL_law_457 : decode cL_law 457 = .ok (.goto 1501, 3) := by decide +kernel
theorem dL_law_460 : decode cL_law 460 = .ok (.aload_n 1, 1) := by decide +kernel
theorem dL_law_461 : decode cL_law 461 = .ok (.aload_n 0, 1) := by decide +kernel
theorem dL_law_462 : decode cL_law 462 = .ok (.iload 4, 2) := by decide +kernel
theorem dL_law_464 : decode cL_law 464 = .ok (.iconst 1, 1) := by decide +kernel
theorem dL_law_465 : decode cL_law 465 = .ok (.iadd, 1) := by decide +kernel
theorem dL_law_466 : decode cL_law 466 = .ok (.iaload, 1) := by decide +kernel
theorem dL_law_467 : decode cL_law 467 = .ok (.aload_n 0, 1) := by decide +kernel
theorem dL_law_468 : decode cL_law 468 = .ok (.iload 4, 2) := by decide +kernel
theorem dL_law_470 : decode cL_law 470 = .ok (.iconst 2, 1) := by decide +kernel
theorem dL_law_471 : decode cL_law 471 = .ok (.iadd, 1) := by decide +kernel
theorem dL_law_472 : decode cL_law 472 = .ok (.iaload, 1) := by decide +kernel
theorem dL_law_473 : decode cL_law 473 = .ok (.aload_n 0, 1) := by decide +kernel
theorem dL_law_474 : decode cL_law 474 = .ok (.iload 4, 2) := by decide +kernel
theorem dL_law_476 : decode cL_law 476 = .ok (.iconst 3, 1) := by decide +kernel
theorem dL_law_477 : decode cL_law 477 = .ok (.iadd, 1) := by decide +kernel
theorem dL_law_478 : decode cL_law 478 = .ok (.iaload, 1) := by decide +kernel
theorem dL_law_479 : decode cL_law 479 = .ok (.aload_n 3, 1) := by decide +kernel
theorem dL_law_480 : decode cL_law 480 = .ok (.invokestatic 123, 3) := by decide +kernel
theorem dL_law_483 : decode cL_law 483 = .ok (.istore 5, 2) := by decide +kernel
theorem dL_law_485 : decode cL_law 485 = .ok (.aload_n 2, 1) := by decide +kernel
theorem dL_law_486 : decode cL_law 486 = .ok (.aload_n 0, 1) := by decide +kernel
theorem dL_law_487 : decode cL_law 487 = .ok (.iload 4, 2) := by decide +kernel
theorem dL_law_489 : decode cL_law 489 = .ok (.iconst 1, 1) := by decide +kernel
theorem dL_law_490 : decode cL_law 490 = .ok (.iadd, 1) := by decide +kernel
theorem dL_law_491 : decode cL_law 491 = .ok (.iaload, 1) := by decide +kernel
theorem dL_law_492 : decode cL_law 492 = .ok (.aload_n 0, 1) := by decide +kernel
theorem dL_law_493 : decode cL_law 493 = .ok (.iload 4, 2) := by decide +kernel
theorem dL_law_495 : decode cL_law 495 = .ok (.iconst 2, 1) := by decide +kernel
theorem dL_law_496 : decode cL_law 496 = .ok (.iadd, 1) := by decide +kernel
theorem dL_law_497 : decode cL_law 497 = .ok (.iaload, 1) := by decide +kernel
theorem dL_law_498 : decode cL_law 498 = .ok (.aload_n 0, 1) := by decide +kernel
theorem dL_law_499 : decode cL_law 499 = .ok (.iload 4, 2) := by decide +kernel
theorem dL_law_501 : decode cL_law 501 = .ok (.iconst 3, 1) := by decide +kernel
theorem dL_law_502 : decode cL_law 502 = .ok (.iadd, 1) := by decide +kernel
theorem dL_law_503 : decode cL_law 503 = .ok (.iaload, 1) := by decide +kernel
theorem dL_law_504 : decode cL_law 504 = .ok (.invokevirtual 125, 3) := by decide +kernel
theorem dL_law_507 : decode cL_law 507 = .ok (.istore 6, 2) := by decide +kernel
theorem dL_law_509 : decode cL_law 509 = .ok (.aload_n 2, 1) := by decide +kernel
theorem dL_law_510 : decode cL_law 510 = .ok (.invokevirtual 109, 3) := by decide +kernel
theorem dL_law_513 : decode cL_law 513 = .ok (.iload 5, 2) := by decide +kernel
theorem dL_law_515 : decode cL_law 515 = .ok (.if_icmp .eq 5, 3) := by decide +kernel
theorem dL_law_518 : decode cL_law 518 = .ok (.iconst 0, 1) := by decide +kernel
theorem dL_law_519 : decode cL_law 519 = .ok (.ireturn, 1) := by decide +kernel
theorem dL_law_520 : decode cL_law 520 = .ok (.iload 5, 2) := by decide +kernel
theorem dL_law_522 : decode cL_law 522 = .ok (.ifCond .ne 15, 3) := by decide +kernel
theorem dL_law_525 : decode cL_law 525 = .ok (.aload_n 3, 1) := by decide +kernel
theorem dL_law_526 : decode cL_law 526 = .ok (.iconst 0, 1) := by decide +kernel
theorem dL_law_527 : decode cL_law 527 = .ok (.laload, 1) := by decide +kernel
theorem dL_law_528 : decode cL_law 528 = .ok (.iload 6, 2) := by decide +kernel
theorem dL_law_530 : decode cL_law 530 = .ok (.i2l, 1) := by decide +kernel
theorem dL_law_531 : decode cL_law 531 = .ok (.lcmp, 1) := by decide +kernel
theorem dL_law_532 : decode cL_law 532 = .ok (.ifCond .eq 5, 3) := by decide +kernel
theorem dL_law_535 : decode cL_law 535 = .ok (.iconst 0, 1) := by decide +kernel
theorem dL_law_536 : decode cL_law 536 = .ok (.ireturn, 1) := by decide +kernel
theorem dL_law_537 : decode cL_law 537 = .ok (.goto 1421, 3) := by decide +kernel
theorem dL_law_540 : decode cL_law 540 = .ok (.aload_n 1, 1) := by decide +kernel
theorem dL_law_541 : decode cL_law 541 = .ok (.aload_n 0, 1) := by decide +kernel
theorem dL_law_542 : decode cL_law 542 = .ok (.iload 4, 2) := by decide +kernel
theorem dL_law_544 : decode cL_law 544 = .ok (.iconst 1, 1) := by decide +kernel
theorem dL_law_545 : decode cL_law 545 = .ok (.iadd, 1) := by decide +kernel
theorem dL_law_546 : decode cL_law 546 = .ok (.iaload, 1) := by decide +kernel
theorem dL_law_547 : decode cL_law 547 = .ok (.aload_n 3, 1) := by decide +kernel
theorem dL_law_548 : decode cL_law 548 = .ok (.invokestatic 126, 3) := by decide +kernel
theorem dL_law_551 : decode cL_law 551 = .ok (.istore 5, 2) := by decide +kernel
theorem dL_law_553 : decode cL_law 553 = .ok (.aload_n 2, 1) := by decide +kernel
theorem dL_law_554 : decode cL_law 554 = .ok (.aload_n 0, 1) := by decide +kernel
theorem dL_law_555 : decode cL_law 555 = .ok (.iload 4, 2) := by decide +kernel
theorem dL_law_557 : decode cL_law 557 = .ok (.iconst 1, 1) := by decide +kernel
theorem dL_law_558 : decode cL_law 558 = .ok (.iadd, 1) := by decide +kernel
theorem dL_law_559 : decode cL_law 559 = .ok (.iaload, 1) := by decide +kernel
theorem dL_law_560 : decode cL_law 560 = .ok (.invokevirtual 128, 3) := by decide +kernel
theorem dL_law_563 : decode cL_law 563 = .ok (.istore 6, 2) := by decide +kernel
theorem dL_law_565 : decode cL_law 565 = .ok (.aload_n 2, 1) := by decide +kernel
theorem dL_law_566 : decode cL_law 566 = .ok (.invokevirtual 109, 3) := by decide +kernel
theorem dL_law_569 : decode cL_law 569 = .ok (.iload 5, 2) := by decide +kernel
theorem dL_law_571 : decode cL_law 571 = .ok (.if_icmp .eq 5, 3) := by decide +kernel
theorem dL_law_574 : decode cL_law 574 = .ok (.iconst 0, 1) := by decide +kernel
theorem dL_law_575 : decode cL_law 575 = .ok (.ireturn, 1) := by decide +kernel
theorem dL_law_576 : decode cL_law 576 = .ok (.iload 5, 2) := by decide +kernel
theorem dL_law_578 : decode cL_law 578 = .ok (.ifCond .ne 15, 3) := by decide +kernel
theorem dL_law_581 : decode cL_law 581 = .ok (.aload_n 3, 1) := by decide +kernel
theorem dL_law_582 : decode cL_law 582 = .ok (.iconst 0, 1) := by decide +kernel
theorem dL_law_583 : decode cL_law 583 = .ok (.laload, 1) := by decide +kernel
theorem dL_law_584 : decode cL_law 584 = .ok (.iload 6, 2) := by decide +kernel
theorem dL_law_586 : decode cL_law 586 = .ok (.i2l, 1) := by decide +kernel
theorem dL_law_587 : decode cL_law 587 = .ok (.lcmp, 1) := by decide +kernel
theorem dL_law_588 : decode cL_law 588 = .ok (.ifCond .eq 5, 3) := by decide +kernel
theorem dL_law_591 : decode cL_law 591 = .ok (.iconst 0, 1) := by decide +kernel
theorem dL_law_592 : decode cL_law 592 = .ok (.ireturn, 1) := by decide +kernel
theorem dL_law_593 : decode cL_law 593 = .ok (.goto 1365, 3) := by decide +kernel
theorem dL_law_596 : decode cL_law 596 = .ok (.aload_n 1, 1) := by decide +kernel
theorem dL_law_597 : decode cL_law 597 = .ok (.aload_n 0, 1) := by decide +kernel
theorem dL_law_598 : decode cL_law 598 = .ok (.iload 4, 2) := by decide +kernel
theorem dL_law_600 : decode cL_law 600 = .ok (.iconst 1, 1) := by decide +kernel
theorem dL_law_601 : decode cL_law 601 = .ok (.iadd, 1) := by decide +kernel
theorem dL_law_602 : decode cL_law 602 = .ok (.iaload, 1) := by decide +kernel
theorem dL_law_603 : decode cL_law 603 = .ok (.aload_n 0, 1) := by decide +kernel
theorem dL_law_604 : decode cL_law 604 = .ok (.iload 4, 2) := by decide +kernel
theorem dL_law_606 : decode cL_law 606 = .ok (.iconst 2, 1) := by decide +kernel
theorem dL_law_607 : decode cL_law 607 = .ok (.iadd, 1) := by decide +kernel
theorem dL_law_608 : decode cL_law 608 = .ok (.iaload, 1) := by decide +kernel
theorem dL_law_609 : decode cL_law 609 = .ok (.ifCond .eq 7, 3) := by decide +kernel
theorem dL_law_612 : decode cL_law 612 = .ok (.iconst 1, 1) := by decide +kernel
theorem dL_law_613 : decode cL_law 613 = .ok (.goto 4, 3) := by decide +kernel
theorem dL_law_616 : decode cL_law 616 = .ok (.iconst 0, 1) := by decide +kernel
theorem dL_law_617 : decode cL_law 617 = .ok (.aload_n 3, 1) := by decide +kernel
theorem dL_law_618 : decode cL_law 618 = .ok (.invokestatic 129, 3) := by decide +kernel
theorem dL_law_621 : decode cL_law 621 = .ok (.istore 5, 2) := by decide +kernel
theorem dL_law_623 : decode cL_law 623 = .ok (.aload_n 2, 1) := by decide +kernel
theorem dL_law_624 : decode cL_law 624 = .ok (.aload_n 0, 1) := by decide +kernel
theorem dL_law_625 : decode cL_law 625 = .ok (.iload 4, 2) := by decide +kernel
theorem dL_law_627 : decode cL_law 627 = .ok (.iconst 1, 1) := by decide +kernel
theorem dL_law_628 : decode cL_law 628 = .ok (.iadd, 1) := by decide +kernel
theorem dL_law_629 : decode cL_law 629 = .ok (.iaload, 1) := by decide +kernel
theorem dL_law_630 : decode cL_law 630 = .ok (.aload_n 0, 1) := by decide +kernel
theorem dL_law_631 : decode cL_law 631 = .ok (.iload 4, 2) := by decide +kernel
theorem dL_law_633 : decode cL_law 633 = .ok (.iconst 2, 1) := by decide +kernel
theorem dL_law_634 : decode cL_law 634 = .ok (.iadd, 1) := by decide +kernel
theorem dL_law_635 : decode cL_law 635 = .ok (.iaload, 1) := by decide +kernel
theorem dL_law_636 : decode cL_law 636 = .ok (.ifCond .eq 7, 3) := by decide +kernel
theorem dL_law_639 : decode cL_law 639 = .ok (.iconst 1, 1) := by decide +kernel
theorem dL_law_640 : decode cL_law 640 = .ok (.goto 4, 3) := by decide +kernel
theorem dL_law_643 : decode cL_law 643 = .ok (.iconst 0, 1) := by decide +kernel
theorem dL_law_644 : decode cL_law 644 = .ok (.invokevirtual 132, 3) := by decide +kernel
theorem dL_law_647 : decode cL_law 647 = .ok (.istore 6, 2) := by decide +kernel
theorem dL_law_649 : decode cL_law 649 = .ok (.aload_n 2, 1) := by decide +kernel
theorem dL_law_650 : decode cL_law 650 = .ok (.invokevirtual 109, 3) := by decide +kernel
theorem dL_law_653 : decode cL_law 653 = .ok (.iload 5, 2) := by decide +kernel
theorem dL_law_655 : decode cL_law 655 = .ok (.if_icmp .eq 5, 3) := by decide +kernel
theorem dL_law_658 : decode cL_law 658 = .ok (.iconst 0, 1) := by decide +kernel
theorem dL_law_659 : decode cL_law 659 = .ok (.ireturn, 1) := by decide +kernel
theorem dL_law_660 : decode cL_law 660 = .ok (.iload 5, 2) := by decide +kernel
theorem dL_law_662 : decode cL_law 662 = .ok (.ifCond .ne 15, 3) := by decide +kernel
theorem dL_law_665 : decode cL_law 665 = .ok (.aload_n 3, 1) := by decide +kernel
theorem dL_law_666 : decode cL_law 666 = .ok (.iconst 0, 1) := by decide +kernel
theorem dL_law_667 : decode cL_law 667 = .ok (.laload, 1) := by decide +kernel
theorem dL_law_668 : decode cL_law 668 = .ok (.iload 6, 2) := by decide +kernel
theorem dL_law_670 : decode cL_law 670 = .ok (.i2l, 1) := by decide +kernel
theorem dL_law_671 : decode cL_law 671 = .ok (.lcmp, 1) := by decide +kernel
theorem dL_law_672 : decode cL_law 672 = .ok (.ifCond .eq 5, 3) := by decide +kernel
theorem dL_law_675 : decode cL_law 675 = .ok (.iconst 0, 1) := by decide +kernel
theorem dL_law_676 : decode cL_law 676 = .ok (.ireturn, 1) := by decide +kernel
theorem dL_law_677 : decode cL_law 677 = .ok (.goto 1281, 3) := by decide +kernel
theorem dL_law_680 : decode cL_law 680 = .ok (.aload_n 1, 1) := by decide +kernel
theorem dL_law_681 : decode cL_law 681 = .ok (.aload_n 0, 1) := by decide +kernel
theorem dL_law_682 : decode cL_law 682 = .ok (.iload 4, 2) := by decide +kernel
theorem dL_law_684 : decode cL_law 684 = .ok (.iconst 1, 1) := by decide +kernel
theorem dL_law_685 : decode cL_law 685 = .ok (.iadd, 1) := by decide +kernel
theorem dL_law_686 : decode cL_law 686 = .ok (.iaload, 1) := by decide +kernel
theorem dL_law_687 : decode cL_law 687 = .ok (.aload_n 3, 1) := by decide +kernel
theorem dL_law_688 : decode cL_law 688 = .ok (.invokestatic 133, 3) := by decide +kernel
theorem dL_law_691 : decode cL_law 691 = .ok (.istore 5, 2) := by decide +kernel
theorem dL_law_693 : decode cL_law 693 = .ok (.aload_n 2, 1) := by decide +kernel
theorem dL_law_694 : decode cL_law 694 = .ok (.aload_n 0, 1) := by decide +kernel
theorem dL_law_695 : decode cL_law 695 = .ok (.iload 4, 2) := by decide +kernel
theorem dL_law_697 : decode cL_law 697 = .ok (.iconst 1, 1) := by decide +kernel
theorem dL_law_698 : decode cL_law 698 = .ok (.iadd, 1) := by decide +kernel
theorem dL_law_699 : decode cL_law 699 = .ok (.iaload, 1) := by decide +kernel
theorem dL_law_700 : decode cL_law 700 = .ok (.invokevirtual 135, 3) := by decide +kernel
theorem dL_law_703 : decode cL_law 703 = .ok (.istore 6, 2) := by decide +kernel
theorem dL_law_705 : decode cL_law 705 = .ok (.aload_n 2, 1) := by decide +kernel
theorem dL_law_706 : decode cL_law 706 = .ok (.invokevirtual 109, 3) := by decide +kernel
theorem dL_law_709 : decode cL_law 709 = .ok (.iload 5, 2) := by decide +kernel
theorem dL_law_711 : decode cL_law 711 = .ok (.if_icmp .eq 5, 3) := by decide +kernel
theorem dL_law_714 : decode cL_law 714 = .ok (.iconst 0, 1) := by decide +kernel
theorem dL_law_715 : decode cL_law 715 = .ok (.ireturn, 1) := by decide +kernel
theorem dL_law_716 : decode cL_law 716 = .ok (.iload 5, 2) := by decide +kernel
theorem dL_law_718 : decode cL_law 718 = .ok (.ifCond .ne 15, 3) := by decide +kernel
theorem dL_law_721 : decode cL_law 721 = .ok (.aload_n 3, 1) := by decide +kernel
theorem dL_law_722 : decode cL_law 722 = .ok (.iconst 0, 1) := by decide +kernel
theorem dL_law_723 : decode cL_law 723 = .ok (.laload, 1) := by decide +kernel
theorem dL_law_724 : decode cL_law 724 = .ok (.iload 6, 2) := by decide +kernel
theorem dL_law_726 : decode cL_law 726 = .ok (.i2l, 1) := by decide +kernel
theorem dL_law_727 : decode cL_law 727 = .ok (.lcmp, 1) := by decide +kernel
theorem dL_law_728 : decode cL_law 728 = .ok (.ifCond .eq 5, 3) := by decide +kernel
theorem dL_law_731 : decode cL_law 731 = .ok (.iconst 0, 1) := by decide +kernel
theorem dL_law_732 : decode cL_law 732 = .ok (.ireturn, 1) := by decide +kernel
theorem dL_law_733 : decode cL_law 733 = .ok (.goto 1225, 3) := by decide +kernel
theorem dL_law_736 : decode cL_law 736 = .ok (.aload_n 1, 1) := by decide +kernel
theorem dL_law_737 : decode cL_law 737 = .ok (.aload_n 3, 1) := by decide +kernel
theorem dL_law_738 : decode cL_law 738 = .ok (.invokestatic 136, 3) := by decide +kernel
theorem dL_law_741 : decode cL_law 741 = .ok (.istore 5, 2) := by decide +kernel
theorem dL_law_743 : decode cL_law 743 = .ok (.aload_n 2, 1) := by decide +kernel
theorem dL_law_744 : decode cL_law 744 = .ok (.invokevirtual 139, 3) := by decide +kernel
theorem dL_law_747 : decode cL_law 747 = .ok (.istore 6, 2) := by decide +kernel
theorem dL_law_749 : decode cL_law 749 = .ok (.aload_n 2, 1) := by decide +kernel
theorem dL_law_750 : decode cL_law 750 = .ok (.invokevirtual 109, 3) := by decide +kernel
theorem dL_law_753 : decode cL_law 753 = .ok (.iload 5, 2) := by decide +kernel
theorem dL_law_755 : decode cL_law 755 = .ok (.if_icmp .eq 5, 3) := by decide +kernel
theorem dL_law_758 : decode cL_law 758 = .ok (.iconst 0, 1) := by decide +kernel
theorem dL_law_759 : decode cL_law 759 = .ok (.ireturn, 1) := by decide +kernel
theorem dL_law_760 : decode cL_law 760 = .ok (.iload 5, 2) := by decide +kernel
theorem dL_law_762 : decode cL_law 762 = .ok (.ifCond .ne 15, 3) := by decide +kernel
theorem dL_law_765 : decode cL_law 765 = .ok (.aload_n 3, 1) := by decide +kernel
theorem dL_law_766 : decode cL_law 766 = .ok (.iconst 0, 1) := by decide +kernel
theorem dL_law_767 : decode cL_law 767 = .ok (.laload, 1) := by decide +kernel
theorem dL_law_768 : decode cL_law 768 = .ok (.iload 6, 2) := by decide +kernel
theorem dL_law_770 : decode cL_law 770 = .ok (.i2l, 1) := by decide +kernel
theorem dL_law_771 : decode cL_law 771 = .ok (.lcmp, 1) := by decide +kernel
theorem dL_law_772 : decode cL_law 772 = .ok (.ifCond .eq 5, 3) := by decide +kernel
theorem dL_law_775 : decode cL_law 775 = .ok (.iconst 0, 1) := by decide +kernel
theorem dL_law_776 : decode cL_law 776 = .ok (.ireturn, 1) := by decide +kernel
theorem dL_law_777 : decode cL_law 777 = .ok (.goto 1181, 3) := by decide +kernel
theorem dL_law_780 : decode cL_law 780 = .ok (.aload_n 1, 1) := by decide +kernel
theorem dL_law_781 : decode cL_law 781 = .ok (.aload_n 0, 1) := by decide +kernel
theorem dL_law_782 : decode cL_law 782 = .ok (.iload 4, 2) := by decide +kernel
theorem dL_law_784 : decode cL_law 784 = .ok (.iconst 1, 1) := by decide +kernel
theorem dL_law_785 : decode cL_law 785 = .ok (.iadd, 1) := by decide +kernel
theorem dL_law_786 : decode cL_law 786 = .ok (.iaload, 1) := by decide +kernel
theorem dL_law_787 : decode cL_law 787 = .ok (.aload_n 3, 1) := by decide +kernel
theorem dL_law_788 : decode cL_law 788 = .ok (.invokestatic 140, 3) := by decide +kernel
theorem dL_law_791 : decode cL_law 791 = .ok (.istore 5, 2) := by decide +kernel
theorem dL_law_793 : decode cL_law 793 = .ok (.aload_n 2, 1) := by decide +kernel
theorem dL_law_794 : decode cL_law 794 = .ok (.aload_n 0, 1) := by decide +kernel
theorem dL_law_795 : decode cL_law 795 = .ok (.iload 4, 2) := by decide +kernel
theorem dL_law_797 : decode cL_law 797 = .ok (.iconst 1, 1) := by decide +kernel
theorem dL_law_798 : decode cL_law 798 = .ok (.iadd, 1) := by decide +kernel
theorem dL_law_799 : decode cL_law 799 = .ok (.iaload, 1) := by decide +kernel
theorem dL_law_800 : decode cL_law 800 = .ok (.invokevirtual 142, 3) := by decide +kernel
theorem dL_law_803 : decode cL_law 803 = .ok (.istore 6, 2) := by decide +kernel
theorem dL_law_805 : decode cL_law 805 = .ok (.aload_n 2, 1) := by decide +kernel
theorem dL_law_806 : decode cL_law 806 = .ok (.invokevirtual 109, 3) := by decide +kernel
theorem dL_law_809 : decode cL_law 809 = .ok (.iload 5, 2) := by decide +kernel
theorem dL_law_811 : decode cL_law 811 = .ok (.if_icmp .eq 5, 3) := by decide +kernel
theorem dL_law_814 : decode cL_law 814 = .ok (.iconst 0, 1) := by decide +kernel
theorem dL_law_815 : decode cL_law 815 = .ok (.ireturn, 1) := by decide +kernel
theorem dL_law_816 : decode cL_law 816 = .ok (.iload 5, 2) := by decide +kernel
theorem dL_law_818 : decode cL_law 818 = .ok (.ifCond .ne 15, 3) := by decide +kernel
theorem dL_law_821 : decode cL_law 821 = .ok (.aload_n 3, 1) := by decide +kernel
theorem dL_law_822 : decode cL_law 822 = .ok (.iconst 0, 1) := by decide +kernel
theorem dL_law_823 : decode cL_law 823 = .ok (.laload, 1) := by decide +kernel
theorem dL_law_824 : decode cL_law 824 = .ok (.iload 6, 2) := by decide +kernel
theorem dL_law_826 : decode cL_law 826 = .ok (.i2l, 1) := by decide +kernel
theorem dL_law_827 : decode cL_law 827 = .ok (.lcmp, 1) := by decide +kernel
theorem dL_law_828 : decode cL_law 828 = .ok (.ifCond .eq 5, 3) := by decide +kernel
theorem dL_law_831 : decode cL_law 831 = .ok (.iconst 0, 1) := by decide +kernel
theorem dL_law_832 : decode cL_law 832 = .ok (.ireturn, 1) := by decide +kernel
theorem dL_law_833 : decode cL_law 833 = .ok (.goto 1125, 3) := by decide +kernel
theorem dL_law_836 : decode cL_law 836 = .ok (.aload_n 1, 1) := by decide +kernel
theorem dL_law_837 : decode cL_law 837 = .ok (.aload_n 0, 1) := by decide +kernel
theorem dL_law_838 : decode cL_law 838 = .ok (.iload 4, 2) := by decide +kernel
theorem dL_law_840 : decode cL_law 840 = .ok (.iconst 1, 1) := by decide +kernel
theorem dL_law_841 : decode cL_law 841 = .ok (.iadd, 1) := by decide +kernel
theorem dL_law_842 : decode cL_law 842 = .ok (.iaload, 1) := by decide +kernel
theorem dL_law_843 : decode cL_law 843 = .ok (.aload_n 3, 1) := by decide +kernel
theorem dL_law_844 : decode cL_law 844 = .ok (.invokestatic 143, 3) := by decide +kernel
theorem dL_law_847 : decode cL_law 847 = .ok (.istore 5, 2) := by decide +kernel
theorem dL_law_849 : decode cL_law 849 = .ok (.aload_n 2, 1) := by decide +kernel
theorem dL_law_850 : decode cL_law 850 = .ok (.aload_n 0, 1) := by decide +kernel
theorem dL_law_851 : decode cL_law 851 = .ok (.iload 4, 2) := by decide +kernel
theorem dL_law_853 : decode cL_law 853 = .ok (.iconst 1, 1) := by decide +kernel
theorem dL_law_854 : decode cL_law 854 = .ok (.iadd, 1) := by decide +kernel
theorem dL_law_855 : decode cL_law 855 = .ok (.iaload, 1) := by decide +kernel
theorem dL_law_856 : decode cL_law 856 = .ok (.invokevirtual 145, 3) := by decide +kernel
theorem dL_law_859 : decode cL_law 859 = .ok (.istore 6, 2) := by decide +kernel
theorem dL_law_861 : decode cL_law 861 = .ok (.aload_n 2, 1) := by decide +kernel
theorem dL_law_862 : decode cL_law 862 = .ok (.invokevirtual 109, 3) := by decide +kernel
theorem dL_law_865 : decode cL_law 865 = .ok (.iload 5, 2) := by decide +kernel
theorem dL_law_867 : decode cL_law 867 = .ok (.if_icmp .eq 5, 3) := by decide +kernel
theorem dL_law_870 : decode cL_law 870 = .ok (.iconst 0, 1) := by decide +kernel
theorem dL_law_871 : decode cL_law 871 = .ok (.ireturn, 1) := by decide +kernel
theorem dL_law_872 : decode cL_law 872 = .ok (.iload 5, 2) := by decide +kernel
theorem dL_law_874 : decode cL_law 874 = .ok (.ifCond .ne 15, 3) := by decide +kernel
theorem dL_law_877 : decode cL_law 877 = .ok (.aload_n 3, 1) := by decide +kernel
theorem dL_law_878 : decode cL_law 878 = .ok (.iconst 0, 1) := by decide +kernel
theorem dL_law_879 : decode cL_law 879 = .ok (.laload, 1) := by decide +kernel
theorem dL_law_880 : decode cL_law 880 = .ok (.iload 6, 2) := by decide +kernel
theorem dL_law_882 : decode cL_law 882 = .ok (.i2l, 1) := by decide +kernel
theorem dL_law_883 : decode cL_law 883 = .ok (.lcmp, 1) := by decide +kernel
theorem dL_law_884 : decode cL_law 884 = .ok (.ifCond .eq 5, 3) := by decide +kernel
theorem dL_law_887 : decode cL_law 887 = .ok (.iconst 0, 1) := by decide +kernel
theorem dL_law_888 : decode cL_law 888 = .ok (.ireturn, 1) := by decide +kernel
theorem dL_law_889 : decode cL_law 889 = .ok (.goto 1069, 3) := by decide +kernel
theorem dL_law_892 : decode cL_law 892 = .ok (.aload_n 1, 1) := by decide +kernel
theorem dL_law_893 : decode cL_law 893 = .ok (.invokevirtual 146, 3) := by decide +kernel
theorem dL_law_896 : decode cL_law 896 = .ok (.aload_n 2, 1) := by decide +kernel
theorem dL_law_897 : decode cL_law 897 = .ok (.invokevirtual 149, 3) := by decide +kernel
theorem dL_law_900 : decode cL_law 900 = .ok (.if_icmp .eq 1058, 3) := by decide +kernel
theorem dL_law_903 : decode cL_law 903 = .ok (.iconst 0, 1) := by decide +kernel
theorem dL_law_904 : decode cL_law 904 = .ok (.ireturn, 1) := by decide +kernel
theorem dL_law_905 : decode cL_law 905 = .ok (.aload_n 1, 1) := by decide +kernel
theorem dL_law_906 : decode cL_law 906 = .ok (.invokevirtual 150, 3) := by decide +kernel
theorem dL_law_909 : decode cL_law 909 = .ok (.aload_n 2, 1) := by decide +kernel
theorem dL_law_910 : decode cL_law 910 = .ok (.invokevirtual 153, 3) := by decide +kernel
theorem dL_law_913 : decode cL_law 913 = .ok (.if_icmp .eq 1045, 3) := by decide +kernel
theorem dL_law_916 : decode cL_law 916 = .ok (.iconst 0, 1) := by decide +kernel
theorem dL_law_917 : decode cL_law 917 = .ok (.ireturn, 1) := by decide +kernel
theorem dL_law_918 : decode cL_law 918 = .ok (.aload_n 1, 1) := by decide +kernel
theorem dL_law_919 : decode cL_law 919 = .ok (.aload_n 0, 1) := by decide +kernel
theorem dL_law_920 : decode cL_law 920 = .ok (.iload 4, 2) := by decide +kernel
theorem dL_law_922 : decode cL_law 922 = .ok (.iconst 1, 1) := by decide +kernel
theorem dL_law_923 : decode cL_law 923 = .ok (.iadd, 1) := by decide +kernel
theorem dL_law_924 : decode cL_law 924 = .ok (.iaload, 1) := by decide +kernel
theorem dL_law_925 : decode cL_law 925 = .ok (.aload_n 3, 1) := by decide +kernel
theorem dL_law_926 : decode cL_law 926 = .ok (.invokestatic 154, 3) := by decide +kernel
theorem dL_law_929 : decode cL_law 929 = .ok (.istore 5, 2) := by decide +kernel
theorem dL_law_931 : decode cL_law 931 = .ok (.aload_n 2, 1) := by decide +kernel
theorem dL_law_932 : decode cL_law 932 = .ok (.aload_n 0, 1) := by decide +kernel
theorem dL_law_933 : decode cL_law 933 = .ok (.iload 4, 2) := by decide +kernel
theorem dL_law_935 : decode cL_law 935 = .ok (.iconst 1, 1) := by decide +kernel
theorem dL_law_936 : decode cL_law 936 = .ok (.iadd, 1) := by decide +kernel
theorem dL_law_937 : decode cL_law 937 = .ok (.iaload, 1) := by decide +kernel
theorem dL_law_938 : decode cL_law 938 = .ok (.invokevirtual 156, 3) := by decide +kernel
theorem dL_law_941 : decode cL_law 941 = .ok (.istore 6, 2) := by decide +kernel
theorem dL_law_943 : decode cL_law 943 = .ok (.aload_n 2, 1) := by decide +kernel
theorem dL_law_944 : decode cL_law 944 = .ok (.invokevirtual 109, 3) := by decide +kernel
theorem dL_law_947 : decode cL_law 947 = .ok (.iload 5, 2) := by decide +kernel
theorem dL_law_949 : decode cL_law 949 = .ok (.if_icmp .eq 5, 3) := by decide +kernel
theorem dL_law_952 : decode cL_law 952 = .ok (.iconst 0, 1) := by decide +kernel
theorem dL_law_953 : decode cL_law 953 = .ok (.ireturn, 1) := by decide +kernel
theorem dL_law_954 : decode cL_law 954 = .ok (.iload 5, 2) := by decide +kernel
theorem dL_law_956 : decode cL_law 956 = .ok (.ifCond .ne 15, 3) := by decide +kernel
theorem dL_law_959 : decode cL_law 959 = .ok (.aload_n 3, 1) := by decide +kernel
theorem dL_law_960 : decode cL_law 960 = .ok (.iconst 0, 1) := by decide +kernel
theorem dL_law_961 : decode cL_law 961 = .ok (.laload, 1) := by decide +kernel
theorem dL_law_962 : decode cL_law 962 = .ok (.iload 6, 2) := by decide +kernel
theorem dL_law_964 : decode cL_law 964 = .ok (.i2l, 1) := by decide +kernel
theorem dL_law_965 : decode cL_law 965 = .ok (.lcmp, 1) := by decide +kernel
theorem dL_law_966 : decode cL_law 966 = .ok (.ifCond .eq 5, 3) := by decide +kernel
theorem dL_law_969 : decode cL_law 969 = .ok (.iconst 0, 1) := by decide +kernel
theorem dL_law_970 : decode cL_law 970 = .ok (.ireturn, 1) := by decide +kernel
theorem dL_law_971 : decode cL_law 971 = .ok (.goto 987, 3) := by decide +kernel
theorem dL_law_974 : decode cL_law 974 = .ok (.aload_n 1, 1) := by decide +kernel
theorem dL_law_975 : decode cL_law 975 = .ok (.aload_n 3, 1) := by decide +kernel
theorem dL_law_976 : decode cL_law 976 = .ok (.invokestatic 157, 3) := by decide +kernel
theorem dL_law_979 : decode cL_law 979 = .ok (.istore 5, 2) := by decide +kernel
theorem dL_law_981 : decode cL_law 981 = .ok (.aload_n 2, 1) := by decide +kernel
theorem dL_law_982 : decode cL_law 982 = .ok (.invokevirtual 159, 3) := by decide +kernel
theorem dL_law_985 : decode cL_law 985 = .ok (.istore 6, 2) := by decide +kernel
theorem dL_law_987 : decode cL_law 987 = .ok (.aload_n 2, 1) := by decide +kernel
theorem dL_law_988 : decode cL_law 988 = .ok (.invokevirtual 109, 3) := by decide +kernel
theorem dL_law_991 : decode cL_law 991 = .ok (.iload 5, 2) := by decide +kernel
theorem dL_law_993 : decode cL_law 993 = .ok (.if_icmp .eq 5, 3) := by decide +kernel
theorem dL_law_996 : decode cL_law 996 = .ok (.iconst 0, 1) := by decide +kernel
theorem dL_law_997 : decode cL_law 997 = .ok (.ireturn, 1) := by decide +kernel
theorem dL_law_998 : decode cL_law 998 = .ok (.iload 5, 2) := by decide +kernel
theorem dL_law_1000 : decode cL_law 1000 = .ok (.ifCond .ne 15, 3) := by decide +kernel
theorem dL_law_1003 : decode cL_law 1003 = .ok (.aload_n 3, 1) := by decide +kernel
theorem dL_law_1004 : decode cL_law 1004 = .ok (.iconst 0, 1) := by decide +kernel
theorem dL_law_1005 : decode cL_law 1005 = .ok (.laload, 1) := by decide +kernel
theorem dL_law_1006 : decode cL_law 1006 = .ok (.iload 6, 2) := by decide +kernel
theorem dL_law_1008 : decode cL_law 1008 = .ok (.i2l, 1) := by decide +kernel
theorem dL_law_1009 : decode cL_law 1009 = .ok (.lcmp, 1) := by decide +kernel
theorem dL_law_1010 : decode cL_law 1010 = .ok (.ifCond .eq 5, 3) := by decide +kernel
theorem dL_law_1013 : decode cL_law 1013 = .ok (.iconst 0, 1) := by decide +kernel
theorem dL_law_1014 : decode cL_law 1014 = .ok (.ireturn, 1) := by decide +kernel
theorem dL_law_1015 : decode cL_law 1015 = .ok (.goto 943, 3) := by decide +kernel
theorem dL_law_1018 : decode cL_law 1018 = .ok (.aload_n 1, 1) := by decide +kernel
theorem dL_law_1019 : decode cL_law 1019 = .ok (.aload_n 0, 1) := by decide +kernel
theorem dL_law_1020 : decode cL_law 1020 = .ok (.iload 4, 2) := by decide +kernel
theorem dL_law_1022 : decode cL_law 1022 = .ok (.iconst 1, 1) := by decide +kernel
theorem dL_law_1023 : decode cL_law 1023 = .ok (.iadd, 1) := by decide +kernel
theorem dL_law_1024 : decode cL_law 1024 = .ok (.iaload, 1) := by decide +kernel
theorem dL_law_1025 : decode cL_law 1025 = .ok (.aload_n 0, 1) := by decide +kernel
theorem dL_law_1026 : decode cL_law 1026 = .ok (.iload 4, 2) := by decide +kernel
theorem dL_law_1028 : decode cL_law 1028 = .ok (.iconst 2, 1) := by decide +kernel
theorem dL_law_1029 : decode cL_law 1029 = .ok (.iadd, 1) := by decide +kernel
theorem dL_law_1030 : decode cL_law 1030 = .ok (.iaload, 1) := by decide +kernel
theorem dL_law_1031 : decode cL_law 1031 = .ok (.aload_n 3, 1) := by decide +kernel
theorem dL_law_1032 : decode cL_law 1032 = .ok (.invokestatic 160, 3) := by decide +kernel
theorem dL_law_1035 : decode cL_law 1035 = .ok (.istore 5, 2) := by decide +kernel
theorem dL_law_1037 : decode cL_law 1037 = .ok (.aload_n 2, 1) := by decide +kernel
theorem dL_law_1038 : decode cL_law 1038 = .ok (.aload_n 0, 1) := by decide +kernel
theorem dL_law_1039 : decode cL_law 1039 = .ok (.iload 4, 2) := by decide +kernel
theorem dL_law_1041 : decode cL_law 1041 = .ok (.iconst 1, 1) := by decide +kernel
theorem dL_law_1042 : decode cL_law 1042 = .ok (.iadd, 1) := by decide +kernel
theorem dL_law_1043 : decode cL_law 1043 = .ok (.iaload, 1) := by decide +kernel
theorem dL_law_1044 : decode cL_law 1044 = .ok (.aload_n 0, 1) := by decide +kernel
theorem dL_law_1045 : decode cL_law 1045 = .ok (.iload 4, 2) := by decide +kernel
theorem dL_law_1047 : decode cL_law 1047 = .ok (.iconst 2, 1) := by decide +kernel
theorem dL_law_1048 : decode cL_law 1048 = .ok (.iadd, 1) := by decide +kernel
theorem dL_law_1049 : decode cL_law 1049 = .ok (.iaload, 1) := by decide +kernel
theorem dL_law_1050 : decode cL_law 1050 = .ok (.invokevirtual 162, 3) := by decide +kernel
theorem dL_law_1053 : decode cL_law 1053 = .ok (.istore 6, 2) := by decide +kernel
theorem dL_law_1055 : decode cL_law 1055 = .ok (.aload_n 2, 1) := by decide +kernel
theorem dL_law_1056 : decode cL_law 1056 = .ok (.invokevirtual 109, 3) := by decide +kernel
theorem dL_law_1059 : decode cL_law 1059 = .ok (.iload 5, 2) := by decide +kernel
theorem dL_law_1061 : decode cL_law 1061 = .ok (.if_icmp .eq 5, 3) := by decide +kernel
theorem dL_law_1064 : decode cL_law 1064 = .ok (.iconst 0, 1) := by decide +kernel
theorem dL_law_1065 : decode cL_law 1065 = .ok (.ireturn, 1) := by decide +kernel
theorem dL_law_1066 : decode cL_law 1066 = .ok (.iload 5, 2) := by decide +kernel
theorem dL_law_1068 : decode cL_law 1068 = .ok (.ifCond .ne 15, 3) := by decide +kernel
theorem dL_law_1071 : decode cL_law 1071 = .ok (.aload_n 3, 1) := by decide +kernel
theorem dL_law_1072 : decode cL_law 1072 = .ok (.iconst 0, 1) := by decide +kernel
theorem dL_law_1073 : decode cL_law 1073 = .ok (.laload, 1) := by decide +kernel
theorem dL_law_1074 : decode cL_law 1074 = .ok (.iload 6, 2) := by decide +kernel
theorem dL_law_1076 : decode cL_law 1076 = .ok (.i2l, 1) := by decide +kernel
theorem dL_law_1077 : decode cL_law 1077 = .ok (.lcmp, 1) := by decide +kernel
theorem dL_law_1078 : decode cL_law 1078 = .ok (.ifCond .eq 5, 3) := by decide +kernel
theorem dL_law_1081 : decode cL_law 1081 = .ok (.iconst 0, 1) := by decide +kernel
theorem dL_law_1082 : decode cL_law 1082 = .ok (.ireturn, 1) := by decide +kernel
theorem dL_law_1083 : decode cL_law 1083 = .ok (.goto 875, 3) := by decide +kernel
theorem dL_law_1086 : decode cL_law 1086 = .ok (.aload_n 1, 1) := by decide +kernel
theorem dL_law_1087 : decode cL_law 1087 = .ok (.aload_n 0, 1) := by decide +kernel
theorem dL_law_1088 : decode cL_law 1088 = .ok (.iload 4, 2) := by decide +kernel
theorem dL_law_1090 : decode cL_law 1090 = .ok (.iconst 1, 1) := by decide +kernel
theorem dL_law_1091 : decode cL_law 1091 = .ok (.iadd, 1) := by decide +kernel
theorem dL_law_1092 : decode cL_law 1092 = .ok (.iaload, 1) := by decide +kernel
theorem dL_law_1093 : decode cL_law 1093 = .ok (.aload_n 0, 1) := by decide +kernel
theorem dL_law_1094 : decode cL_law 1094 = .ok (.iload 4, 2) := by decide +kernel
theorem dL_law_1096 : decode cL_law 1096 = .ok (.iconst 2, 1) := by decide +kernel
theorem dL_law_1097 : decode cL_law 1097 = .ok (.iadd, 1) := by decide +kernel
theorem dL_law_1098 : decode cL_law 1098 = .ok (.iaload, 1) := by decide +kernel
theorem dL_law_1099 : decode cL_law 1099 = .ok (.aload_n 3, 1) := by decide +kernel
theorem dL_law_1100 : decode cL_law 1100 = .ok (.invokestatic 163, 3) := by decide +kernel
theorem dL_law_1103 : decode cL_law 1103 = .ok (.istore 5, 2) := by decide +kernel
theorem dL_law_1105 : decode cL_law 1105 = .ok (.aload_n 2, 1) := by decide +kernel
theorem dL_law_1106 : decode cL_law 1106 = .ok (.aload_n 0, 1) := by decide +kernel
theorem dL_law_1107 : decode cL_law 1107 = .ok (.iload 4, 2) := by decide +kernel
theorem dL_law_1109 : decode cL_law 1109 = .ok (.iconst 1, 1) := by decide +kernel
theorem dL_law_1110 : decode cL_law 1110 = .ok (.iadd, 1) := by decide +kernel
theorem dL_law_1111 : decode cL_law 1111 = .ok (.iaload, 1) := by decide +kernel
theorem dL_law_1112 : decode cL_law 1112 = .ok (.aload_n 0, 1) := by decide +kernel
theorem dL_law_1113 : decode cL_law 1113 = .ok (.iload 4, 2) := by decide +kernel
theorem dL_law_1115 : decode cL_law 1115 = .ok (.iconst 2, 1) := by decide +kernel
theorem dL_law_1116 : decode cL_law 1116 = .ok (.iadd, 1) := by decide +kernel
theorem dL_law_1117 : decode cL_law 1117 = .ok (.iaload, 1) := by decide +kernel
theorem dL_law_1118 : decode cL_law 1118 = .ok (.invokevirtual 165, 3) := by decide +kernel
theorem dL_law_1121 : decode cL_law 1121 = .ok (.istore 6, 2) := by decide +kernel
theorem dL_law_1123 : decode cL_law 1123 = .ok (.aload_n 2, 1) := by decide +kernel
theorem dL_law_1124 : decode cL_law 1124 = .ok (.invokevirtual 109, 3) := by decide +kernel
theorem dL_law_1127 : decode cL_law 1127 = .ok (.iload 5, 2) := by decide +kernel
theorem dL_law_1129 : decode cL_law 1129 = .ok (.if_icmp .eq 5, 3) := by decide +kernel
theorem dL_law_1132 : decode cL_law 1132 = .ok (.iconst 0, 1) := by decide +kernel
theorem dL_law_1133 : decode cL_law 1133 = .ok (.ireturn, 1) := by decide +kernel
theorem dL_law_1134 : decode cL_law 1134 = .ok (.iload 5, 2) := by decide +kernel
theorem dL_law_1136 : decode cL_law 1136 = .ok (.ifCond .ne 15, 3) := by decide +kernel
theorem dL_law_1139 : decode cL_law 1139 = .ok (.aload_n 3, 1) := by decide +kernel
theorem dL_law_1140 : decode cL_law 1140 = .ok (.iconst 0, 1) := by decide +kernel
theorem dL_law_1141 : decode cL_law 1141 = .ok (.laload, 1) := by decide +kernel
theorem dL_law_1142 : decode cL_law 1142 = .ok (.iload 6, 2) := by decide +kernel
theorem dL_law_1144 : decode cL_law 1144 = .ok (.i2l, 1) := by decide +kernel
theorem dL_law_1145 : decode cL_law 1145 = .ok (.lcmp, 1) := by decide +kernel
theorem dL_law_1146 : decode cL_law 1146 = .ok (.ifCond .eq 5, 3) := by decide +kernel
theorem dL_law_1149 : decode cL_law 1149 = .ok (.iconst 0, 1) := by decide +kernel
theorem dL_law_1150 : decode cL_law 1150 = .ok (.ireturn, 1) := by decide +kernel
theorem dL_law_1151 : decode cL_law 1151 = .ok (.goto 807, 3) := by decide +kernel
theorem dL_law_1154 : decode cL_law 1154 = .ok (.aload_n 1, 1) := by decide +kernel
theorem dL_law_1155 : decode cL_law 1155 = .ok (.aload_n 0, 1) := by decide +kernel
theorem dL_law_1156 : decode cL_law 1156 = .ok (.iload 4, 2) := by decide +kernel
theorem dL_law_1158 : decode cL_law 1158 = .ok (.iconst 1, 1) := by decide +kernel
theorem dL_law_1159 : decode cL_law 1159 = .ok (.iadd, 1) := by decide +kernel
theorem dL_law_1160 : decode cL_law 1160 = .ok (.iaload, 1) := by decide +kernel
theorem dL_law_1161 : decode cL_law 1161 = .ok (.aload_n 0, 1) := by decide +kernel
theorem dL_law_1162 : decode cL_law 1162 = .ok (.iload 4, 2) := by decide +kernel
theorem dL_law_1164 : decode cL_law 1164 = .ok (.iconst 2, 1) := by decide +kernel
theorem dL_law_1165 : decode cL_law 1165 = .ok (.iadd, 1) := by decide +kernel
theorem dL_law_1166 : decode cL_law 1166 = .ok (.iaload, 1) := by decide +kernel
theorem dL_law_1167 : decode cL_law 1167 = .ok (.aload_n 3, 1) := by decide +kernel
theorem dL_law_1168 : decode cL_law 1168 = .ok (.invokestatic 166, 3) := by decide +kernel
theorem dL_law_1171 : decode cL_law 1171 = .ok (.istore 5, 2) := by decide +kernel
theorem dL_law_1173 : decode cL_law 1173 = .ok (.aload_n 2, 1) := by decide +kernel
theorem dL_law_1174 : decode cL_law 1174 = .ok (.aload_n 0, 1) := by decide +kernel
theorem dL_law_1175 : decode cL_law 1175 = .ok (.iload 4, 2) := by decide +kernel
theorem dL_law_1177 : decode cL_law 1177 = .ok (.iconst 1, 1) := by decide +kernel
theorem dL_law_1178 : decode cL_law 1178 = .ok (.iadd, 1) := by decide +kernel
theorem dL_law_1179 : decode cL_law 1179 = .ok (.iaload, 1) := by decide +kernel
theorem dL_law_1180 : decode cL_law 1180 = .ok (.aload_n 0, 1) := by decide +kernel
theorem dL_law_1181 : decode cL_law 1181 = .ok (.iload 4, 2) := by decide +kernel
theorem dL_law_1183 : decode cL_law 1183 = .ok (.iconst 2, 1) := by decide +kernel
theorem dL_law_1184 : decode cL_law 1184 = .ok (.iadd, 1) := by decide +kernel
theorem dL_law_1185 : decode cL_law 1185 = .ok (.iaload, 1) := by decide +kernel
theorem dL_law_1186 : decode cL_law 1186 = .ok (.invokevirtual 168, 3) := by decide +kernel
theorem dL_law_1189 : decode cL_law 1189 = .ok (.istore 6, 2) := by decide +kernel
theorem dL_law_1191 : decode cL_law 1191 = .ok (.aload_n 2, 1) := by decide +kernel
theorem dL_law_1192 : decode cL_law 1192 = .ok (.invokevirtual 109, 3) := by decide +kernel
theorem dL_law_1195 : decode cL_law 1195 = .ok (.iload 5, 2) := by decide +kernel
theorem dL_law_1197 : decode cL_law 1197 = .ok (.if_icmp .eq 5, 3) := by decide +kernel
theorem dL_law_1200 : decode cL_law 1200 = .ok (.iconst 0, 1) := by decide +kernel
theorem dL_law_1201 : decode cL_law 1201 = .ok (.ireturn, 1) := by decide +kernel
theorem dL_law_1202 : decode cL_law 1202 = .ok (.iload 5, 2) := by decide +kernel
theorem dL_law_1204 : decode cL_law 1204 = .ok (.ifCond .ne 15, 3) := by decide +kernel
theorem dL_law_1207 : decode cL_law 1207 = .ok (.aload_n 3, 1) := by decide +kernel
theorem dL_law_1208 : decode cL_law 1208 = .ok (.iconst 0, 1) := by decide +kernel
theorem dL_law_1209 : decode cL_law 1209 = .ok (.laload, 1) := by decide +kernel
theorem dL_law_1210 : decode cL_law 1210 = .ok (.iload 6, 2) := by decide +kernel
theorem dL_law_1212 : decode cL_law 1212 = .ok (.i2l, 1) := by decide +kernel
theorem dL_law_1213 : decode cL_law 1213 = .ok (.lcmp, 1) := by decide +kernel
theorem dL_law_1214 : decode cL_law 1214 = .ok (.ifCond .eq 5, 3) := by decide +kernel
theorem dL_law_1217 : decode cL_law 1217 = .ok (.iconst 0, 1) := by decide +kernel
theorem dL_law_1218 : decode cL_law 1218 = .ok (.ireturn, 1) := by decide +kernel
theorem dL_law_1219 : decode cL_law 1219 = .ok (.goto 739, 3) := by decide +kernel
theorem dL_law_1222 : decode cL_law 1222 = .ok (.aload_n 1, 1) := by decide +kernel
theorem dL_law_1223 : decode cL_law 1223 = .ok (.aload_n 0, 1) := by decide +kernel
theorem dL_law_1224 : decode cL_law 1224 = .ok (.iload 4, 2) := by decide +kernel
theorem dL_law_1226 : decode cL_law 1226 = .ok (.iconst 1, 1) := by decide +kernel
theorem dL_law_1227 : decode cL_law 1227 = .ok (.iadd, 1) := by decide +kernel
theorem dL_law_1228 : decode cL_law 1228 = .ok (.iaload, 1) := by decide +kernel
theorem dL_law_1229 : decode cL_law 1229 = .ok (.aload_n 0, 1) := by decide +kernel
theorem dL_law_1230 : decode cL_law 1230 = .ok (.iload 4, 2) := by decide +kernel
theorem dL_law_1232 : decode cL_law 1232 = .ok (.iconst 2, 1) := by decide +kernel
theorem dL_law_1233 : decode cL_law 1233 = .ok (.iadd, 1) := by decide +kernel
theorem dL_law_1234 : decode cL_law 1234 = .ok (.iaload, 1) := by decide +kernel
theorem dL_law_1235 : decode cL_law 1235 = .ok (.aload_n 3, 1) := by decide +kernel
theorem dL_law_1236 : decode cL_law 1236 = .ok (.invokestatic 169, 3) := by decide +kernel
theorem dL_law_1239 : decode cL_law 1239 = .ok (.istore 5, 2) := by decide +kernel
theorem dL_law_1241 : decode cL_law 1241 = .ok (.aload_n 2, 1) := by decide +kernel
theorem dL_law_1242 : decode cL_law 1242 = .ok (.aload_n 0, 1) := by decide +kernel
theorem dL_law_1243 : decode cL_law 1243 = .ok (.iload 4, 2) := by decide +kernel
theorem dL_law_1245 : decode cL_law 1245 = .ok (.iconst 1, 1) := by decide +kernel
theorem dL_law_1246 : decode cL_law 1246 = .ok (.iadd, 1) := by decide +kernel
theorem dL_law_1247 : decode cL_law 1247 = .ok (.iaload, 1) := by decide +kernel
theorem dL_law_1248 : decode cL_law 1248 = .ok (.aload_n 0, 1) := by decide +kernel
theorem dL_law_1249 : decode cL_law 1249 = .ok (.iload 4, 2) := by decide +kernel
theorem dL_law_1251 : decode cL_law 1251 = .ok (.iconst 2, 1) := by decide +kernel
theorem dL_law_1252 : decode cL_law 1252 = .ok (.iadd, 1) := by decide +kernel
theorem dL_law_1253 : decode cL_law 1253 = .ok (.iaload, 1) := by decide +kernel
theorem dL_law_1254 : decode cL_law 1254 = .ok (.invokevirtual 171, 3) := by decide +kernel
theorem dL_law_1257 : decode cL_law 1257 = .ok (.istore 6, 2) := by decide +kernel
theorem dL_law_1259 : decode cL_law 1259 = .ok (.aload_n 2, 1) := by decide +kernel
theorem dL_law_1260 : decode cL_law 1260 = .ok (.invokevirtual 109, 3) := by decide +kernel
theorem dL_law_1263 : decode cL_law 1263 = .ok (.iload 5, 2) := by decide +kernel
theorem dL_law_1265 : decode cL_law 1265 = .ok (.if_icmp .eq 5, 3) := by decide +kernel
theorem dL_law_1268 : decode cL_law 1268 = .ok (.iconst 0, 1) := by decide +kernel
theorem dL_law_1269 : decode cL_law 1269 = .ok (.ireturn, 1) := by decide +kernel
theorem dL_law_1270 : decode cL_law 1270 = .ok (.iload 5, 2) := by decide +kernel
theorem dL_law_1272 : decode cL_law 1272 = .ok (.ifCond .ne 15, 3) := by decide +kernel
theorem dL_law_1275 : decode cL_law 1275 = .ok (.aload_n 3, 1) := by decide +kernel
theorem dL_law_1276 : decode cL_law 1276 = .ok (.iconst 0, 1) := by decide +kernel
theorem dL_law_1277 : decode cL_law 1277 = .ok (.laload, 1) := by decide +kernel
theorem dL_law_1278 : decode cL_law 1278 = .ok (.iload 6, 2) := by decide +kernel
theorem dL_law_1280 : decode cL_law 1280 = .ok (.i2l, 1) := by decide +kernel
theorem dL_law_1281 : decode cL_law 1281 = .ok (.lcmp, 1) := by decide +kernel
theorem dL_law_1282 : decode cL_law 1282 = .ok (.ifCond .eq 5, 3) := by decide +kernel
theorem dL_law_1285 : decode cL_law 1285 = .ok (.iconst 0, 1) := by decide +kernel
theorem dL_law_1286 : decode cL_law 1286 = .ok (.ireturn, 1) := by decide +kernel
theorem dL_law_1287 : decode cL_law 1287 = .ok (.goto 671, 3) := by decide +kernel
theorem dL_law_1290 : decode cL_law 1290 = .ok (.aload_n 1, 1) := by decide +kernel
theorem dL_law_1291 : decode cL_law 1291 = .ok (.aload_n 0, 1) := by decide +kernel
theorem dL_law_1292 : decode cL_law 1292 = .ok (.iload 4, 2) := by decide +kernel
theorem dL_law_1294 : decode cL_law 1294 = .ok (.iconst 1, 1) := by decide +kernel
theorem dL_law_1295 : decode cL_law 1295 = .ok (.iadd, 1) := by decide +kernel
theorem dL_law_1296 : decode cL_law 1296 = .ok (.iaload, 1) := by decide +kernel
theorem dL_law_1297 : decode cL_law 1297 = .ok (.aload_n 3, 1) := by decide +kernel
theorem dL_law_1298 : decode cL_law 1298 = .ok (.invokestatic 172, 3) := by decide +kernel
theorem dL_law_1301 : decode cL_law 1301 = .ok (.istore 5, 2) := by decide +kernel
theorem dL_law_1303 : decode cL_law 1303 = .ok (.aload_n 2, 1) := by decide +kernel
theorem dL_law_1304 : decode cL_law 1304 = .ok (.aload_n 0, 1) := by decide +kernel
theorem dL_law_1305 : decode cL_law 1305 = .ok (.iload 4, 2) := by decide +kernel
theorem dL_law_1307 : decode cL_law 1307 = .ok (.iconst 1, 1) := by decide +kernel
theorem dL_law_1308 : decode cL_law 1308 = .ok (.iadd, 1) := by decide +kernel
theorem dL_law_1309 : decode cL_law 1309 = .ok (.iaload, 1) := by decide +kernel
theorem dL_law_1310 : decode cL_law 1310 = .ok (.invokevirtual 174, 3) := by decide +kernel
theorem dL_law_1313 : decode cL_law 1313 = .ok (.istore 6, 2) := by decide +kernel
theorem dL_law_1315 : decode cL_law 1315 = .ok (.aload_n 2, 1) := by decide +kernel
theorem dL_law_1316 : decode cL_law 1316 = .ok (.invokevirtual 109, 3) := by decide +kernel
theorem dL_law_1319 : decode cL_law 1319 = .ok (.iload 5, 2) := by decide +kernel
theorem dL_law_1321 : decode cL_law 1321 = .ok (.if_icmp .eq 5, 3) := by decide +kernel
theorem dL_law_1324 : decode cL_law 1324 = .ok (.iconst 0, 1) := by decide +kernel
theorem dL_law_1325 : decode cL_law 1325 = .ok (.ireturn, 1) := by decide +kernel
theorem dL_law_1326 : decode cL_law 1326 = .ok (.iload 5, 2) := by decide +kernel
theorem dL_law_1328 : decode cL_law 1328 = .ok (.ifCond .ne 15, 3) := by decide +kernel
theorem dL_law_1331 : decode cL_law 1331 = .ok (.aload_n 3, 1) := by decide +kernel
theorem dL_law_1332 : decode cL_law 1332 = .ok (.iconst 0, 1) := by decide +kernel
theorem dL_law_1333 : decode cL_law 1333 = .ok (.laload, 1) := by decide +kernel
theorem dL_law_1334 : decode cL_law 1334 = .ok (.iload 6, 2) := by decide +kernel
theorem dL_law_1336 : decode cL_law 1336 = .ok (.i2l, 1) := by decide +kernel
theorem dL_law_1337 : decode cL_law 1337 = .ok (.lcmp, 1) := by decide +kernel
theorem dL_law_1338 : decode cL_law 1338 = .ok (.ifCond .eq 5, 3) := by decide +kernel
theorem dL_law_1341 : decode cL_law 1341 = .ok (.iconst 0, 1) := by decide +kernel
theorem dL_law_1342 : decode cL_law 1342 = .ok (.ireturn, 1) := by decide +kernel
theorem dL_law_1343 : decode cL_law 1343 = .ok (.goto 615, 3) := by decide +kernel
theorem dL_law_1346 : decode cL_law 1346 = .ok (.aload_n 1, 1) := by decide +kernel
theorem dL_law_1347 : decode cL_law 1347 = .ok (.aload_n 0, 1) := by decide +kernel
theorem dL_law_1348 : decode cL_law 1348 = .ok (.iload 4, 2) := by decide +kernel
theorem dL_law_1350 : decode cL_law 1350 = .ok (.iconst 1, 1) := by decide +kernel
theorem dL_law_1351 : decode cL_law 1351 = .ok (.iadd, 1) := by decide +kernel
theorem dL_law_1352 : decode cL_law 1352 = .ok (.iaload, 1) := by decide +kernel
theorem dL_law_1353 : decode cL_law 1353 = .ok (.aload_n 3, 1) := by decide +kernel
theorem dL_law_1354 : decode cL_law 1354 = .ok (.invokestatic 175, 3) := by decide +kernel
theorem dL_law_1357 : decode cL_law 1357 = .ok (.istore 5, 2) := by decide +kernel
theorem dL_law_1359 : decode cL_law 1359 = .ok (.aload_n 2, 1) := by decide +kernel
theorem dL_law_1360 : decode cL_law 1360 = .ok (.aload_n 0, 1) := by decide +kernel
theorem dL_law_1361 : decode cL_law 1361 = .ok (.iload 4, 2) := by decide +kernel
theorem dL_law_1363 : decode cL_law 1363 = .ok (.iconst 1, 1) := by decide +kernel
theorem dL_law_1364 : decode cL_law 1364 = .ok (.iadd, 1) := by decide +kernel
theorem dL_law_1365 : decode cL_law 1365 = .ok (.iaload, 1) := by decide +kernel
theorem dL_law_1366 : decode cL_law 1366 = .ok (.invokevirtual 177, 3) := by decide +kernel
theorem dL_law_1369 : decode cL_law 1369 = .ok (.istore 6, 2) := by decide +kernel
theorem dL_law_1371 : decode cL_law 1371 = .ok (.aload_n 2, 1) := by decide +kernel
theorem dL_law_1372 : decode cL_law 1372 = .ok (.invokevirtual 109, 3) := by decide +kernel
theorem dL_law_1375 : decode cL_law 1375 = .ok (.iload 5, 2) := by decide +kernel
theorem dL_law_1377 : decode cL_law 1377 = .ok (.if_icmp .eq 5, 3) := by decide +kernel
theorem dL_law_1380 : decode cL_law 1380 = .ok (.iconst 0, 1) := by decide +kernel
theorem dL_law_1381 : decode cL_law 1381 = .ok (.ireturn, 1) := by decide +kernel
theorem dL_law_1382 : decode cL_law 1382 = .ok (.iload 5, 2) := by decide +kernel
theorem dL_law_1384 : decode cL_law 1384 = .ok (.ifCond .ne 15, 3) := by decide +kernel
theorem dL_law_1387 : decode cL_law 1387 = .ok (.aload_n 3, 1) := by decide +kernel
theorem dL_law_1388 : decode cL_law 1388 = .ok (.iconst 0, 1) := by decide +kernel
theorem dL_law_1389 : decode cL_law 1389 = .ok (.laload, 1) := by decide +kernel
theorem dL_law_1390 : decode cL_law 1390 = .ok (.iload 6, 2) := by decide +kernel
theorem dL_law_1392 : decode cL_law 1392 = .ok (.i2l, 1) := by decide +kernel
theorem dL_law_1393 : decode cL_law 1393 = .ok (.lcmp, 1) := by decide +kernel
theorem dL_law_1394 : decode cL_law 1394 = .ok (.ifCond .eq 5, 3) := by decide +kernel
theorem dL_law_1397 : decode cL_law 1397 = .ok (.iconst 0, 1) := by decide +kernel
theorem dL_law_1398 : decode cL_law 1398 = .ok (.ireturn, 1) := by decide +kernel
theorem dL_law_1399 : decode cL_law 1399 = .ok (.goto 559, 3) := by decide +kernel
theorem dL_law_1402 : decode cL_law 1402 = .ok (.aload_n 1, 1) := by decide +kernel
theorem dL_law_1403 : decode cL_law 1403 = .ok (.aload_n 0, 1) := by decide +kernel
theorem dL_law_1404 : decode cL_law 1404 = .ok (.iload 4, 2) := by decide +kernel
theorem dL_law_1406 : decode cL_law 1406 = .ok (.iconst 1, 1) := by decide +kernel
theorem dL_law_1407 : decode cL_law 1407 = .ok (.iadd, 1) := by decide +kernel
theorem dL_law_1408 : decode cL_law 1408 = .ok (.iaload, 1) := by decide +kernel
theorem dL_law_1409 : decode cL_law 1409 = .ok (.aload_n 3, 1) := by decide +kernel
theorem dL_law_1410 : decode cL_law 1410 = .ok (.invokestatic 178, 3) := by decide +kernel
theorem dL_law_1413 : decode cL_law 1413 = .ok (.istore 5, 2) := by decide +kernel
theorem dL_law_1415 : decode cL_law 1415 = .ok (.aload_n 2, 1) := by decide +kernel
theorem dL_law_1416 : decode cL_law 1416 = .ok (.aload_n 0, 1) := by decide +kernel
theorem dL_law_1417 : decode cL_law 1417 = .ok (.iload 4, 2) := by decide +kernel
theorem dL_law_1419 : decode cL_law 1419 = .ok (.iconst 1, 1) := by decide +kernel
theorem dL_law_1420 : decode cL_law 1420 = .ok (.iadd, 1) := by decide +kernel
theorem dL_law_1421 : decode cL_law 1421 = .ok (.iaload, 1) := by decide +kernel
theorem dL_law_1422 : decode cL_law 1422 = .ok (.invokevirtual 180, 3) := by decide +kernel
theorem dL_law_1425 : decode cL_law 1425 = .ok (.istore 6, 2) := by decide +kernel
theorem dL_law_1427 : decode cL_law 1427 = .ok (.aload_n 2, 1) := by decide +kernel
theorem dL_law_1428 : decode cL_law 1428 = .ok (.invokevirtual 109, 3) := by decide +kernel
theorem dL_law_1431 : decode cL_law 1431 = .ok (.iload 5, 2) := by decide +kernel
theorem dL_law_1433 : decode cL_law 1433 = .ok (.if_icmp .eq 5, 3) := by decide +kernel
theorem dL_law_1436 : decode cL_law 1436 = .ok (.iconst 0, 1) := by decide +kernel
theorem dL_law_1437 : decode cL_law 1437 = .ok (.ireturn, 1) := by decide +kernel
theorem dL_law_1438 : decode cL_law 1438 = .ok (.iload 5, 2) := by decide +kernel
theorem dL_law_1440 : decode cL_law 1440 = .ok (.ifCond .ne 15, 3) := by decide +kernel
theorem dL_law_1443 : decode cL_law 1443 = .ok (.aload_n 3, 1) := by decide +kernel
theorem dL_law_1444 : decode cL_law 1444 = .ok (.iconst 0, 1) := by decide +kernel
theorem dL_law_1445 : decode cL_law 1445 = .ok (.laload, 1) := by decide +kernel
theorem dL_law_1446 : decode cL_law 1446 = .ok (.iload 6, 2) := by decide +kernel
theorem dL_law_1448 : decode cL_law 1448 = .ok (.i2l, 1) := by decide +kernel
theorem dL_law_1449 : decode cL_law 1449 = .ok (.lcmp, 1) := by decide +kernel
theorem dL_law_1450 : decode cL_law 1450 = .ok (.ifCond .eq 5, 3) := by decide +kernel
theorem dL_law_1453 : decode cL_law 1453 = .ok (.iconst 0, 1) := by decide +kernel
theorem dL_law_1454 : decode cL_law 1454 = .ok (.ireturn, 1) := by decide +kernel
theorem dL_law_1455 : decode cL_law 1455 = .ok (.goto 503, 3) := by decide +kernel
theorem dL_law_1458 : decode cL_law 1458 = .ok (.aload_n 1, 1) := by decide +kernel
theorem dL_law_1459 : decode cL_law 1459 = .ok (.aload_n 0, 1) := by decide +kernel
theorem dL_law_1460 : decode cL_law 1460 = .ok (.iload 4, 2) := by decide +kernel
theorem dL_law_1462 : decode cL_law 1462 = .ok (.iconst 1, 1) := by decide +kernel
theorem dL_law_1463 : decode cL_law 1463 = .ok (.iadd, 1) := by decide +kernel
theorem dL_law_1464 : decode cL_law 1464 = .ok (.iaload, 1) := by decide +kernel
theorem dL_law_1465 : decode cL_law 1465 = .ok (.aload_n 0, 1) := by decide +kernel
theorem dL_law_1466 : decode cL_law 1466 = .ok (.iload 4, 2) := by decide +kernel
theorem dL_law_1468 : decode cL_law 1468 = .ok (.iconst 2, 1) := by decide +kernel
theorem dL_law_1469 : decode cL_law 1469 = .ok (.iadd, 1) := by decide +kernel
theorem dL_law_1470 : decode cL_law 1470 = .ok (.iaload, 1) := by decide +kernel
theorem dL_law_1471 : decode cL_law 1471 = .ok (.aload_n 0, 1) := by decide +kernel
theorem dL_law_1472 : decode cL_law 1472 = .ok (.iload 4, 2) := by decide +kernel
theorem dL_law_1474 : decode cL_law 1474 = .ok (.iconst 3, 1) := by decide +kernel
theorem dL_law_1475 : decode cL_law 1475 = .ok (.iadd, 1) := by decide +kernel
theorem dL_law_1476 : decode cL_law 1476 = .ok (.iaload, 1) := by decide +kernel
theorem dL_law_1477 : decode cL_law 1477 = .ok (.aload_n 3, 1) := by decide +kernel
theorem dL_law_1478 : decode cL_law 1478 = .ok (.invokestatic 181, 3) := by decide +kernel
theorem dL_law_1481 : decode cL_law 1481 = .ok (.istore 5, 2) := by decide +kernel
theorem dL_law_1483 : decode cL_law 1483 = .ok (.aload_n 2, 1) := by decide +kernel
theorem dL_law_1484 : decode cL_law 1484 = .ok (.aload_n 0, 1) := by decide +kernel
theorem dL_law_1485 : decode cL_law 1485 = .ok (.iload 4, 2) := by decide +kernel
theorem dL_law_1487 : decode cL_law 1487 = .ok (.iconst 1, 1) := by decide +kernel
theorem dL_law_1488 : decode cL_law 1488 = .ok (.iadd, 1) := by decide +kernel
theorem dL_law_1489 : decode cL_law 1489 = .ok (.iaload, 1) := by decide +kernel
theorem dL_law_1490 : decode cL_law 1490 = .ok (.aload_n 0, 1) := by decide +kernel
theorem dL_law_1491 : decode cL_law 1491 = .ok (.iload 4, 2) := by decide +kernel
theorem dL_law_1493 : decode cL_law 1493 = .ok (.iconst 2, 1) := by decide +kernel
theorem dL_law_1494 : decode cL_law 1494 = .ok (.iadd, 1) := by decide +kernel
theorem dL_law_1495 : decode cL_law 1495 = .ok (.iaload, 1) := by decide +kernel
theorem dL_law_1496 : decode cL_law 1496 = .ok (.aload_n 0, 1) := by decide +kernel
theorem dL_law_1497 : decode cL_law 1497 = .ok (.iload 4, 2) := by decide +kernel
theorem dL_law_1499 : decode cL_law 1499 = .ok (.iconst 3, 1) := by decide +kernel
theorem dL_law_1500 : decode cL_law 1500 = .ok (.iadd, 1) := by decide +kernel
theorem dL_law_1501 : decode cL_law 1501 = .ok (.iaload, 1) := by decide +kernel
theorem dL_law_1502 : decode cL_law 1502 = .ok (.invokevirtual 183, 3) := by decide +kernel
theorem dL_law_1505 : decode cL_law 1505 = .ok (.istore 6, 2) := by decide +kernel
theorem dL_law_1507 : decode cL_law 1507 = .ok (.aload_n 2, 1) := by decide +kernel
theorem dL_law_1508 : decode cL_law 1508 = .ok (.invokevirtual 109, 3) := by decide +kernel
theorem dL_law_1511 : decode cL_law 1511 = .ok (.iload 5, 2) := by decide +kernel
theorem dL_law_1513 : decode cL_law 1513 = .ok (.if_icmp .eq 5, 3) := by decide +kernel
theorem dL_law_1516 : decode cL_law 1516 = .ok (.iconst 0, 1) := by decide +kernel
theorem dL_law_1517 : decode cL_law 1517 = .ok (.ireturn, 1) := by decide +kernel
theorem dL_law_1518 : decode cL_law 1518 = .ok (.iload 5, 2) := by decide +kernel
theorem dL_law_1520 : decode cL_law 1520 = .ok (.ifCond .ne 15, 3) := by decide +kernel
theorem dL_law_1523 : decode cL_law 1523 = .ok (.aload_n 3, 1) := by decide +kernel
theorem dL_law_1524 : decode cL_law 1524 = .ok (.iconst 0, 1) := by decide +kernel
theorem dL_law_1525 : decode cL_law 1525 = .ok (.laload, 1) := by decide +kernel
theorem dL_law_1526 : decode cL_law 1526 = .ok (.iload 6, 2) := by decide +kernel
theorem dL_law_1528 : decode cL_law 1528 = .ok (.i2l, 1) := by decide +kernel
theorem dL_law_1529 : decode cL_law 1529 = .ok (.lcmp, 1) := by decide +kernel
theorem dL_law_1530 : decode cL_law 1530 = .ok (.ifCond .eq 5, 3) := by decide +kernel
theorem dL_law_1533 : decode cL_law 1533 = .ok (.iconst 0, 1) := by decide +kernel
theorem dL_law_1534 : decode cL_law 1534 = .ok (.ireturn, 1) := by decide +kernel
theorem dL_law_1535 : decode cL_law 1535 = .ok (.goto 423, 3) := by decide +kernel
theorem dL_law_1538 : decode cL_law 1538 = .ok (.aload_n 1, 1) := by decide +kernel
theorem dL_law_1539 : decode cL_law 1539 = .ok (.aload_n 0, 1) := by decide +kernel
theorem dL_law_1540 : decode cL_law 1540 = .ok (.iload 4, 2) := by decide +kernel
theorem dL_law_1542 : decode cL_law 1542 = .ok (.iconst 1, 1) := by decide +kernel
theorem dL_law_1543 : decode cL_law 1543 = .ok (.iadd, 1) := by decide +kernel
theorem dL_law_1544 : decode cL_law 1544 = .ok (.iaload, 1) := by decide +kernel
theorem dL_law_1545 : decode cL_law 1545 = .ok (.aload_n 0, 1) := by decide +kernel
theorem dL_law_1546 : decode cL_law 1546 = .ok (.iload 4, 2) := by decide +kernel
theorem dL_law_1548 : decode cL_law 1548 = .ok (.iconst 2, 1) := by decide +kernel
theorem dL_law_1549 : decode cL_law 1549 = .ok (.iadd, 1) := by decide +kernel
theorem dL_law_1550 : decode cL_law 1550 = .ok (.iaload, 1) := by decide +kernel
theorem dL_law_1551 : decode cL_law 1551 = .ok (.aload_n 0, 1) := by decide +kernel
theorem dL_law_1552 : decode cL_law 1552 = .ok (.iload 4, 2) := by decide +kernel
theorem dL_law_1554 : decode cL_law 1554 = .ok (.iconst 3, 1) := by decide +kernel
theorem dL_law_1555 : decode cL_law 1555 = .ok (.iadd, 1) := by decide +kernel
theorem dL_law_1556 : decode cL_law 1556 = .ok (.iaload, 1) := by decide +kernel
theorem dL_law_1557 : decode cL_law 1557 = .ok (.aload_n 3, 1) := by decide +kernel
theorem dL_law_1558 : decode cL_law 1558 = .ok (.invokestatic 184, 3) := by decide +kernel
theorem dL_law_1561 : decode cL_law 1561 = .ok (.istore 5, 2) := by decide +kernel
theorem dL_law_1563 : decode cL_law 1563 = .ok (.aload_n 2, 1) := by decide +kernel
theorem dL_law_1564 : decode cL_law 1564 = .ok (.aload_n 0, 1) := by decide +kernel
theorem dL_law_1565 : decode cL_law 1565 = .ok (.iload 4, 2) := by decide +kernel
theorem dL_law_1567 : decode cL_law 1567 = .ok (.iconst 1, 1) := by decide +kernel
theorem dL_law_1568 : decode cL_law 1568 = .ok (.iadd, 1) := by decide +kernel
theorem dL_law_1569 : decode cL_law 1569 = .ok (.iaload, 1) := by decide +kernel
theorem dL_law_1570 : decode cL_law 1570 = .ok (.aload_n 0, 1) := by decide +kernel
theorem dL_law_1571 : decode cL_law 1571 = .ok (.iload 4, 2) := by decide +kernel
theorem dL_law_1573 : decode cL_law 1573 = .ok (.iconst 2, 1) := by decide +kernel
theorem dL_law_1574 : decode cL_law 1574 = .ok (.iadd, 1) := by decide +kernel
theorem dL_law_1575 : decode cL_law 1575 = .ok (.iaload, 1) := by decide +kernel
theorem dL_law_1576 : decode cL_law 1576 = .ok (.aload_n 0, 1) := by decide +kernel
theorem dL_law_1577 : decode cL_law 1577 = .ok (.iload 4, 2) := by decide +kernel
theorem dL_law_1579 : decode cL_law 1579 = .ok (.iconst 3, 1) := by decide +kernel
theorem dL_law_1580 : decode cL_law 1580 = .ok (.iadd, 1) := by decide +kernel
theorem dL_law_1581 : decode cL_law 1581 = .ok (.iaload, 1) := by decide +kernel
theorem dL_law_1582 : decode cL_law 1582 = .ok (.invokevirtual 186, 3) := by decide +kernel
theorem dL_law_1585 : decode cL_law 1585 = .ok (.istore 6, 2) := by decide +kernel
theorem dL_law_1587 : decode cL_law 1587 = .ok (.aload_n 2, 1) := by decide +kernel
theorem dL_law_1588 : decode cL_law 1588 = .ok (.invokevirtual 109, 3) := by decide +kernel
theorem dL_law_1591 : decode cL_law 1591 = .ok (.iload 5, 2) := by decide +kernel
theorem dL_law_1593 : decode cL_law 1593 = .ok (.if_icmp .eq 5, 3) := by decide +kernel
theorem dL_law_1596 : decode cL_law 1596 = .ok (.iconst 0, 1) := by decide +kernel
theorem dL_law_1597 : decode cL_law 1597 = .ok (.ireturn, 1) := by decide +kernel
theorem dL_law_1598 : decode cL_law 1598 = .ok (.iload 5, 2) := by decide +kernel
theorem dL_law_1600 : decode cL_law 1600 = .ok (.ifCond .ne 15, 3) := by decide +kernel
theorem dL_law_1603 : decode cL_law 1603 = .ok (.aload_n 3, 1) := by decide +kernel
theorem dL_law_1604 : decode cL_law 1604 = .ok (.iconst 0, 1) := by decide +kernel
theorem dL_law_1605 : decode cL_law 1605 = .ok (.laload, 1) := by decide +kernel
theorem dL_law_1606 : decode cL_law 1606 = .ok (.iload 6, 2) := by decide +kernel
theorem dL_law_1608 : decode cL_law 1608 = .ok (.i2l, 1) := by decide +kernel
theorem dL_law_1609 : decode cL_law 1609 = .ok (.lcmp, 1) := by decide +kernel
theorem dL_law_1610 : decode cL_law 1610 = .ok (.ifCond .eq 5, 3) := by decide +kernel
theorem dL_law_1613 : decode cL_law 1613 = .ok (.iconst 0, 1) := by decide +kernel
theorem dL_law_1614 : decode cL_law 1614 = .ok (.ireturn, 1) := by decide +kernel
theorem dL_law_1615 : decode cL_law 1615 = .ok (.goto 343, 3) := by decide +kernel
theorem dL_law_1618 : decode cL_law 1618 = .ok (.aload_n 1, 1) := by decide +kernel
theorem dL_law_1619 : decode cL_law 1619 = .ok (.aload_n 0, 1) := by decide +kernel
theorem dL_law_1620 : decode cL_law 1620 = .ok (.iload 4, 2) := by decide +kernel
theorem dL_law_1622 : decode cL_law 1622 = .ok (.iconst 1, 1) := by decide +kernel
theorem dL_law_1623 : decode cL_law 1623 = .ok (.iadd, 1) := by decide +kernel
theorem dL_law_1624 : decode cL_law 1624 = .ok (.iaload, 1) := by decide +kernel
theorem dL_law_1625 : decode cL_law 1625 = .ok (.aload_n 0, 1) := by decide +kernel
theorem dL_law_1626 : decode cL_law 1626 = .ok (.iload 4, 2) := by decide +kernel
theorem dL_law_1628 : decode cL_law 1628 = .ok (.iconst 2, 1) := by decide +kernel
theorem dL_law_1629 : decode cL_law 1629 = .ok (.iadd, 1) := by decide +kernel
theorem dL_law_1630 : decode cL_law 1630 = .ok (.iaload, 1) := by decide +kernel
theorem dL_law_1631 : decode cL_law 1631 = .ok (.aload_n 0, 1) := by decide +kernel
theorem dL_law_1632 : decode cL_law 1632 = .ok (.iload 4, 2) := by decide +kernel
theorem dL_law_1634 : decode cL_law 1634 = .ok (.iconst 3, 1) := by decide +kernel
theorem dL_law_1635 : decode cL_law 1635 = .ok (.iadd, 1) := by decide +kernel
theorem dL_law_1636 : decode cL_law 1636 = .ok (.iaload, 1) := by decide +kernel
theorem dL_law_1637 : decode cL_law 1637 = .ok (.aload_n 0, 1) := by decide +kernel
theorem dL_law_1638 : decode cL_law 1638 = .ok (.iload 4, 2) := by decide +kernel
theorem dL_law_1640 : decode cL_law 1640 = .ok (.iconst 4, 1) := by decide +kernel
theorem dL_law_1641 : decode cL_law 1641 = .ok (.iadd, 1) := by decide +kernel
theorem dL_law_1642 : decode cL_law 1642 = .ok (.iaload, 1) := by decide +kernel
theorem dL_law_1643 : decode cL_law 1643 = .ok (.aload_n 3, 1) := by decide +kernel
theorem dL_law_1644 : decode cL_law 1644 = .ok (.invokestatic 187, 3) := by decide +kernel
theorem dL_law_1647 : decode cL_law 1647 = .ok (.istore 5, 2) := by decide +kernel
theorem dL_law_1649 : decode cL_law 1649 = .ok (.aload_n 2, 1) := by decide +kernel
theorem dL_law_1650 : decode cL_law 1650 = .ok (.aload_n 0, 1) := by decide +kernel
theorem dL_law_1651 : decode cL_law 1651 = .ok (.iload 4, 2) := by decide +kernel
theorem dL_law_1653 : decode cL_law 1653 = .ok (.iconst 1, 1) := by decide +kernel
theorem dL_law_1654 : decode cL_law 1654 = .ok (.iadd, 1) := by decide +kernel
theorem dL_law_1655 : decode cL_law 1655 = .ok (.iaload, 1) := by decide +kernel
theorem dL_law_1656 : decode cL_law 1656 = .ok (.aload_n 0, 1) := by decide +kernel
theorem dL_law_1657 : decode cL_law 1657 = .ok (.iload 4, 2) := by decide +kernel
theorem dL_law_1659 : decode cL_law 1659 = .ok (.iconst 2, 1) := by decide +kernel
theorem dL_law_1660 : decode cL_law 1660 = .ok (.iadd, 1) := by decide +kernel
theorem dL_law_1661 : decode cL_law 1661 = .ok (.iaload, 1) := by decide +kernel
theorem dL_law_1662 : decode cL_law 1662 = .ok (.aload_n 0, 1) := by decide +kernel
theorem dL_law_1663 : decode cL_law 1663 = .ok (.iload 4, 2) := by decide +kernel
theorem dL_law_1665 : decode cL_law 1665 = .ok (.iconst 3, 1) := by decide +kernel
theorem dL_law_1666 : decode cL_law 1666 = .ok (.iadd, 1) := by decide +kernel
theorem dL_law_1667 : decode cL_law 1667 = .ok (.iaload, 1) := by decide +kernel
theorem dL_law_1668 : decode cL_law 1668 = .ok (.aload_n 0, 1) := by decide +kernel
theorem dL_law_1669 : decode cL_law 1669 = .ok (.iload 4, 2) := by decide +kernel
theorem dL_law_1671 : decode cL_law 1671 = .ok (.iconst 4, 1) := by decide +kernel
theorem dL_law_1672 : decode cL_law 1672 = .ok (.iadd, 1) := by decide +kernel
theorem dL_law_1673 : decode cL_law 1673 = .ok (.iaload, 1) := by decide +kernel
theorem dL_law_1674 : decode cL_law 1674 = .ok (.invokevirtual 190, 3) := by decide +kernel
theorem dL_law_1677 : decode cL_law 1677 = .ok (.istore 6, 2) := by decide +kernel
theorem dL_law_1679 : decode cL_law 1679 = .ok (.aload_n 2, 1) := by decide +kernel
theorem dL_law_1680 : decode cL_law 1680 = .ok (.invokevirtual 109, 3) := by decide +kernel
theorem dL_law_1683 : decode cL_law 1683 = .ok (.iload 5, 2) := by decide +kernel
theorem dL_law_1685 : decode cL_law 1685 = .ok (.if_icmp .eq 5, 3) := by decide +kernel
theorem dL_law_1688 : decode cL_law 1688 = .ok (.iconst 0, 1) := by decide +kernel
theorem dL_law_1689 : decode cL_law 1689 = .ok (.ireturn, 1) := by decide +kernel
theorem dL_law_1690 : decode cL_law 1690 = .ok (.iload 5, 2) := by decide +kernel
theorem dL_law_1692 : decode cL_law 1692 = .ok (.ifCond .ne 15, 3) := by decide +kernel
theorem dL_law_1695 : decode cL_law 1695 = .ok (.aload_n 3, 1) := by decide +kernel
theorem dL_law_1696 : decode cL_law 1696 = .ok (.iconst 0, 1) := by decide +kernel
theorem dL_law_1697 : decode cL_law 1697 = .ok (.laload, 1) := by decide +kernel
theorem dL_law_1698 : decode cL_law 1698 = .ok (.iload 6, 2) := by decide +kernel
theorem dL_law_1700 : decode cL_law 1700 = .ok (.i2l, 1) := by decide +kernel
theorem dL_law_1701 : decode cL_law 1701 = .ok (.lcmp, 1) := by decide +kernel
theorem dL_law_1702 : decode cL_law 1702 = .ok (.ifCond .eq 5, 3) := by decide +kernel
theorem dL_law_1705 : decode cL_law 1705 = .ok (.iconst 0, 1) := by decide +kernel
theorem dL_law_1706 : decode cL_law 1706 = .ok (.ireturn, 1) := by decide +kernel
theorem dL_law_1707 : decode cL_law 1707 = .ok (.goto 251, 3) := by decide +kernel
theorem dL_law_1710 : decode cL_law 1710 = .ok (.aload_n 1, 1) := by decide +kernel
theorem dL_law_1711 : decode cL_law 1711 = .ok (.aload_n 0, 1) := by decide +kernel
theorem dL_law_1712 : decode cL_law 1712 = .ok (.iload 4, 2) := by decide +kernel
theorem dL_law_1714 : decode cL_law 1714 = .ok (.iconst 1, 1) := by decide +kernel
theorem dL_law_1715 : decode cL_law 1715 = .ok (.iadd, 1) := by decide +kernel
theorem dL_law_1716 : decode cL_law 1716 = .ok (.iaload, 1) := by decide +kernel
theorem dL_law_1717 : decode cL_law 1717 = .ok (.aload_n 0, 1) := by decide +kernel
theorem dL_law_1718 : decode cL_law 1718 = .ok (.iload 4, 2) := by decide +kernel
theorem dL_law_1720 : decode cL_law 1720 = .ok (.iconst 2, 1) := by decide +kernel
theorem dL_law_1721 : decode cL_law 1721 = .ok (.iadd, 1) := by decide +kernel
theorem dL_law_1722 : decode cL_law 1722 = .ok (.iaload, 1) := by decide +kernel
theorem dL_law_1723 : decode cL_law 1723 = .ok (.aload_n 3, 1) := by decide +kernel
theorem dL_law_1724 : decode cL_law 1724 = .ok (.invokestatic 191, 3) := by decide +kernel
theorem dL_law_1727 : decode cL_law 1727 = .ok (.istore 5, 2) := by decide +kernel
theorem dL_law_1729 : decode cL_law 1729 = .ok (.aload_n 2, 1) := by decide +kernel
theorem dL_law_1730 : decode cL_law 1730 = .ok (.aload_n 0, 1) := by decide +kernel
theorem dL_law_1731 : decode cL_law 1731 = .ok (.iload 4, 2) := by decide +kernel
theorem dL_law_1733 : decode cL_law 1733 = .ok (.iconst 1, 1) := by decide +kernel
theorem dL_law_1734 : decode cL_law 1734 = .ok (.iadd, 1) := by decide +kernel
theorem dL_law_1735 : decode cL_law 1735 = .ok (.iaload, 1) := by decide +kernel
theorem dL_law_1736 : decode cL_law 1736 = .ok (.aload_n 0, 1) := by decide +kernel
theorem dL_law_1737 : decode cL_law 1737 = .ok (.iload 4, 2) := by decide +kernel
theorem dL_law_1739 : decode cL_law 1739 = .ok (.iconst 2, 1) := by decide +kernel
theorem dL_law_1740 : decode cL_law 1740 = .ok (.iadd, 1) := by decide +kernel
theorem dL_law_1741 : decode cL_law 1741 = .ok (.iaload, 1) := by decide +kernel
theorem dL_law_1742 : decode cL_law 1742 = .ok (.invokevirtual 193, 3) := by decide +kernel
theorem dL_law_1745 : decode cL_law 1745 = .ok (.istore 6, 2) := by decide +kernel
theorem dL_law_1747 : decode cL_law 1747 = .ok (.aload_n 2, 1) := by decide +kernel
theorem dL_law_1748 : decode cL_law 1748 = .ok (.invokevirtual 109, 3) := by decide +kernel
theorem dL_law_1751 : decode cL_law 1751 = .ok (.iload 5, 2) := by decide +kernel
theorem dL_law_1753 : decode cL_law 1753 = .ok (.if_icmp .eq 5, 3) := by decide +kernel
theorem dL_law_1756 : decode cL_law 1756 = .ok (.iconst 0, 1) := by decide +kernel
theorem dL_law_1757 : decode cL_law 1757 = .ok (.ireturn, 1) := by decide +kernel
theorem dL_law_1758 : decode cL_law 1758 = .ok (.iload 5, 2) := by decide +kernel
theorem dL_law_1760 : decode cL_law 1760 = .ok (.ifCond .ne 15, 3) := by decide +kernel
theorem dL_law_1763 : decode cL_law 1763 = .ok (.aload_n 3, 1) := by decide +kernel
theorem dL_law_1764 : decode cL_law 1764 = .ok (.iconst 0, 1) := by decide +kernel
theorem dL_law_1765 : decode cL_law 1765 = .ok (.laload, 1) := by decide +kernel
theorem dL_law_1766 : decode cL_law 1766 = .ok (.iload 6, 2) := by decide +kernel
theorem dL_law_1768 : decode cL_law 1768 = .ok (.i2l, 1) := by decide +kernel
theorem dL_law_1769 : decode cL_law 1769 = .ok (.lcmp, 1) := by decide +kernel
theorem dL_law_1770 : decode cL_law 1770 = .ok (.ifCond .eq 5, 3) := by decide +kernel
theorem dL_law_1773 : decode cL_law 1773 = .ok (.iconst 0, 1) := by decide +kernel
theorem dL_law_1774 : decode cL_law 1774 = .ok (.ireturn, 1) := by decide +kernel
theorem dL_law_1775 : decode cL_law 1775 = .ok (.goto 183, 3) := by decide +kernel
theorem dL_law_1778 : decode cL_law 1778 = .ok (.aload_n 1, 1) := by decide +kernel
theorem dL_law_1779 : decode cL_law 1779 = .ok (.invokevirtual 194, 3) := by decide +kernel
theorem dL_law_1782 : decode cL_law 1782 = .ok (.aload_n 2, 1) := by decide +kernel
theorem dL_law_1783 : decode cL_law 1783 = .ok (.invokevirtual 197, 3) := by decide +kernel
theorem dL_law_1786 : decode cL_law 1786 = .ok (.if_icmp .eq 172, 3) := by decide +kernel
theorem dL_law_1789 : decode cL_law 1789 = .ok (.iconst 0, 1) := by decide +kernel
theorem dL_law_1790 : decode cL_law 1790 = .ok (.ireturn, 1) := by decide +kernel
theorem dL_law_1791 : decode cL_law 1791 = .ok (.aload_n 1, 1) := by decide +kernel
theorem dL_law_1792 : decode cL_law 1792 = .ok (.aload_n 0, 1) := by decide +kernel
theorem dL_law_1793 : decode cL_law 1793 = .ok (.iload 4, 2) := by decide +kernel
theorem dL_law_1795 : decode cL_law 1795 = .ok (.iconst 1, 1) := by decide +kernel
theorem dL_law_1796 : decode cL_law 1796 = .ok (.iadd, 1) := by decide +kernel
theorem dL_law_1797 : decode cL_law 1797 = .ok (.iaload, 1) := by decide +kernel
theorem dL_law_1798 : decode cL_law 1798 = .ok (.aload_n 3, 1) := by decide +kernel
theorem dL_law_1799 : decode cL_law 1799 = .ok (.invokestatic 198, 3) := by decide +kernel
theorem dL_law_1802 : decode cL_law 1802 = .ok (.istore 5, 2) := by decide +kernel
theorem dL_law_1804 : decode cL_law 1804 = .ok (.aload_n 2, 1) := by decide +kernel
theorem dL_law_1805 : decode cL_law 1805 = .ok (.aload_n 0, 1) := by decide +kernel
theorem dL_law_1806 : decode cL_law 1806 = .ok (.iload 4, 2) := by decide +kernel
theorem dL_law_1808 : decode cL_law 1808 = .ok (.iconst 1, 1) := by decide +kernel
theorem dL_law_1809 : decode cL_law 1809 = .ok (.iadd, 1) := by decide +kernel
theorem dL_law_1810 : decode cL_law 1810 = .ok (.iaload, 1) := by decide +kernel
theorem dL_law_1811 : decode cL_law 1811 = .ok (.invokevirtual 200, 3) := by decide +kernel
theorem dL_law_1814 : decode cL_law 1814 = .ok (.istore 6, 2) := by decide +kernel
theorem dL_law_1816 : decode cL_law 1816 = .ok (.aload_n 2, 1) := by decide +kernel
theorem dL_law_1817 : decode cL_law 1817 = .ok (.invokevirtual 109, 3) := by decide +kernel
theorem dL_law_1820 : decode cL_law 1820 = .ok (.iload 5, 2) := by decide +kernel
theorem dL_law_1822 : decode cL_law 1822 = .ok (.if_icmp .eq 5, 3) := by decide +kernel
theorem dL_law_1825 : decode cL_law 1825 = .ok (.iconst 0, 1) := by decide +kernel
theorem dL_law_1826 : decode cL_law 1826 = .ok (.ireturn, 1) := by decide +kernel
theorem dL_law_1827 : decode cL_law 1827 = .ok (.iload 5, 2) := by decide +kernel
theorem dL_law_1829 : decode cL_law 1829 = .ok (.ifCond .ne 15, 3) := by decide +kernel
theorem dL_law_1832 : decode cL_law 1832 = .ok (.aload_n 3, 1) := by decide +kernel
theorem dL_law_1833 : decode cL_law 1833 = .ok (.iconst 0, 1) := by decide +kernel
theorem dL_law_1834 : decode cL_law 1834 = .ok (.laload, 1) := by decide +kernel
theorem dL_law_1835 : decode cL_law 1835 = .ok (.iload 6, 2) := by decide +kernel
theorem dL_law_1837 : decode cL_law 1837 = .ok (.i2l, 1) := by decide +kernel
theorem dL_law_1838 : decode cL_law 1838 = .ok (.lcmp, 1) := by decide +kernel
theorem dL_law_1839 : decode cL_law 1839 = .ok (.ifCond .eq 5, 3) := by decide +kernel
theorem dL_law_1842 : decode cL_law 1842 = .ok (.iconst 0, 1) := by decide +kernel
theorem dL_law_1843 : decode cL_law 1843 = .ok (.ireturn, 1) := by decide +kernel
theorem dL_law_1844 : decode cL_law 1844 = .ok (.goto 114, 3) := by decide +kernel
theorem dL_law_1847 : decode cL_law 1847 = .ok (.aload_n 1, 1) := by decide +kernel
theorem dL_law_1848 : decode cL_law 1848 = .ok (.aload_n 0, 1) := by decide +kernel
theorem dL_law_1849 : decode cL_law 1849 = .ok (.iload 4, 2) := by decide +kernel
theorem dL_law_1851 : decode cL_law 1851 = .ok (.iconst 1, 1) := by decide +kernel
theorem dL_law_1852 : decode cL_law 1852 = .ok (.iadd, 1) := by decide +kernel
theorem dL_law_1853 : decode cL_law 1853 = .ok (.iaload, 1) := by decide +kernel
theorem dL_law_1854 : decode cL_law 1854 = .ok (.aload_n 3, 1) := by decide +kernel
theorem dL_law_1855 : decode cL_law 1855 = .ok (.invokestatic 201, 3) := by decide +kernel
theorem dL_law_1858 : decode cL_law 1858 = .ok (.istore 5, 2) := by decide +kernel
theorem dL_law_1860 : decode cL_law 1860 = .ok (.aload_n 2, 1) := by decide +kernel
theorem dL_law_1861 : decode cL_law 1861 = .ok (.aload_n 0, 1) := by decide +kernel
theorem dL_law_1862 : decode cL_law 1862 = .ok (.iload 4, 2) := by decide +kernel
theorem dL_law_1864 : decode cL_law 1864 = .ok (.iconst 1, 1) := by decide +kernel
theorem dL_law_1865 : decode cL_law 1865 = .ok (.iadd, 1) := by decide +kernel
theorem dL_law_1866 : decode cL_law 1866 = .ok (.iaload, 1) := by decide +kernel
theorem dL_law_1867 : decode cL_law 1867 = .ok (.invokevirtual 203, 3) := by decide +kernel
theorem dL_law_1870 : decode cL_law 1870 = .ok (.istore 6, 2) := by decide +kernel
theorem dL_law_1872 : decode cL_law 1872 = .ok (.aload_n 2, 1) := by decide +kernel
theorem dL_law_1873 : decode cL_law 1873 = .ok (.invokevirtual 109, 3) := by decide +kernel
theorem dL_law_1876 : decode cL_law 1876 = .ok (.iload 5, 2) := by decide +kernel
theorem dL_law_1878 : decode cL_law 1878 = .ok (.if_icmp .eq 5, 3) := by decide +kernel
theorem dL_law_1881 : decode cL_law 1881 = .ok (.iconst 0, 1) := by decide +kernel
theorem dL_law_1882 : decode cL_law 1882 = .ok (.ireturn, 1) := by decide +kernel
theorem dL_law_1883 : decode cL_law 1883 = .ok (.iload 5, 2) := by decide +kernel
theorem dL_law_1885 : decode cL_law 1885 = .ok (.ifCond .ne 15, 3) := by decide +kernel
theorem dL_law_1888 : decode cL_law 1888 = .ok (.aload_n 3, 1) := by decide +kernel
theorem dL_law_1889 : decode cL_law 1889 = .ok (.iconst 0, 1) := by decide +kernel
theorem dL_law_1890 : decode cL_law 1890 = .ok (.laload, 1) := by decide +kernel
theorem dL_law_1891 : decode cL_law 1891 = .ok (.iload 6, 2) := by decide +kernel
theorem dL_law_1893 : decode cL_law 1893 = .ok (.i2l, 1) := by decide +kernel
theorem dL_law_1894 : decode cL_law 1894 = .ok (.lcmp, 1) := by decide +kernel
theorem dL_law_1895 : decode cL_law 1895 = .ok (.ifCond .eq 5, 3) := by decide +kernel
theorem dL_law_1898 : decode cL_law 1898 = .ok (.iconst 0, 1) := by decide +kernel
theorem dL_law_1899 : decode cL_law 1899 = .ok (.ireturn, 1) := by decide +kernel
theorem dL_law_1900 : decode cL_law 1900 = .ok (.goto 58, 3) := by decide +kernel
theorem dL_law_1903 : decode cL_law 1903 = .ok (.aload_n 1, 1) := by decide +kernel
theorem dL_law_1904 : decode cL_law 1904 = .ok (.invokevirtual 204, 3) := by decide +kernel
theorem dL_law_1907 : decode cL_law 1907 = .ok (.dstore 5, 2) := by decide +kernel
theorem dL_law_1909 : decode cL_law 1909 = .ok (.aload_n 2, 1) := by decide +kernel
theorem dL_law_1910 : decode cL_law 1910 = .ok (.invokevirtual 208, 3) := by decide +kernel
theorem dL_law_1913 : decode cL_law 1913 = .ok (.dstore 7, 2) := by decide +kernel
theorem dL_law_1915 : decode cL_law 1915 = .ok (.dload 5, 2) := by decide +kernel
theorem dL_law_1917 : decode cL_law 1917 = .ok (.dload 7, 2) := by decide +kernel
theorem dL_law_1919 : decode cL_law 1919 = .ok (.dcmp .l, 1) := by decide +kernel
theorem dL_law_1920 : decode cL_law 1920 = .ok (.ifCond .eq 21, 3) := by decide +kernel
theorem dL_law_1923 : decode cL_law 1923 = .ok (.dload 5, 2) := by decide +kernel
theorem dL_law_1925 : decode cL_law 1925 = .ok (.dload 5, 2) := by decide +kernel
theorem dL_law_1927 : decode cL_law 1927 = .ok (.dcmp .l, 1) := by decide +kernel
theorem dL_law_1928 : decode cL_law 1928 = .ok (.ifCond .eq 11, 3) := by decide +kernel
theorem dL_law_1931 : decode cL_law 1931 = .ok (.dload 7, 2) := by decide +kernel
theorem dL_law_1933 : decode cL_law 1933 = .ok (.dload 7, 2) := by decide +kernel
theorem dL_law_1935 : decode cL_law 1935 = .ok (.dcmp .l, 1) := by decide +kernel
theorem dL_law_1936 : decode cL_law 1936 = .ok (.ifCond .ne 5, 3) := by decide +kernel
theorem dL_law_1939 : decode cL_law 1939 = .ok (.iconst 0, 1) := by decide +kernel
theorem dL_law_1940 : decode cL_law 1940 = .ok (.ireturn, 1) := by decide +kernel
theorem dL_law_1941 : decode cL_law 1941 = .ok (.goto 17, 3) := by decide +kernel
theorem dL_law_1944 : decode cL_law 1944 = .ok (.aload_n 1, 1) := by decide +kernel
theorem dL_law_1945 : decode cL_law 1945 = .ok (.invokevirtual 209, 3) := by decide +kernel
theorem dL_law_1948 : decode cL_law 1948 = .ok (.aload_n 2, 1) := by decide +kernel
theorem dL_law_1949 : decode cL_law 1949 = .ok (.invokevirtual 213, 3) := by decide +kernel
theorem dL_law_1952 : decode cL_law 1952 = .ok (.lcmp, 1) := by decide +kernel
theorem dL_law_1953 : decode cL_law 1953 = .ok (.ifCond .eq 5, 3) := by decide +kernel
theorem dL_law_1956 : decode cL_law 1956 = .ok (.iconst 0, 1) := by decide +kernel
theorem dL_law_1957 : decode cL_law 1957 = .ok (.ireturn, 1) := by decide +kernel
theorem dL_law_1958 : decode cL_law 1958 = .ok (.iinc 4 5, 3) := by decide +kernel
theorem dL_law_1961 : decode cL_law 1961 = .ok (.goto (-1938), 3) := by decide +kernel
theorem dL_law_1964 : decode cL_law 1964 = .ok (.iconst 1, 1) := by decide +kernel
theorem dL_law_1965 : decode cL_law 1965 = .ok (.ireturn, 1) := by decide +kernel
end
section
/-! THE JUDGEMENT J: a method's frame over a FLAT memory (cell, place -> whole number); shapes of cells are a fixed list. All rows below are proved from the kit's. -/
abbrev PV : Type := Int ⊕ Value
abbrev SH : Type := (Nat × List (Nat ⊕ Nat)) ⊕ (Nat × Nat)
abbrev Mem : Type := Nat → Int → Int
/-- name, bytes, locals, answer's type, room: frames, locals -/
abbrev MI : Type := MethodName × ByteArray × Nat × Option FieldType × Nat × Nat
abbrev mY (M : MI) : MethodName := M.1
abbrev mB (M : MI) : ByteArray := M.2.1
abbrev mL (M : MI) : Nat := M.2.2.1
abbrev mR (M : MI) : Option FieldType := M.2.2.2.1
abbrev mF (M : MI) : Nat := M.2.2.2.2.1
abbrev mW (M : MI) : Nat := M.2.2.2.2.2
/-- launch; ids of classes and field places; ids of array classes; the first owned address; arrays from outside (address, length, content); the cells' addresses -/
abbrev GX : Type := Launch × va_G × (Nat → ClassId) × Nat × (Nat → Nat × Nat × (Int → Int)) × (Nat → Nat)
abbrev gL (G : GX) : Launch := G.1
abbrev gD (G : GX) : va_G := G.2.1
abbrev gC (G : GX) : Nat → ClassId := G.2.2.1
abbrev gZ (G : GX) : Nat := G.2.2.2.1
abbrev gE (G : GX) : Nat → Nat × Nat × (Int → Int) := G.2.2.2.2.1
abbrev gA (G : GX) : Nat → Nat := G.2.2.2.2.2
def jI (x : Int) : Int32 := Int32.ofInt x
def inI (x : Int) : Prop := -2147483648 ≤ x ∧ x < 2147483648
def jv (G : GX) : PV → Value
  | .inl i => .int (jI i)
  | .inr (.ref k) => .ref (gA G k)
  | .inr (.retAddr j) => .ref (gE G j).1
  | .inr v => v
def jcat : PV → Nat
  | .inr (.long _) => 2
  | .inr (.double _) => 2
  | _ => 1
theorem jcat_eq (G : GX) (v : PV) : (jv G v).category = jcat v := by
  cases v with
  | inl i => rfl
  | inr v => cases v <;> rfl
def jcats (S : List PV) : Nat := (S.map jcat).sum
theorem jcats_eq (G : GX) (S : List PV) : ((S.map (jv G)).map fun v => v.category).sum = jcats S := by
  unfold jcats
  rw [List.map_map]
  congr 1
  exact List.map_congr_left fun v _ => jcat_eq G v
/-- the locals that are known, with their places -/
def jl (G : GX) : Nat → List (Option PV) → List (Nat × Value)
  | _, [] => []
  | i, none :: r => jl G (i + 1) r
  | i, some v :: r => (i, jv G v) :: jl G (i + 1) r
theorem jl_mem {G : GX} : ∀ (L : List (Option PV)) (i : Nat) (q : Nat × Value), q ∈ jl G i L ↔ ∃ (k : Nat) (v : PV), L[k]? = some (some v) ∧ q = (i + k, jv G v)
  | [], i, q => by simp [jl]
  | none :: r, i, q => by
    rw [jl, jl_mem r (i + 1) q]
    constructor
    · rintro ⟨k, v, h1, h2⟩
      exact ⟨k + 1, v, by simpa using h1, by rw [h2]; congr 1; omega⟩
    · rintro ⟨k, v, h1, h2⟩
      cases k with
      | zero => simp at h1
      | succ k => exact ⟨k, v, by simpa using h1, by rw [h2]; congr 1; omega⟩
  | some w :: r, i, q => by
    rw [jl, List.mem_cons, jl_mem r (i + 1) q]
    constructor
    · rintro (h | ⟨k, v, h1, h2⟩)
      · exact ⟨0, w, by simp, by rw [h]; rfl⟩
      · exact ⟨k + 1, v, by simpa using h1, by rw [h2]; congr 1; omega⟩
    · rintro ⟨k, v, h1, h2⟩
      cases k with
      | zero =>
        simp at h1
        left; rw [h2, h1]; rfl
      | succ k => exact Or.inr ⟨k, v, by simpa using h1, by rw [h2]; congr 1; omega⟩
def jfv (G : GX) : (Nat ⊕ Nat) → Int → Value
  | .inl 0, x => .int (jI x)
  | .inl 1, x => .long (Int64.ofInt x)
  | .inl _, _ => .null
  | .inr r, _ => .ref (gA G r)
def jfl (G : GX) (ks : List (Nat ⊕ Nat)) (f : Int → Int) : List Value := (List.range ks.length).map fun j => jfv G (ks.getD j (.inl 0)) (f (j : Int))
def jrf (G : GX) (x : Int) : Option Nat := if x < 0 then none else some (gA G x.toNat)
def jel (G : GX) (s : SH) (f : Int → Int) : va_E := match s with
  | .inl q => .inr (q.1, jfl G q.2 f)
  | .inr (0, n) => .inl (gC G 0, n, .inl (fun i => jI (f (i : Int))))
  | .inr (1, n) => .inl (gC G 1, n, .inr (.inl (fun i => Int64.ofInt (f (i : Int)))))
  | .inr (_, n) => .inl (gC G 2, n, .inr (.inr (.inr (.inr (fun i => jrf G (f (i : Int)))))))
def jws (G : GX) (sh : List SH) (m : Mem) : va_W := (List.range sh.length).map fun k => (gA G k, jel G (sh.getD k (.inr (0, 0))) (m k))
def jty (G : GX) : List (ClassId × FieldType) := [(gC G 0, .int), (gC G 1, .long), (gC G 2, .object RX3)]
def jA (G : GX) : Nat → Prop := fun q => gZ G ≤ q
def jstrs : List (Nat × String) := [(395, "there is no such core"), (400, "there is no such tenant"), (403, "there is no such insurer"), (405, "there is no such setting"), (409, "an argument is not one that is allowed"), (414, "the present state does not allow this")]
def jnest : List (String × Nat × MethodName) := [(RX3, 44, yX5_init), (RX3, 51, yX2_init), (RX3, 65, yX7_copyRow), (RX7, 28, yX6_init), (RX6, 33, yX7_within), (RX0, 44, yX7_maskOf), (RX1, 32, yX7_isCore), (RX0, 54, yX7_isCore), (RX0, 40, yX7_copyRow), (RX1, 28, yX7_copyRow), (RX5, 25, yX7_copyRow), (RX2, 31, yX7_copyRow), (RX3, 206, yX7_isCore), (RX3, 175, yX7_linesOf), (RX3, 178, yX7_maskOf)]
/-- what stands outside: the static arrays, what a throw reads, texts, links of nest mates -/
def jGF (G : GX) (U : State) (H : Heap) : Prop :=
  va_Z RX7 "FIRST_SETTINGS" "[I" (.ref (gE G 0).1) (jA G) U H ∧ va_Z RX7 "MOST_SETTINGS" "[I" (.ref (gE G 1).1) (jA G) U H ∧
  (∀ j, j < 3 → va_T .int (gE G j).1 (gE G j).2.1 (fun i => .int (jI ((gE G j).2.2 (i : Int)))) (jA G) U H) ∧
  vx_Zq Bundle.tN "UNASSIGNED_STACK" Bundle.steD (jA G) U H ∧ vx_Zq Bundle.tN "SUPPRESSED_SENTINEL" Bundle.listD (jA G) U H ∧
  (∀ q ∈ jstrs, ∃ a, vk_R RX7 q.1 q.2 a U) ∧ (∀ q ∈ jnest, va_Nw (.methodLinkNest q.1 q.2.1 q.2.2 RX7) U) ∧ va_Nw (.fieldLinkNest RX3 62 RX7 "FIRST_SETTINGS" "[I" RX7) U
def jSF (G : GX) (U : State) : Prop := va_K (gD G) vwCl (jty G) U ∧ jGF G U U.heap
/-- the words that all methods have -/
def jall : List Cond := lw_tbl.filter goodWord
def jAp (G : GX) (n : Nat) : Prop := (∀ i j, i < n → j < n → gA G i = gA G j → i = j) ∧ ∀ i, i < n → gZ G ≤ gA G i
theorem jws_at {G : GX} {sh : List SH} {m : Mem} {k : Nat} {x : SH} (h : sh[k]? = some x) : (jws G sh m)[k]? = some (gA G k, jel G x (m k)) := by
  have hk : k < sh.length := (List.getElem?_eq_some_iff.mp h).1
  unfold jws
  rw [List.getElem?_map, List.getElem?_range hk]
  simp [List.getD, h]
theorem jws_len {G : GX} {sh : List SH} {m : Mem} : (jws G sh m).length = sh.length := by simp [jws]
theorem jD_of {G : GX} {sh : List SH} (h : jAp G sh.length) (m : Mem) : va_D (jA G) (jws G sh m) := by
  have key : ∀ (k : Nat) (q : Nat × va_E), (jws G sh m)[k]? = some q → k < sh.length ∧ q.1 = gA G k := by
    intro k q hq
    have hk : k < sh.length := by
      have := (List.getElem?_eq_some_iff.mp hq).1
      rwa [jws_len] at this
    have := jws_at (G := G) (m := m) (List.getElem?_eq_getElem hk)
    rw [this] at hq
    cases hq
    exact ⟨hk, rfl⟩
  refine ⟨fun i j p q hp hq e => ?_, fun k q hq => ?_⟩
  · obtain ⟨h1, h2⟩ := key i p hp
    obtain ⟨h3, h4⟩ := key j q hq
    exact h.1 i j h1 h3 (by rw [← h2, ← h4]; exact e)
  · obtain ⟨h1, h2⟩ := key k q hq
    show gZ G ≤ q.1
    rw [h2]
    exact h.2 k h1
/-- a place written -/
def up (m : Mem) (k : Nat) (j v : Int) : Mem := fun a b => if a = k ∧ b = j then v else m a b
theorem jws_up {G : GX} {sh : List SH} {m : Mem} {k : Nat} {j v : Int} {x : SH} {e : va_E} (h : sh[k]? = some x) (he : jel G x (up m k j v k) = e) : (jws G sh m).set k (gA G k, e) = jws G sh (up m k j v) := by
  have hk : k < sh.length := (List.getElem?_eq_some_iff.mp h).1
  apply List.ext_getElem?
  intro i
  rw [List.getElem?_set]
  by_cases hi : k = i
  · subst hi
    rw [if_pos rfl, jws_len, if_pos hk, jws_at h, he]
  · rw [if_neg hi]
    by_cases hil : i < sh.length
    · rw [jws_at (List.getElem?_eq_getElem hil), jws_at (List.getElem?_eq_getElem hil)]
      have : up m k j v i = m i := by funext b; exact if_neg (fun q => hi q.1.symm)
      rw [this]
    · rw [List.getElem?_eq_none (by rw [jws_len]; omega), List.getElem?_eq_none (by rw [jws_len]; omega)]
/-- the fixed facts of one activation -/
def Cx (G : GX) (sh : List SH) (M : MI) (mc ms : Nat) (p : Program) (s : State) (mm : MethodId) (args : Array Value) (meth : Method) (c : Code) (R : Room) : Prop :=
  p.tables.exec = Jvm.exec ∧ c.code = mB M ∧ meth.sig.returnType = mR M ∧ c.maxLocals = mL M ∧ s.vm.findClass (mY M).cls = some mm.cls ∧ meth.locks = false ∧
  (∀ w ∈ jall, w.before args s = true) ∧ jSF G s ∧ gZ G ≤ s.heap.size ∧ jAp G sh.length ∧ (gL G).flags = flags0 ∧ R = { frames := mF M, locals := mW M, cells := mc, slots := ms }
abbrev FinT : Type := List Frame → Array Value → State → Code → Method → State → Prop
def J (G : GX) (sh : List SH) (M : MI) (mc ms : Nat) (F : FinT) (pc : Nat) (L : List (Option PV)) (S : List PV) (m : Mem) (k n : Nat) : Prop :=
  ∀ (p : Program) (e : Env) (s : State) (mm : MethodId) (args : Array Value) (below : List Frame) (meth : Method) (c : Code) (R : Room), Cx G sh M mc ms p s mm args meth c R →
  ∀ (H : Heap) (locs : List Loc) (ls : Array Slot), va_P (gD G) vwCl (jws G sh m) H → va_S (jA G) s.heap H locs → lv_has ls (mL M) (jl G 0 L) →
    W p (gL G) e R s mm args below meth c H locs k n (F below args s c meth) (F0 mm pc ls (S.map (jv G)))
section
variable {G : GX} {sh : List SH} {M : MI} {p : Program} {s : State} {mm : MethodId} {args : Array Value} {meth : Method} {c : Code} {R : Room} {mc ms : Nat}
theorem Cx.x (C : Cx G sh M mc ms p s mm args meth c R) : p.tables.exec = Jvm.exec := C.1
theorem Cx.b (C : Cx G sh M mc ms p s mm args meth c R) : c.code = mB M := C.2.1
theorem Cx.r (C : Cx G sh M mc ms p s mm args meth c R) : meth.sig.returnType = mR M := C.2.2.1
theorem Cx.ml (C : Cx G sh M mc ms p s mm args meth c R) : c.maxLocals = mL M := C.2.2.2.1
theorem Cx.own (C : Cx G sh M mc ms p s mm args meth c R) : s.vm.findClass (mY M).cls = some mm.cls := C.2.2.2.2.1
theorem Cx.lk (C : Cx G sh M mc ms p s mm args meth c R) : meth.locks = false := C.2.2.2.2.2.1
theorem Cx.ts (C : Cx G sh M mc ms p s mm args meth c R) : ∀ w ∈ jall, w.before args s = true := C.2.2.2.2.2.2.1
theorem Cx.sf (C : Cx G sh M mc ms p s mm args meth c R) : jSF G s := C.2.2.2.2.2.2.2.1
theorem Cx.z (C : Cx G sh M mc ms p s mm args meth c R) : gZ G ≤ s.heap.size := C.2.2.2.2.2.2.2.2.1
theorem Cx.ap (C : Cx G sh M mc ms p s mm args meth c R) : jAp G sh.length := C.2.2.2.2.2.2.2.2.2.1
theorem Cx.fl (C : Cx G sh M mc ms p s mm args meth c R) : (gL G).flags = flags0 := C.2.2.2.2.2.2.2.2.2.2.1
theorem Cx.room (C : Cx G sh M mc ms p s mm args meth c R) : R = { frames := mF M, locals := mW M, cells := mc, slots := ms } := C.2.2.2.2.2.2.2.2.2.2.2
theorem Cx.k (C : Cx G sh M mc ms p s mm args meth c R) : va_K (gD G) vwCl (jty G) s := C.sf.1
theorem Cx.d (C : Cx G sh M mc ms p s mm args meth c R) (m : Mem) : va_D (jA G) (jws G sh m) := jD_of C.ap m
theorem jl_get {ls : Array Slot} {n : Nat} {L : List (Option PV)} (h : lv_has ls n (jl G 0 L)) {k : Nat} {v : PV} (hk : L[k]? = some (some v)) : ls[k]? = some (.val (jv G v)) :=
  h.2.2 (k, jv G v) ((jl_mem L 0 (k, jv G v)).mpr ⟨k, v, hk, by rw [Nat.zero_add]⟩)
/-- ahead of a store: no long lies just before the place -/
def jprev (i : Nat) (L : List (Option PV)) : Bool := match i with
  | 0 => true
  | j + 1 => match L[j]? with
    | some (some v) => jcat v == 1
    | _ => true
theorem jl_store {ls : Array Slot} {n i : Nat} {L : List (Option PV)} {v : PV} (hp : jprev i L = true) (h : lv_has ls n ((i, jv G v) :: (jl G 0 L).filter (fun q => !(q.1 == i) && !(q.1 + 1 == i && q.2.category == 2)))) : lv_has ls n (jl G 0 (L.set i (some v))) := by
  refine ⟨h.1, h.2.1, fun q hq => ?_⟩
  obtain ⟨k, w, hk, rfl⟩ := (jl_mem _ 0 q).mp hq
  rw [Nat.zero_add]
  rw [List.getElem?_set] at hk
  apply h.2.2
  by_cases hki : i = k
  · subst hki
    rw [if_pos rfl] at hk
    split at hk
    · cases hk; exact List.mem_cons_self
    · cases hk
  · rw [if_neg hki] at hk
    refine List.mem_cons_of_mem _ (List.mem_filter.mpr ⟨(jl_mem L 0 _).mpr ⟨k, w, hk, by rw [Nat.zero_add]⟩, ?_⟩)
    have h1 : ¬ k = i := fun z => hki z.symm
    by_cases h2 : k + 1 = i
    · subst h2
      simp only [jprev, hk, beq_iff_eq] at hp
      simp [jcat_eq, hp, h1]
    · simp [h1, h2]
theorem jl_store2 {ls : Array Slot} {n i : Nat} {L : List (Option PV)} {v : PV} (hp : jprev i L = true) (h : lv_has ls n ((i, jv G v) :: (jl G 0 L).filter (fun q => !(q.1 == i) && (!(q.1 == i + 1) && !(q.1 + 1 == i && q.2.category == 2))))) : lv_has ls n (jl G 0 ((L.set i (some v)).set (i + 1) none)) := by
  refine ⟨h.1, h.2.1, fun q hq => ?_⟩
  obtain ⟨k, w, hk, rfl⟩ := (jl_mem _ 0 q).mp hq
  rw [Nat.zero_add]
  rw [List.getElem?_set, List.getElem?_set] at hk
  apply h.2.2
  by_cases hk1 : i + 1 = k
  · rw [if_pos hk1] at hk
    split at hk <;> cases hk
  · rw [if_neg hk1] at hk
    by_cases hki : i = k
    · subst hki
      rw [if_pos rfl] at hk
      split at hk
      · cases hk; exact List.mem_cons_self
      · cases hk
    · rw [if_neg hki] at hk
      refine List.mem_cons_of_mem _ (List.mem_filter.mpr ⟨(jl_mem L 0 _).mpr ⟨k, w, hk, by rw [Nat.zero_add]⟩, ?_⟩)
      have h1 : ¬ k = i := fun z => hki z.symm
      have h3 : ¬ k = i + 1 := fun z => hk1 z.symm
      by_cases h2 : k + 1 = i
      · subst h2
        simp only [jprev, hk, beq_iff_eq] at hp
        simp [jcat_eq, hp]
        omega
      · simp [h1, h2, h3]
theorem jl_weak {ls : Array Slot} {n : Nat} {L L' : List (Option PV)} (h : lv_has ls n (jl G 0 L)) (hL : ∀ (k : Nat) (v : PV), L'[k]? = some (some v) → L[k]? = some (some v)) : lv_has ls n (jl G 0 L') := by
  refine ⟨h.1, h.2.1, fun q hq => ?_⟩
  obtain ⟨k, w, hk, rfl⟩ := (jl_mem _ 0 q).mp hq
  exact h.2.2 _ ((jl_mem L 0 _).mpr ⟨k, w, hL k w hk, rfl⟩)
end
/-- a whole number as 32 bits read it -/
def wr (x : Int) : Int := (jI x).toInt
theorem wr_id {x : Int} (h : inI x) : wr x = x := by
  unfold wr jI
  exact Int32.toInt_ofInt_of_le (by have := h.1; omega) (by have := h.2; omega)
theorem wr_in (x : Int) : inI (wr x) := ⟨Int32.le_toInt _, Int32.toInt_lt _⟩
theorem wr_wr (x : Int) : wr (wr x) = wr x := wr_id (wr_in x)
theorem jI_wr (x : Int) : jI (wr x) = jI x := by unfold wr jI; exact Int32.ofInt_toInt _
theorem jI_inj {x y : Int} : jI x = jI y ↔ wr x = wr y := by unfold wr; exact Int32.toInt_inj.symm
def bI (b : Bool) : Int := if b then 1 else 0
end
