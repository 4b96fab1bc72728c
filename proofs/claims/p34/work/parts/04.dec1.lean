theorem dX6_put_4 : decode cX6_put 4 = .ok (.bipush 60, 2) := by decide +kernel
theorem dX6_put_6 : decode cX6_put 6 = .ok (.if_icmp .ge 23, 3) := by decide +kernel
theorem dX6_put_9 : decode cX6_put 9 = .ok (.aload_n 0, 1) := by decide +kernel
theorem dX6_put_10 : decode cX6_put 10 = .ok (.getfield 15, 3) := by decide +kernel
theorem dX6_put_13 : decode cX6_put 13 = .ok (.aload_n 0, 1) := by decide +kernel
theorem dX6_put_14 : decode cX6_put 14 = .ok (.getfield 9, 3) := by decide +kernel
theorem dX6_put_17 : decode cX6_put 17 = .ok (.iload_n 1, 1) := by decide +kernel
theorem dX6_put_18 : decode cX6_put 18 = .ok (.iastore, 1) := by decide +kernel
theorem dX6_put_19 : decode cX6_put 19 = .ok (.aload_n 0, 1) := by decide +kernel
theorem dX6_put_20 : decode cX6_put 20 = .ok (.dup, 1) := by decide +kernel
theorem dX6_put_21 : decode cX6_put 21 = .ok (.getfield 9, 3) := by decide +kernel
theorem dX6_put_24 : decode cX6_put 24 = .ok (.iconst 1, 1) := by decide +kernel
theorem dX6_put_25 : decode cX6_put 25 = .ok (.iadd, 1) := by decide +kernel
theorem dX6_put_26 : decode cX6_put 26 = .ok (.putfield 9, 3) := by decide +kernel
theorem dX6_put_29 : decode cX6_put 29 = .ok (.return_, 1) := by decide +kernel
theorem dX6_codeAt_0 : decode cX6_codeAt 0 = .ok (.iconst 0, 1) := by decide +kernel
theorem dX6_codeAt_1 : decode cX6_codeAt 1 = .ok (.iload_n 1, 1) := by decide +kernel
theorem dX6_codeAt_2 : decode cX6_codeAt 2 = .ok (.if_icmp .gt 20, 3) := by decide +kernel
theorem dX6_codeAt_5 : decode cX6_codeAt 5 = .ok (.iload_n 1, 1) := by decide +kernel
theorem dX6_codeAt_6 : decode cX6_codeAt 6 = .ok (.aload_n 0, 1) := by decide +kernel
theorem dX6_codeAt_7 : decode cX6_codeAt 7 = .ok (.getfield 9, 3) := by decide +kernel
theorem dX6_codeAt_10 : decode cX6_codeAt 10 = .ok (.if_icmp .ge 12, 3) := by decide +kernel
theorem dX6_codeAt_13 : decode cX6_codeAt 13 = .ok (.aload_n 0, 1) := by decide +kernel
theorem dX6_codeAt_14 : decode cX6_codeAt 14 = .ok (.getfield 15, 3) := by decide +kernel
theorem dX6_codeAt_17 : decode cX6_codeAt 17 = .ok (.iload_n 1, 1) := by decide +kernel
theorem dX6_codeAt_18 : decode cX6_codeAt 18 = .ok (.iaload, 1) := by decide +kernel
theorem dX6_codeAt_19 : decode cX6_codeAt 19 = .ok (.goto 4, 3) := by decide +kernel
theorem dX6_codeAt_22 : decode cX6_codeAt 22 = .ok (.iconst 0, 1) := by decide +kernel
theorem dX6_codeAt_23 : decode cX6_codeAt 23 = .ok (.ireturn, 1) := by decide +kernel
theorem dX6_digitAt_0 : decode cX6_digitAt 0 = .ok (.aload_n 0, 1) := by decide +kernel
theorem dX6_digitAt_1 : decode cX6_digitAt 1 = .ok (.iload_n 1, 1) := by decide +kernel
theorem dX6_digitAt_2 : decode cX6_digitAt 2 = .ok (.invokevirtual 19, 3) := by decide +kernel
theorem dX6_digitAt_5 : decode cX6_digitAt 5 = .ok (.bipush 48, 2) := by decide +kernel
theorem dX6_digitAt_7 : decode cX6_digitAt 7 = .ok (.isub, 1) := by decide +kernel
theorem dX6_digitAt_8 : decode cX6_digitAt 8 = .ok (.ireturn, 1) := by decide +kernel
theorem dX6_coreAt_0 : decode cX6_coreAt 0 = .ok (.bipush 8, 2) := by decide +kernel
theorem dX6_coreAt_2 : decode cX6_coreAt 2 = .ok (.aload_n 0, 1) := by decide +kernel
theorem dX6_coreAt_3 : decode cX6_coreAt 3 = .ok (.iload_n 1, 1) := by decide +kernel
theorem dX6_coreAt_4 : decode cX6_coreAt 4 = .ok (.invokevirtual 23, 3) := by decide +kernel
theorem dX6_coreAt_7 : decode cX6_coreAt 7 = .ok (.imul, 1) := by decide +kernel
theorem dX6_coreAt_8 : decode cX6_coreAt 8 = .ok (.aload_n 0, 1) := by decide +kernel
theorem dX6_coreAt_9 : decode cX6_coreAt 9 = .ok (.iload_n 1, 1) := by decide +kernel
theorem dX6_coreAt_10 : decode cX6_coreAt 10 = .ok (.iconst 1, 1) := by decide +kernel
theorem dX6_coreAt_11 : decode cX6_coreAt 11 = .ok (.iadd, 1) := by decide +kernel
theorem dX6_coreAt_12 : decode cX6_coreAt 12 = .ok (.invokevirtual 23, 3) := by decide +kernel
theorem dX6_coreAt_15 : decode cX6_coreAt 15 = .ok (.iadd, 1) := by decide +kernel
theorem dX6_coreAt_16 : decode cX6_coreAt 16 = .ok (.ireturn, 1) := by decide +kernel
theorem dX6_stepLength_0 : decode cX6_stepLength 0 = .ok (.aload_n 0, 1) := by decide +kernel
theorem dX6_stepLength_1 : decode cX6_stepLength 1 = .ok (.iload_n 1, 1) := by decide +kernel
theorem dX6_stepLength_2 : decode cX6_stepLength 2 = .ok (.invokevirtual 19, 3) := by decide +kernel
theorem dX6_stepLength_5 : decode cX6_stepLength 5 = .ok (.lookupswitch 41 #[(114, 35), (116, 39), (119, 37)], 35) := by decide +kernel
theorem dX6_stepLength_40 : decode cX6_stepLength 40 = .ok (.iconst 3, 1) := by decide +kernel
theorem dX6_stepLength_41 : decode cX6_stepLength 41 = .ok (.ireturn, 1) := by decide +kernel
theorem dX6_stepLength_42 : decode cX6_stepLength 42 = .ok (.iconst 5, 1) := by decide +kernel
theorem dX6_stepLength_43 : decode cX6_stepLength 43 = .ok (.ireturn, 1) := by decide +kernel
theorem dX6_stepLength_44 : decode cX6_stepLength 44 = .ok (.iconst 2, 1) := by decide +kernel
theorem dX6_stepLength_45 : decode cX6_stepLength 45 = .ok (.ireturn, 1) := by decide +kernel
theorem dX6_stepLength_46 : decode cX6_stepLength 46 = .ok (.iconst 1, 1) := by decide +kernel
theorem dX6_stepLength_47 : decode cX6_stepLength 47 = .ok (.ireturn, 1) := by decide +kernel
theorem dX6_isProgram_0 : decode cX6_isProgram 0 = .ok (.iconst 1, 1) := by decide +kernel
theorem dX6_isProgram_1 : decode cX6_isProgram 1 = .ok (.istore_n 1, 1) := by decide +kernel
theorem dX6_isProgram_2 : decode cX6_isProgram 2 = .ok (.iconst 0, 1) := by decide +kernel
theorem dX6_isProgram_3 : decode cX6_isProgram 3 = .ok (.istore_n 2, 1) := by decide +kernel
theorem dX6_isProgram_4 : decode cX6_isProgram 4 = .ok (.iload_n 2, 1) := by decide +kernel
theorem dX6_isProgram_5 : decode cX6_isProgram 5 = .ok (.aload_n 0, 1) := by decide +kernel
theorem dX6_isProgram_6 : decode cX6_isProgram 6 = .ok (.getfield 9, 3) := by decide +kernel
theorem dX6_isProgram_9 : decode cX6_isProgram 9 = .ok (.if_icmp .ge 19, 3) := by decide +kernel
theorem dX6_isProgram_12 : decode cX6_isProgram 12 = .ok (.iload_n 1, 1) := by decide +kernel
theorem dX6_isProgram_13 : decode cX6_isProgram 13 = .ok (.aload_n 0, 1) := by decide +kernel
theorem dX6_isProgram_14 : decode cX6_isProgram 14 = .ok (.iload_n 2, 1) := by decide +kernel
theorem dX6_isProgram_15 : decode cX6_isProgram 15 = .ok (.invokevirtual 19, 3) := by decide +kernel
theorem dX6_isProgram_18 : decode cX6_isProgram 18 = .ok (.invokestatic 26, 3) := by decide +kernel
theorem dX6_isProgram_21 : decode cX6_isProgram 21 = .ok (.istore_n 1, 1) := by decide +kernel
theorem dX6_isProgram_22 : decode cX6_isProgram 22 = .ok (.iinc 2 1, 3) := by decide +kernel
theorem dX6_isProgram_25 : decode cX6_isProgram 25 = .ok (.goto (-21), 3) := by decide +kernel
theorem dX6_isProgram_28 : decode cX6_isProgram 28 = .ok (.iload_n 1, 1) := by decide +kernel
theorem dX6_isProgram_29 : decode cX6_isProgram 29 = .ok (.iconst 2, 1) := by decide +kernel
theorem dX6_isProgram_30 : decode cX6_isProgram 30 = .ok (.if_icmp .ne 7, 3) := by decide +kernel
theorem dX6_isProgram_33 : decode cX6_isProgram 33 = .ok (.iconst 1, 1) := by decide +kernel
theorem dX6_isProgram_34 : decode cX6_isProgram 34 = .ok (.goto 4, 3) := by decide +kernel
theorem dX6_isProgram_37 : decode cX6_isProgram 37 = .ok (.iconst 0, 1) := by decide +kernel
theorem dX6_isProgram_38 : decode cX6_isProgram 38 = .ok (.ireturn, 1) := by decide +kernel
theorem dX6_wantedBehind_0 : decode cX6_wantedBehind 0 = .ok (.iload_n 0, 1) := by decide +kernel
theorem dX6_wantedBehind_1 : decode cX6_wantedBehind 1 = .ok (.tableswitch 185 1 9 #[51, 56, 68, 85, 102, 120, 138, 151, 168], 51) := by decide +kernel
theorem dX6_wantedBehind_52 : decode cX6_wantedBehind 52 = .ok (.iload_n 1, 1) := by decide +kernel
theorem dX6_wantedBehind_53 : decode cX6_wantedBehind 53 = .ok (.invokestatic 30, 3) := by decide +kernel
theorem dX6_wantedBehind_56 : decode cX6_wantedBehind 56 = .ok (.ireturn, 1) := by decide +kernel
theorem dX6_wantedBehind_57 : decode cX6_wantedBehind 57 = .ok (.iload_n 1, 1) := by decide +kernel
theorem dX6_wantedBehind_58 : decode cX6_wantedBehind 58 = .ok (.bipush 59, 2) := by decide +kernel
theorem dX6_wantedBehind_60 : decode cX6_wantedBehind 60 = .ok (.if_icmp .ne 7, 3) := by decide +kernel
theorem dX6_wantedBehind_63 : decode cX6_wantedBehind 63 = .ok (.iconst 1, 1) := by decide +kernel
theorem dX6_wantedBehind_64 : decode cX6_wantedBehind 64 = .ok (.goto 4, 3) := by decide +kernel
theorem dX6_wantedBehind_67 : decode cX6_wantedBehind 67 = .ok (.iconst 0, 1) := by decide +kernel
theorem dX6_wantedBehind_68 : decode cX6_wantedBehind 68 = .ok (.ireturn, 1) := by decide +kernel
theorem dX6_wantedBehind_69 : decode cX6_wantedBehind 69 = .ok (.iload_n 1, 1) := by decide +kernel
theorem dX6_wantedBehind_70 : decode cX6_wantedBehind 70 = .ok (.bipush 48, 2) := by decide +kernel
theorem dX6_wantedBehind_72 : decode cX6_wantedBehind 72 = .ok (.bipush 55, 2) := by decide +kernel
theorem dX6_wantedBehind_74 : decode cX6_wantedBehind 74 = .ok (.invokestatic 33, 3) := by decide +kernel
theorem dX6_wantedBehind_77 : decode cX6_wantedBehind 77 = .ok (.ifCond .eq 7, 3) := by decide +kernel
theorem dX6_wantedBehind_80 : decode cX6_wantedBehind 80 = .ok (.iconst 4, 1) := by decide +kernel
theorem dX6_wantedBehind_81 : decode cX6_wantedBehind 81 = .ok (.goto 4, 3) := by decide +kernel
theorem dX6_wantedBehind_84 : decode cX6_wantedBehind 84 = .ok (.iconst 0, 1) := by decide +kernel
theorem dX6_wantedBehind_85 : decode cX6_wantedBehind 85 = .ok (.ireturn, 1) := by decide +kernel
theorem dX6_wantedBehind_86 : decode cX6_wantedBehind 86 = .ok (.iload_n 1, 1) := by decide +kernel
theorem dX6_wantedBehind_87 : decode cX6_wantedBehind 87 = .ok (.bipush 48, 2) := by decide +kernel
theorem dX6_wantedBehind_89 : decode cX6_wantedBehind 89 = .ok (.bipush 55, 2) := by decide +kernel
theorem dX6_wantedBehind_91 : decode cX6_wantedBehind 91 = .ok (.invokestatic 33, 3) := by decide +kernel
theorem dX6_wantedBehind_94 : decode cX6_wantedBehind 94 = .ok (.ifCond .eq 7, 3) := by decide +kernel
theorem dX6_wantedBehind_97 : decode cX6_wantedBehind 97 = .ok (.iconst 2, 1) := by decide +kernel
theorem dX6_wantedBehind_98 : decode cX6_wantedBehind 98 = .ok (.goto 4, 3) := by decide +kernel
theorem dX6_wantedBehind_101 : decode cX6_wantedBehind 101 = .ok (.iconst 0, 1) := by decide +kernel
theorem dX6_wantedBehind_102 : decode cX6_wantedBehind 102 = .ok (.ireturn, 1) := by decide +kernel
theorem dX6_wantedBehind_103 : decode cX6_wantedBehind 103 = .ok (.iload_n 1, 1) := by decide +kernel
theorem dX6_wantedBehind_104 : decode cX6_wantedBehind 104 = .ok (.bipush 48, 2) := by decide +kernel
theorem dX6_wantedBehind_106 : decode cX6_wantedBehind 106 = .ok (.bipush 55, 2) := by decide +kernel
theorem dX6_wantedBehind_108 : decode cX6_wantedBehind 108 = .ok (.invokestatic 33, 3) := by decide +kernel
theorem dX6_wantedBehind_111 : decode cX6_wantedBehind 111 = .ok (.ifCond .eq 8, 3) := by decide +kernel
theorem dX6_wantedBehind_114 : decode cX6_wantedBehind 114 = .ok (.bipush 6, 2) := by decide +kernel
theorem dX6_wantedBehind_116 : decode cX6_wantedBehind 116 = .ok (.goto 4, 3) := by decide +kernel
theorem dX6_wantedBehind_119 : decode cX6_wantedBehind 119 = .ok (.iconst 0, 1) := by decide +kernel
theorem dX6_wantedBehind_120 : decode cX6_wantedBehind 120 = .ok (.ireturn, 1) := by decide +kernel
theorem dX6_wantedBehind_121 : decode cX6_wantedBehind 121 = .ok (.iload_n 1, 1) := by decide +kernel
theorem dX6_wantedBehind_122 : decode cX6_wantedBehind 122 = .ok (.bipush 48, 2) := by decide +kernel
theorem dX6_wantedBehind_124 : decode cX6_wantedBehind 124 = .ok (.bipush 55, 2) := by decide +kernel
theorem dX6_wantedBehind_126 : decode cX6_wantedBehind 126 = .ok (.invokestatic 33, 3) := by decide +kernel
theorem dX6_wantedBehind_129 : decode cX6_wantedBehind 129 = .ok (.ifCond .eq 8, 3) := by decide +kernel
theorem dX6_wantedBehind_132 : decode cX6_wantedBehind 132 = .ok (.bipush 7, 2) := by decide +kernel
theorem dX6_wantedBehind_134 : decode cX6_wantedBehind 134 = .ok (.goto 4, 3) := by decide +kernel
theorem dX6_wantedBehind_137 : decode cX6_wantedBehind 137 = .ok (.iconst 0, 1) := by decide +kernel
theorem dX6_wantedBehind_138 : decode cX6_wantedBehind 138 = .ok (.ireturn, 1) := by decide +kernel
theorem dX6_wantedBehind_139 : decode cX6_wantedBehind 139 = .ok (.iload_n 1, 1) := by decide +kernel
theorem dX6_wantedBehind_140 : decode cX6_wantedBehind 140 = .ok (.bipush 61, 2) := by decide +kernel
theorem dX6_wantedBehind_142 : decode cX6_wantedBehind 142 = .ok (.if_icmp .ne 8, 3) := by decide +kernel
theorem dX6_wantedBehind_145 : decode cX6_wantedBehind 145 = .ok (.bipush 8, 2) := by decide +kernel
theorem dX6_wantedBehind_147 : decode cX6_wantedBehind 147 = .ok (.goto 4, 3) := by decide +kernel
theorem dX6_wantedBehind_150 : decode cX6_wantedBehind 150 = .ok (.iconst 0, 1) := by decide +kernel
theorem dX6_wantedBehind_151 : decode cX6_wantedBehind 151 = .ok (.ireturn, 1) := by decide +kernel
theorem dX6_wantedBehind_152 : decode cX6_wantedBehind 152 = .ok (.iload_n 1, 1) := by decide +kernel
theorem dX6_wantedBehind_153 : decode cX6_wantedBehind 153 = .ok (.bipush 48, 2) := by decide +kernel
theorem dX6_wantedBehind_155 : decode cX6_wantedBehind 155 = .ok (.bipush 49, 2) := by decide +kernel
theorem dX6_wantedBehind_157 : decode cX6_wantedBehind 157 = .ok (.invokestatic 33, 3) := by decide +kernel
theorem dX6_wantedBehind_160 : decode cX6_wantedBehind 160 = .ok (.ifCond .eq 7, 3) := by decide +kernel
theorem dX6_wantedBehind_163 : decode cX6_wantedBehind 163 = .ok (.iconst 2, 1) := by decide +kernel
theorem dX6_wantedBehind_164 : decode cX6_wantedBehind 164 = .ok (.goto 4, 3) := by decide +kernel
theorem dX6_wantedBehind_167 : decode cX6_wantedBehind 167 = .ok (.iconst 0, 1) := by decide +kernel
theorem dX6_wantedBehind_168 : decode cX6_wantedBehind 168 = .ok (.ireturn, 1) := by decide +kernel
theorem dX6_wantedBehind_169 : decode cX6_wantedBehind 169 = .ok (.iload_n 1, 1) := by decide +kernel
theorem dX6_wantedBehind_170 : decode cX6_wantedBehind 170 = .ok (.bipush 49, 2) := by decide +kernel
theorem dX6_wantedBehind_172 : decode cX6_wantedBehind 172 = .ok (.bipush 57, 2) := by decide +kernel
theorem dX6_wantedBehind_174 : decode cX6_wantedBehind 174 = .ok (.invokestatic 33, 3) := by decide +kernel
theorem dX6_wantedBehind_177 : decode cX6_wantedBehind 177 = .ok (.ifCond .eq 7, 3) := by decide +kernel
theorem dX6_wantedBehind_180 : decode cX6_wantedBehind 180 = .ok (.iconst 2, 1) := by decide +kernel
theorem dX6_wantedBehind_181 : decode cX6_wantedBehind 181 = .ok (.goto 4, 3) := by decide +kernel
theorem dX6_wantedBehind_184 : decode cX6_wantedBehind 184 = .ok (.iconst 0, 1) := by decide +kernel
theorem dX6_wantedBehind_185 : decode cX6_wantedBehind 185 = .ok (.ireturn, 1) := by decide +kernel
theorem dX6_wantedBehind_186 : decode cX6_wantedBehind 186 = .ok (.iconst 0, 1) := by decide +kernel
theorem dX6_wantedBehind_187 : decode cX6_wantedBehind 187 = .ok (.ireturn, 1) := by decide +kernel
theorem dX6_wantedInStep_0 : decode cX6_wantedInStep 0 = .ok (.iload_n 0, 1) := by decide +kernel
theorem dX6_wantedInStep_1 : decode cX6_wantedInStep 1 = .ok (.lookupswitch 52 #[(98, 47), (114, 43), (116, 49), (119, 45)], 43) := by decide +kernel
theorem dX6_wantedInStep_44 : decode cX6_wantedInStep 44 = .ok (.iconst 3, 1) := by decide +kernel
theorem dX6_wantedInStep_45 : decode cX6_wantedInStep 45 = .ok (.ireturn, 1) := by decide +kernel
theorem dX6_wantedInStep_46 : decode cX6_wantedInStep 46 = .ok (.iconst 5, 1) := by decide +kernel
theorem dX6_wantedInStep_47 : decode cX6_wantedInStep 47 = .ok (.ireturn, 1) := by decide +kernel
theorem dX6_wantedInStep_48 : decode cX6_wantedInStep 48 = .ok (.iconst 2, 1) := by decide +kernel
theorem dX6_wantedInStep_49 : decode cX6_wantedInStep 49 = .ok (.ireturn, 1) := by decide +kernel
theorem dX6_wantedInStep_50 : decode cX6_wantedInStep 50 = .ok (.bipush 9, 2) := by decide +kernel
theorem dX6_wantedInStep_52 : decode cX6_wantedInStep 52 = .ok (.ireturn, 1) := by decide +kernel
theorem dX6_wantedInStep_53 : decode cX6_wantedInStep 53 = .ok (.iconst 0, 1) := by decide +kernel
theorem dX6_wantedInStep_54 : decode cX6_wantedInStep 54 = .ok (.ireturn, 1) := by decide +kernel
theorem dX7_init_0 : decode cX7_init 0 = .ok (.aload_n 0, 1) := by decide +kernel
theorem dX7_init_1 : decode cX7_init 1 = .ok (.invokespecial 1, 3) := by decide +kernel
theorem dX7_init_4 : decode cX7_init 4 = .ok (.aload_n 0, 1) := by decide +kernel
theorem dX7_init_5 : decode cX7_init 5 = .ok (.new 7, 3) := by decide +kernel
theorem dX7_init_8 : decode cX7_init 8 = .ok (.dup, 1) := by decide +kernel
theorem dX7_init_9 : decode cX7_init 9 = .ok (.invokespecial 9, 3) := by decide +kernel
theorem dX7_init_12 : decode cX7_init 12 = .ok (.putfield 10, 3) := by decide +kernel
theorem dX7_init_15 : decode cX7_init 15 = .ok (.aload_n 0, 1) := by decide +kernel
theorem dX7_init_16 : decode cX7_init 16 = .ok (.new 7, 3) := by decide +kernel
theorem dX7_init_19 : decode cX7_init 19 = .ok (.dup, 1) := by decide +kernel
theorem dX7_init_20 : decode cX7_init 20 = .ok (.invokespecial 9, 3) := by decide +kernel
theorem dX7_init_23 : decode cX7_init 23 = .ok (.putfield 16, 3) := by decide +kernel
theorem dX7_init_26 : decode cX7_init 26 = .ok (.aload_n 0, 1) := by decide +kernel
theorem dX7_init_27 : decode cX7_init 27 = .ok (.new 19, 3) := by decide +kernel
theorem dX7_init_30 : decode cX7_init 30 = .ok (.dup, 1) := by decide +kernel
theorem dX7_init_31 : decode cX7_init 31 = .ok (.invokespecial 21, 3) := by decide +kernel
theorem dX7_init_34 : decode cX7_init 34 = .ok (.putfield 22, 3) := by decide +kernel
theorem dX7_init_37 : decode cX7_init 37 = .ok (.aload_n 0, 1) := by decide +kernel
theorem dX7_init_38 : decode cX7_init 38 = .ok (.new 26, 3) := by decide +kernel
theorem dX7_init_41 : decode cX7_init 41 = .ok (.dup, 1) := by decide +kernel
theorem dX7_init_42 : decode cX7_init 42 = .ok (.invokespecial 28, 3) := by decide +kernel
theorem dX7_init_45 : decode cX7_init 45 = .ok (.putfield 29, 3) := by decide +kernel
theorem dX7_init_48 : decode cX7_init 48 = .ok (.return_, 1) := by decide +kernel
theorem dX7_addTenant_0 : decode cX7_addTenant 0 = .ok (.iload_n 1, 1) := by decide +kernel
theorem dX7_addTenant_1 : decode cX7_addTenant 1 = .ok (.iconst 0, 1) := by decide +kernel
theorem dX7_addTenant_2 : decode cX7_addTenant 2 = .ok (.sipush 10000, 3) := by decide +kernel
theorem dX7_addTenant_5 : decode cX7_addTenant 5 = .ok (.invokestatic 33, 3) := by decide +kernel
theorem dX7_addTenant_8 : decode cX7_addTenant 8 = .ok (.invokestatic 37, 3) := by decide +kernel
theorem dX7_addTenant_11 : decode cX7_addTenant 11 = .ok (.aload_n 0, 1) := by decide +kernel
theorem dX7_addTenant_12 : decode cX7_addTenant 12 = .ok (.getfield 10, 3) := by decide +kernel
theorem dX7_addTenant_15 : decode cX7_addTenant 15 = .ok (.getfield 41, 3) := by decide +kernel
theorem dX7_addTenant_18 : decode cX7_addTenant 18 = .ok (.getfield 45, 3) := by decide +kernel
theorem dX7_addTenant_21 : decode cX7_addTenant 21 = .ok (.bipush 6, 2) := by decide +kernel
theorem dX7_addTenant_23 : decode cX7_addTenant 23 = .ok (.if_icmp .ge 7, 3) := by decide +kernel
theorem dX7_addTenant_26 : decode cX7_addTenant 26 = .ok (.iconst 1, 1) := by decide +kernel
theorem dX7_addTenant_27 : decode cX7_addTenant 27 = .ok (.goto 4, 3) := by decide +kernel
theorem dX7_addTenant_30 : decode cX7_addTenant 30 = .ok (.iconst 0, 1) := by decide +kernel
theorem dX7_addTenant_31 : decode cX7_addTenant 31 = .ok (.invokestatic 51, 3) := by decide +kernel
theorem dX7_addTenant_34 : decode cX7_addTenant 34 = .ok (.aload_n 0, 1) := by decide +kernel
theorem dX7_addTenant_35 : decode cX7_addTenant 35 = .ok (.getfield 22, 3) := by decide +kernel
theorem dX7_addTenant_38 : decode cX7_addTenant 38 = .ok (.aload_n 0, 1) := by decide +kernel
theorem dX7_addTenant_39 : decode cX7_addTenant 39 = .ok (.getfield 10, 3) := by decide +kernel
theorem dX7_addTenant_42 : decode cX7_addTenant 42 = .ok (.invokevirtual 54, 3) := by decide +kernel
theorem dX7_addTenant_45 : decode cX7_addTenant 45 = .ok (.aload_n 0, 1) := by decide +kernel
theorem dX7_addTenant_46 : decode cX7_addTenant 46 = .ok (.getfield 10, 3) := by decide +kernel
theorem dX7_addTenant_49 : decode cX7_addTenant 49 = .ok (.getfield 41, 3) := by decide +kernel
theorem dX7_addTenant_52 : decode cX7_addTenant 52 = .ok (.iload_n 1, 1) := by decide +kernel
theorem dX7_addTenant_53 : decode cX7_addTenant 53 = .ok (.invokevirtual 58, 3) := by decide +kernel
theorem dX7_addTenant_56 : decode cX7_addTenant 56 = .ok (.ireturn, 1) := by decide +kernel
theorem dX7_addInsurer_0 : decode cX7_addInsurer 0 = .ok (.iload_n 1, 1) := by decide +kernel
theorem dX7_addInsurer_1 : decode cX7_addInsurer 1 = .ok (.iconst 0, 1) := by decide +kernel
theorem dX7_addInsurer_2 : decode cX7_addInsurer 2 = .ok (.sipush 10000, 3) := by decide +kernel
theorem dX7_addInsurer_5 : decode cX7_addInsurer 5 = .ok (.invokestatic 33, 3) := by decide +kernel
theorem dX7_addInsurer_8 : decode cX7_addInsurer 8 = .ok (.invokestatic 37, 3) := by decide +kernel
theorem dX7_addInsurer_11 : decode cX7_addInsurer 11 = .ok (.iload_n 2, 1) := by decide +kernel
theorem dX7_addInsurer_12 : decode cX7_addInsurer 12 = .ok (.iconst 1, 1) := by decide +kernel
theorem dX7_addInsurer_13 : decode cX7_addInsurer 13 = .ok (.sipush 200, 3) := by decide +kernel
theorem dX7_addInsurer_16 : decode cX7_addInsurer 16 = .ok (.invokestatic 33, 3) := by decide +kernel
theorem dX7_addInsurer_19 : decode cX7_addInsurer 19 = .ok (.invokestatic 37, 3) := by decide +kernel
theorem dX7_addInsurer_22 : decode cX7_addInsurer 22 = .ok (.iload_n 3, 1) := by decide +kernel
theorem dX7_addInsurer_23 : decode cX7_addInsurer 23 = .ok (.iconst 1, 1) := by decide +kernel
theorem dX7_addInsurer_24 : decode cX7_addInsurer 24 = .ok (.sipush 500, 3) := by decide +kernel
theorem dX7_addInsurer_27 : decode cX7_addInsurer 27 = .ok (.invokestatic 33, 3) := by decide +kernel
theorem dX7_addInsurer_30 : decode cX7_addInsurer 30 = .ok (.invokestatic 37, 3) := by decide +kernel
theorem dX7_addInsurer_33 : decode cX7_addInsurer 33 = .ok (.aload_n 0, 1) := by decide +kernel
theorem dX7_addInsurer_34 : decode cX7_addInsurer 34 = .ok (.getfield 10, 3) := by decide +kernel
theorem dX7_addInsurer_37 : decode cX7_addInsurer 37 = .ok (.getfield 62, 3) := by decide +kernel
theorem dX7_addInsurer_40 : decode cX7_addInsurer 40 = .ok (.getfield 66, 3) := by decide +kernel
theorem dX7_addInsurer_43 : decode cX7_addInsurer 43 = .ok (.iconst 3, 1) := by decide +kernel
theorem dX7_addInsurer_44 : decode cX7_addInsurer 44 = .ok (.if_icmp .ge 7, 3) := by decide +kernel
theorem dX7_addInsurer_47 : decode cX7_addInsurer 47 = .ok (.iconst 1, 1) := by decide +kernel
theorem dX7_addInsurer_48 : decode cX7_addInsurer 48 = .ok (.goto 4, 3) := by decide +kernel
theorem dX7_addInsurer_51 : decode cX7_addInsurer 51 = .ok (.iconst 0, 1) := by decide +kernel
theorem dX7_addInsurer_52 : decode cX7_addInsurer 52 = .ok (.invokestatic 51, 3) := by decide +kernel
theorem dX7_addInsurer_55 : decode cX7_addInsurer 55 = .ok (.aload_n 0, 1) := by decide +kernel
theorem dX7_addInsurer_56 : decode cX7_addInsurer 56 = .ok (.getfield 22, 3) := by decide +kernel
theorem dX7_addInsurer_59 : decode cX7_addInsurer 59 = .ok (.aload_n 0, 1) := by decide +kernel
theorem dX7_addInsurer_60 : decode cX7_addInsurer 60 = .ok (.getfield 10, 3) := by decide +kernel
theorem dX7_addInsurer_63 : decode cX7_addInsurer 63 = .ok (.invokevirtual 54, 3) := by decide +kernel
theorem dX7_addInsurer_66 : decode cX7_addInsurer 66 = .ok (.aload_n 0, 1) := by decide +kernel
theorem dX7_addInsurer_67 : decode cX7_addInsurer 67 = .ok (.getfield 10, 3) := by decide +kernel
theorem dX7_addInsurer_70 : decode cX7_addInsurer 70 = .ok (.getfield 62, 3) := by decide +kernel
theorem dX7_addInsurer_73 : decode cX7_addInsurer 73 = .ok (.iload_n 1, 1) := by decide +kernel
theorem dX7_addInsurer_74 : decode cX7_addInsurer 74 = .ok (.iload_n 2, 1) := by decide +kernel
theorem dX7_addInsurer_75 : decode cX7_addInsurer 75 = .ok (.iload_n 3, 1) := by decide +kernel
theorem dX7_addInsurer_76 : decode cX7_addInsurer 76 = .ok (.invokevirtual 69, 3) := by decide +kernel
theorem dX7_addInsurer_79 : decode cX7_addInsurer 79 = .ok (.ireturn, 1) := by decide +kernel
theorem dX7_set_0 : decode cX7_set 0 = .ok (.iload_n 1, 1) := by decide +kernel
theorem dX7_set_1 : decode cX7_set 1 = .ok (.invokestatic 72, 3) := by decide +kernel
theorem dX7_set_4 : decode cX7_set 4 = .ok (.iload_n 2, 1) := by decide +kernel
theorem dX7_set_5 : decode cX7_set 5 = .ok (.iconst 0, 1) := by decide +kernel
theorem dX7_set_6 : decode cX7_set 6 = .ok (.getstatic 76, 3) := by decide +kernel
theorem dX7_set_9 : decode cX7_set 9 = .ok (.iload_n 1, 1) := by decide +kernel
theorem dX7_set_10 : decode cX7_set 10 = .ok (.iaload, 1) := by decide +kernel
theorem dX7_set_11 : decode cX7_set 11 = .ok (.invokestatic 33, 3) := by decide +kernel
theorem dX7_set_14 : decode cX7_set 14 = .ok (.invokestatic 37, 3) := by decide +kernel
theorem dX7_set_17 : decode cX7_set 17 = .ok (.aload_n 0, 1) := by decide +kernel
theorem dX7_set_18 : decode cX7_set 18 = .ok (.getfield 22, 3) := by decide +kernel
theorem dX7_set_21 : decode cX7_set 21 = .ok (.aload_n 0, 1) := by decide +kernel
theorem dX7_set_22 : decode cX7_set 22 = .ok (.getfield 10, 3) := by decide +kernel
theorem dX7_set_25 : decode cX7_set 25 = .ok (.invokevirtual 54, 3) := by decide +kernel
theorem dX7_set_28 : decode cX7_set 28 = .ok (.aload_n 0, 1) := by decide +kernel
theorem dX7_set_29 : decode cX7_set 29 = .ok (.getfield 10, 3) := by decide +kernel
theorem dX7_set_32 : decode cX7_set 32 = .ok (.getfield 80, 3) := by decide +kernel
theorem dX7_set_35 : decode cX7_set 35 = .ok (.iload_n 1, 1) := by decide +kernel
theorem dX7_set_36 : decode cX7_set 36 = .ok (.iaload, 1) := by decide +kernel
theorem dX7_set_37 : decode cX7_set 37 = .ok (.istore_n 3, 1) := by decide +kernel
theorem dX7_set_38 : decode cX7_set 38 = .ok (.aload_n 0, 1) := by decide +kernel
theorem dX7_set_39 : decode cX7_set 39 = .ok (.getfield 10, 3) := by decide +kernel
theorem dX7_set_42 : decode cX7_set 42 = .ok (.getfield 80, 3) := by decide +kernel
theorem dX7_set_45 : decode cX7_set 45 = .ok (.iload_n 1, 1) := by decide +kernel
theorem dX7_set_46 : decode cX7_set 46 = .ok (.iload_n 2, 1) := by decide +kernel
theorem dX7_set_47 : decode cX7_set 47 = .ok (.iastore, 1) := by decide +kernel
theorem dX7_set_48 : decode cX7_set 48 = .ok (.iload_n 3, 1) := by decide +kernel
theorem dX7_set_49 : decode cX7_set 49 = .ok (.ireturn, 1) := by decide +kernel
theorem dX7_lease_0 : decode cX7_lease 0 = .ok (.iload_n 1, 1) := by decide +kernel
theorem dX7_lease_1 : decode cX7_lease 1 = .ok (.invokestatic 83, 3) := by decide +kernel
theorem dX7_lease_4 : decode cX7_lease 4 = .ok (.aload_n 0, 1) := by decide +kernel
theorem dX7_lease_5 : decode cX7_lease 5 = .ok (.iload_n 2, 1) := by decide +kernel
theorem dX7_lease_6 : decode cX7_lease 6 = .ok (.invokevirtual 86, 3) := by decide +kernel
theorem dX7_lease_9 : decode cX7_lease 9 = .ok (.iload_n 3, 1) := by decide +kernel
theorem dX7_lease_10 : decode cX7_lease 10 = .ok (.iconst 1, 1) := by decide +kernel
theorem dX7_lease_11 : decode cX7_lease 11 = .ok (.sipush 200, 3) := by decide +kernel
theorem dX7_lease_14 : decode cX7_lease 14 = .ok (.invokestatic 33, 3) := by decide +kernel
theorem dX7_lease_17 : decode cX7_lease 17 = .ok (.invokestatic 37, 3) := by decide +kernel
theorem dX7_lease_20 : decode cX7_lease 20 = .ok (.aload_n 0, 1) := by decide +kernel
theorem dX7_lease_21 : decode cX7_lease 21 = .ok (.getfield 10, 3) := by decide +kernel
theorem dX7_lease_24 : decode cX7_lease 24 = .ok (.getfield 89, 3) := by decide +kernel
theorem dX7_lease_27 : decode cX7_lease 27 = .ok (.iload_n 1, 1) := by decide +kernel
theorem dX7_lease_28 : decode cX7_lease 28 = .ok (.invokevirtual 93, 3) := by decide +kernel
theorem dX7_lease_31 : decode cX7_lease 31 = .ok (.ifCond .ne 7, 3) := by decide +kernel
theorem dX7_lease_34 : decode cX7_lease 34 = .ok (.iconst 1, 1) := by decide +kernel
theorem dX7_lease_35 : decode cX7_lease 35 = .ok (.goto 4, 3) := by decide +kernel
theorem dX7_lease_38 : decode cX7_lease 38 = .ok (.iconst 0, 1) := by decide +kernel
theorem dX7_lease_39 : decode cX7_lease 39 = .ok (.invokestatic 51, 3) := by decide +kernel
theorem dX7_lease_42 : decode cX7_lease 42 = .ok (.aload_n 0, 1) := by decide +kernel
theorem dX7_lease_43 : decode cX7_lease 43 = .ok (.getfield 10, 3) := by decide +kernel
theorem dX7_lease_46 : decode cX7_lease 46 = .ok (.getfield 41, 3) := by decide +kernel
theorem dX7_lease_49 : decode cX7_lease 49 = .ok (.getfield 99, 3) := by decide +kernel
theorem dX7_lease_52 : decode cX7_lease 52 = .ok (.iload_n 2, 1) := by decide +kernel
theorem dX7_lease_53 : decode cX7_lease 53 = .ok (.iaload, 1) := by decide +kernel
theorem dX7_lease_54 : decode cX7_lease 54 = .ok (.aload_n 0, 1) := by decide +kernel
theorem dX7_lease_55 : decode cX7_lease 55 = .ok (.getfield 10, 3) := by decide +kernel
theorem dX7_lease_58 : decode cX7_lease 58 = .ok (.iload_n 3, 1) := by decide +kernel
theorem dX7_lease_59 : decode cX7_lease 59 = .ok (.invokevirtual 102, 3) := by decide +kernel
theorem dX7_lease_62 : decode cX7_lease 62 = .ok (.if_icmp .lt 7, 3) := by decide +kernel
theorem dX7_lease_65 : decode cX7_lease 65 = .ok (.iconst 1, 1) := by decide +kernel
theorem dX7_lease_66 : decode cX7_lease 66 = .ok (.goto 4, 3) := by decide +kernel
theorem dX7_lease_69 : decode cX7_lease 69 = .ok (.iconst 0, 1) := by decide +kernel
theorem dX7_lease_70 : decode cX7_lease 70 = .ok (.invokestatic 51, 3) := by decide +kernel
theorem dX7_lease_73 : decode cX7_lease 73 = .ok (.aload_n 0, 1) := by decide +kernel
theorem dX7_lease_74 : decode cX7_lease 74 = .ok (.getfield 22, 3) := by decide +kernel
theorem dX7_lease_77 : decode cX7_lease 77 = .ok (.aload_n 0, 1) := by decide +kernel
theorem dX7_lease_78 : decode cX7_lease 78 = .ok (.getfield 10, 3) := by decide +kernel
theorem dX7_lease_81 : decode cX7_lease 81 = .ok (.invokevirtual 54, 3) := by decide +kernel
theorem dX7_lease_84 : decode cX7_lease 84 = .ok (.aload_n 0, 1) := by decide +kernel
theorem dX7_lease_85 : decode cX7_lease 85 = .ok (.getfield 10, 3) := by decide +kernel
theorem dX7_lease_88 : decode cX7_lease 88 = .ok (.iload_n 1, 1) := by decide +kernel
theorem dX7_lease_89 : decode cX7_lease 89 = .ok (.iload_n 2, 1) := by decide +kernel
theorem dX7_lease_90 : decode cX7_lease 90 = .ok (.iload_n 3, 1) := by decide +kernel
theorem dX7_lease_91 : decode cX7_lease 91 = .ok (.invokevirtual 105, 3) := by decide +kernel
theorem dX7_lease_94 : decode cX7_lease 94 = .ok (.aload_n 0, 1) := by decide +kernel
theorem dX7_lease_95 : decode cX7_lease 95 = .ok (.getfield 10, 3) := by decide +kernel
theorem dX7_lease_98 : decode cX7_lease 98 = .ok (.getfield 41, 3) := by decide +kernel
theorem dX7_lease_101 : decode cX7_lease 101 = .ok (.getfield 99, 3) := by decide +kernel
theorem dX7_lease_104 : decode cX7_lease 104 = .ok (.iload_n 2, 1) := by decide +kernel
theorem dX7_lease_105 : decode cX7_lease 105 = .ok (.iaload, 1) := by decide +kernel
theorem dX7_lease_106 : decode cX7_lease 106 = .ok (.ireturn, 1) := by decide +kernel
theorem dX7_insure_0 : decode cX7_insure 0 = .ok (.iload_n 1, 1) := by decide +kernel
theorem dX7_insure_1 : decode cX7_insure 1 = .ok (.invokestatic 83, 3) := by decide +kernel
theorem dX7_insure_4 : decode cX7_insure 4 = .ok (.aload_n 0, 1) := by decide +kernel
theorem dX7_insure_5 : decode cX7_insure 5 = .ok (.iload_n 2, 1) := by decide +kernel
theorem dX7_insure_6 : decode cX7_insure 6 = .ok (.invokevirtual 109, 3) := by decide +kernel
theorem dX7_insure_9 : decode cX7_insure 9 = .ok (.iload_n 3, 1) := by decide +kernel
theorem dX7_insure_10 : decode cX7_insure 10 = .ok (.iconst 1, 1) := by decide +kernel
theorem dX7_insure_11 : decode cX7_insure 11 = .ok (.sipush 200, 3) := by decide +kernel
theorem dX7_insure_14 : decode cX7_insure 14 = .ok (.invokestatic 33, 3) := by decide +kernel
theorem dX7_insure_17 : decode cX7_insure 17 = .ok (.invokestatic 37, 3) := by decide +kernel
theorem dX7_insure_20 : decode cX7_insure 20 = .ok (.aload_n 0, 1) := by decide +kernel
theorem dX7_insure_21 : decode cX7_insure 21 = .ok (.getfield 10, 3) := by decide +kernel
theorem dX7_insure_24 : decode cX7_insure 24 = .ok (.getfield 89, 3) := by decide +kernel
theorem dX7_insure_27 : decode cX7_insure 27 = .ok (.getfield 112, 3) := by decide +kernel
theorem dX7_insure_30 : decode cX7_insure 30 = .ok (.iload_n 1, 1) := by decide +kernel
theorem dX7_insure_31 : decode cX7_insure 31 = .ok (.iaload, 1) := by decide +kernel
theorem dX7_insure_32 : decode cX7_insure 32 = .ok (.istore 4, 2) := by decide +kernel
theorem dX7_insure_34 : decode cX7_insure 34 = .ok (.aload_n 0, 1) := by decide +kernel
theorem dX7_insure_35 : decode cX7_insure 35 = .ok (.getfield 10, 3) := by decide +kernel
theorem dX7_insure_38 : decode cX7_insure 38 = .ok (.getfield 41, 3) := by decide +kernel
theorem dX7_insure_41 : decode cX7_insure 41 = .ok (.iload 4, 2) := by decide +kernel
theorem dX7_insure_43 : decode cX7_insure 43 = .ok (.invokevirtual 115, 3) := by decide +kernel
theorem dX7_insure_46 : decode cX7_insure 46 = .ok (.invokestatic 51, 3) := by decide +kernel
theorem dX7_insure_49 : decode cX7_insure 49 = .ok (.aload_n 0, 1) := by decide +kernel
theorem dX7_insure_50 : decode cX7_insure 50 = .ok (.getfield 10, 3) := by decide +kernel
theorem dX7_insure_53 : decode cX7_insure 53 = .ok (.getfield 89, 3) := by decide +kernel
theorem dX7_insure_56 : decode cX7_insure 56 = .ok (.iload_n 1, 1) := by decide +kernel
theorem dX7_insure_57 : decode cX7_insure 57 = .ok (.invokevirtual 118, 3) := by decide +kernel
theorem dX7_insure_60 : decode cX7_insure 60 = .ok (.ifCond .ne 7, 3) := by decide +kernel
theorem dX7_insure_63 : decode cX7_insure 63 = .ok (.iconst 1, 1) := by decide +kernel
theorem dX7_insure_64 : decode cX7_insure 64 = .ok (.goto 4, 3) := by decide +kernel
theorem dX7_insure_67 : decode cX7_insure 67 = .ok (.iconst 0, 1) := by decide +kernel
theorem dX7_insure_68 : decode cX7_insure 68 = .ok (.invokestatic 51, 3) := by decide +kernel
theorem dX7_insure_71 : decode cX7_insure 71 = .ok (.aload_n 0, 1) := by decide +kernel
theorem dX7_insure_72 : decode cX7_insure 72 = .ok (.getfield 10, 3) := by decide +kernel
theorem dX7_insure_75 : decode cX7_insure 75 = .ok (.iload_n 1, 1) := by decide +kernel
theorem dX7_insure_76 : decode cX7_insure 76 = .ok (.invokevirtual 121, 3) := by decide +kernel
theorem dX7_insure_79 : decode cX7_insure 79 = .ok (.iload_n 3, 1) := by decide +kernel
theorem dX7_insure_80 : decode cX7_insure 80 = .ok (.if_icmp .lt 7, 3) := by decide +kernel
theorem dX7_insure_83 : decode cX7_insure 83 = .ok (.iconst 1, 1) := by decide +kernel
theorem dX7_insure_84 : decode cX7_insure 84 = .ok (.goto 4, 3) := by decide +kernel
theorem dX7_insure_87 : decode cX7_insure 87 = .ok (.iconst 0, 1) := by decide +kernel
theorem dX7_insure_88 : decode cX7_insure 88 = .ok (.invokestatic 51, 3) := by decide +kernel
theorem dX7_insure_91 : decode cX7_insure 91 = .ok (.aload_n 0, 1) := by decide +kernel
theorem dX7_insure_92 : decode cX7_insure 92 = .ok (.getfield 10, 3) := by decide +kernel
theorem dX7_insure_95 : decode cX7_insure 95 = .ok (.iload_n 1, 1) := by decide +kernel
theorem dX7_insure_96 : decode cX7_insure 96 = .ok (.iload_n 2, 1) := by decide +kernel
theorem dX7_insure_97 : decode cX7_insure 97 = .ok (.iload_n 3, 1) := by decide +kernel
theorem dX7_insure_98 : decode cX7_insure 98 = .ok (.aload_n 0, 1) := by decide +kernel
theorem dX7_insure_99 : decode cX7_insure 99 = .ok (.getfield 10, 3) := by decide +kernel
theorem dX7_insure_102 : decode cX7_insure 102 = .ok (.getfield 124, 3) := by decide +kernel
theorem dX7_insure_105 : decode cX7_insure 105 = .ok (.invokevirtual 127, 3) := by decide +kernel
theorem dX7_insure_108 : decode cX7_insure 108 = .ok (.istore 5, 2) := by decide +kernel
theorem dX7_insure_110 : decode cX7_insure 110 = .ok (.aload_n 0, 1) := by decide +kernel
theorem dX7_insure_111 : decode cX7_insure 111 = .ok (.getfield 10, 3) := by decide +kernel
theorem dX7_insure_114 : decode cX7_insure 114 = .ok (.getfield 41, 3) := by decide +kernel
theorem dX7_insure_117 : decode cX7_insure 117 = .ok (.getfield 99, 3) := by decide +kernel
theorem dX7_insure_120 : decode cX7_insure 120 = .ok (.iload 4, 2) := by decide +kernel
theorem dX7_insure_122 : decode cX7_insure 122 = .ok (.iaload, 1) := by decide +kernel
theorem dX7_insure_123 : decode cX7_insure 123 = .ok (.iload 5, 2) := by decide +kernel
theorem dX7_insure_125 : decode cX7_insure 125 = .ok (.if_icmp .lt 7, 3) := by decide +kernel
theorem dX7_insure_128 : decode cX7_insure 128 = .ok (.iconst 1, 1) := by decide +kernel
theorem dX7_insure_129 : decode cX7_insure 129 = .ok (.goto 4, 3) := by decide +kernel
theorem dX7_insure_132 : decode cX7_insure 132 = .ok (.iconst 0, 1) := by decide +kernel
theorem dX7_insure_133 : decode cX7_insure 133 = .ok (.invokestatic 51, 3) := by decide +kernel
theorem dX7_insure_136 : decode cX7_insure 136 = .ok (.aload_n 0, 1) := by decide +kernel
theorem dX7_insure_137 : decode cX7_insure 137 = .ok (.getfield 22, 3) := by decide +kernel
theorem dX7_insure_140 : decode cX7_insure 140 = .ok (.aload_n 0, 1) := by decide +kernel
theorem dX7_insure_141 : decode cX7_insure 141 = .ok (.getfield 10, 3) := by decide +kernel
theorem dX7_insure_144 : decode cX7_insure 144 = .ok (.invokevirtual 54, 3) := by decide +kernel
theorem dX7_insure_147 : decode cX7_insure 147 = .ok (.aload_n 0, 1) := by decide +kernel
theorem dX7_insure_148 : decode cX7_insure 148 = .ok (.getfield 10, 3) := by decide +kernel
theorem dX7_insure_151 : decode cX7_insure 151 = .ok (.iload_n 1, 1) := by decide +kernel
theorem dX7_insure_152 : decode cX7_insure 152 = .ok (.iload_n 2, 1) := by decide +kernel
theorem dX7_insure_153 : decode cX7_insure 153 = .ok (.iload_n 3, 1) := by decide +kernel
theorem dX7_insure_154 : decode cX7_insure 154 = .ok (.iload 4, 2) := by decide +kernel
theorem dX7_insure_156 : decode cX7_insure 156 = .ok (.iload 5, 2) := by decide +kernel
theorem dX7_insure_158 : decode cX7_insure 158 = .ok (.invokevirtual 131, 3) := by decide +kernel
theorem dX7_insure_161 : decode cX7_insure 161 = .ok (.iload 5, 2) := by decide +kernel
theorem dX7_insure_163 : decode cX7_insure 163 = .ok (.ireturn, 1) := by decide +kernel
theorem dX7_renew_0 : decode cX7_renew 0 = .ok (.iload_n 1, 1) := by decide +kernel
theorem dX7_renew_1 : decode cX7_renew 1 = .ok (.invokestatic 83, 3) := by decide +kernel
theorem dX7_renew_4 : decode cX7_renew 4 = .ok (.aload_n 0, 1) := by decide +kernel
theorem dX7_renew_5 : decode cX7_renew 5 = .ok (.getfield 10, 3) := by decide +kernel
theorem dX7_renew_8 : decode cX7_renew 8 = .ok (.getfield 89, 3) := by decide +kernel
theorem dX7_renew_11 : decode cX7_renew 11 = .ok (.iload_n 1, 1) := by decide +kernel
theorem dX7_renew_12 : decode cX7_renew 12 = .ok (.invokevirtual 93, 3) := by decide +kernel
theorem dX7_renew_15 : decode cX7_renew 15 = .ok (.ifCond .ne 7, 3) := by decide +kernel
theorem dX7_renew_18 : decode cX7_renew 18 = .ok (.iconst 1, 1) := by decide +kernel
theorem dX7_renew_19 : decode cX7_renew 19 = .ok (.goto 4, 3) := by decide +kernel
theorem dX7_renew_22 : decode cX7_renew 22 = .ok (.iconst 0, 1) := by decide +kernel
theorem dX7_renew_23 : decode cX7_renew 23 = .ok (.invokestatic 51, 3) := by decide +kernel
theorem dX7_renew_26 : decode cX7_renew 26 = .ok (.aload_n 0, 1) := by decide +kernel
theorem dX7_renew_27 : decode cX7_renew 27 = .ok (.getfield 10, 3) := by decide +kernel
theorem dX7_renew_30 : decode cX7_renew 30 = .ok (.getfield 135, 3) := by decide +kernel
theorem dX7_renew_33 : decode cX7_renew 33 = .ok (.aload_n 0, 1) := by decide +kernel
theorem dX7_renew_34 : decode cX7_renew 34 = .ok (.getfield 10, 3) := by decide +kernel
theorem dX7_renew_37 : decode cX7_renew 37 = .ok (.getfield 80, 3) := by decide +kernel
theorem dX7_renew_40 : decode cX7_renew 40 = .ok (.bipush 7, 2) := by decide +kernel
theorem dX7_renew_42 : decode cX7_renew 42 = .ok (.iaload, 1) := by decide +kernel
theorem dX7_renew_43 : decode cX7_renew 43 = .ok (.if_icmp .lt 7, 3) := by decide +kernel
theorem dX7_renew_46 : decode cX7_renew 46 = .ok (.iconst 1, 1) := by decide +kernel
theorem dX7_renew_47 : decode cX7_renew 47 = .ok (.goto 4, 3) := by decide +kernel
theorem dX7_renew_50 : decode cX7_renew 50 = .ok (.iconst 0, 1) := by decide +kernel
theorem dX7_renew_51 : decode cX7_renew 51 = .ok (.invokestatic 51, 3) := by decide +kernel
theorem dX7_renew_54 : decode cX7_renew 54 = .ok (.aload_n 0, 1) := by decide +kernel
theorem dX7_renew_55 : decode cX7_renew 55 = .ok (.getfield 22, 3) := by decide +kernel
theorem dX7_renew_58 : decode cX7_renew 58 = .ok (.aload_n 0, 1) := by decide +kernel
theorem dX7_renew_59 : decode cX7_renew 59 = .ok (.getfield 10, 3) := by decide +kernel
theorem dX7_renew_62 : decode cX7_renew 62 = .ok (.invokevirtual 54, 3) := by decide +kernel
theorem dX7_renew_65 : decode cX7_renew 65 = .ok (.aload_n 0, 1) := by decide +kernel
theorem dX7_renew_66 : decode cX7_renew 66 = .ok (.getfield 10, 3) := by decide +kernel
theorem dX7_renew_69 : decode cX7_renew 69 = .ok (.getfield 89, 3) := by decide +kernel
theorem dX7_renew_72 : decode cX7_renew 72 = .ok (.getfield 138, 3) := by decide +kernel
theorem dX7_renew_75 : decode cX7_renew 75 = .ok (.iload_n 1, 1) := by decide +kernel
theorem dX7_renew_76 : decode cX7_renew 76 = .ok (.iaload, 1) := by decide +kernel
theorem dX7_renew_77 : decode cX7_renew 77 = .ok (.istore_n 2, 1) := by decide +kernel
theorem dX7_renew_78 : decode cX7_renew 78 = .ok (.aload_n 0, 1) := by decide +kernel
theorem dX7_renew_79 : decode cX7_renew 79 = .ok (.getfield 10, 3) := by decide +kernel
theorem dX7_renew_82 : decode cX7_renew 82 = .ok (.iload_n 1, 1) := by decide +kernel
theorem dX7_renew_83 : decode cX7_renew 83 = .ok (.invokevirtual 141, 3) := by decide +kernel
theorem dX7_renew_86 : decode cX7_renew 86 = .ok (.iload_n 2, 1) := by decide +kernel
theorem dX7_renew_87 : decode cX7_renew 87 = .ok (.ireturn, 1) := by decide +kernel
theorem dX7_write_0 : decode cX7_write 0 = .ok (.iload_n 1, 1) := by decide +kernel
theorem dX7_write_1 : decode cX7_write 1 = .ok (.invokestatic 83, 3) := by decide +kernel
theorem dX7_write_4 : decode cX7_write 4 = .ok (.aload_n 0, 1) := by decide +kernel
theorem dX7_write_5 : decode cX7_write 5 = .ok (.getfield 10, 3) := by decide +kernel
theorem dX7_write_8 : decode cX7_write 8 = .ok (.getfield 89, 3) := by decide +kernel
theorem dX7_write_11 : decode cX7_write 11 = .ok (.iload_n 1, 1) := by decide +kernel
theorem dX7_write_12 : decode cX7_write 12 = .ok (.invokevirtual 93, 3) := by decide +kernel
theorem dX7_write_15 : decode cX7_write 15 = .ok (.invokestatic 51, 3) := by decide +kernel
theorem dX7_write_18 : decode cX7_write 18 = .ok (.aload_n 0, 1) := by decide +kernel
theorem dX7_write_19 : decode cX7_write 19 = .ok (.getfield 22, 3) := by decide +kernel
theorem dX7_write_22 : decode cX7_write 22 = .ok (.aload_n 0, 1) := by decide +kernel
theorem dX7_write_23 : decode cX7_write 23 = .ok (.getfield 10, 3) := by decide +kernel
theorem dX7_write_26 : decode cX7_write 26 = .ok (.invokevirtual 54, 3) := by decide +kernel
theorem dX7_write_29 : decode cX7_write 29 = .ok (.aload_n 0, 1) := by decide +kernel
theorem dX7_write_30 : decode cX7_write 30 = .ok (.getfield 10, 3) := by decide +kernel
theorem dX7_write_33 : decode cX7_write 33 = .ok (.iload_n 1, 1) := by decide +kernel
theorem dX7_write_34 : decode cX7_write 34 = .ok (.iload_n 2, 1) := by decide +kernel
theorem dX7_write_35 : decode cX7_write 35 = .ok (.invokevirtual 144, 3) := by decide +kernel
theorem dX7_write_38 : decode cX7_write 38 = .ok (.aload_n 0, 1) := by decide +kernel
theorem dX7_write_39 : decode cX7_write 39 = .ok (.getfield 10, 3) := by decide +kernel
theorem dX7_write_42 : decode cX7_write 42 = .ok (.getfield 89, 3) := by decide +kernel
theorem dX7_write_45 : decode cX7_write 45 = .ok (.iload_n 1, 1) := by decide +kernel
theorem dX7_write_46 : decode cX7_write 46 = .ok (.invokevirtual 148, 3) := by decide +kernel
theorem dX7_write_49 : decode cX7_write 49 = .ok (.ireturn, 1) := by decide +kernel
theorem dX7_read_0 : decode cX7_read 0 = .ok (.iload_n 1, 1) := by decide +kernel
theorem dX7_read_1 : decode cX7_read 1 = .ok (.invokestatic 83, 3) := by decide +kernel
theorem dX7_read_4 : decode cX7_read 4 = .ok (.aload_n 0, 1) := by decide +kernel
theorem dX7_read_5 : decode cX7_read 5 = .ok (.getfield 10, 3) := by decide +kernel
theorem dX7_read_8 : decode cX7_read 8 = .ok (.iload_n 1, 1) := by decide +kernel
theorem dX7_read_9 : decode cX7_read 9 = .ok (.invokevirtual 151, 3) := by decide +kernel
theorem dX7_read_12 : decode cX7_read 12 = .ok (.invokestatic 51, 3) := by decide +kernel
theorem dX7_read_15 : decode cX7_read 15 = .ok (.aload_n 0, 1) := by decide +kernel
theorem dX7_read_16 : decode cX7_read 16 = .ok (.getfield 22, 3) := by decide +kernel
theorem dX7_read_19 : decode cX7_read 19 = .ok (.aload_n 0, 1) := by decide +kernel
theorem dX7_read_20 : decode cX7_read 20 = .ok (.getfield 10, 3) := by decide +kernel
theorem dX7_read_23 : decode cX7_read 23 = .ok (.invokevirtual 54, 3) := by decide +kernel
theorem dX7_read_26 : decode cX7_read 26 = .ok (.aload_n 0, 1) := by decide +kernel
theorem dX7_read_27 : decode cX7_read 27 = .ok (.getfield 10, 3) := by decide +kernel
theorem dX7_read_30 : decode cX7_read 30 = .ok (.iload_n 1, 1) := by decide +kernel
theorem dX7_read_31 : decode cX7_read 31 = .ok (.invokevirtual 154, 3) := by decide +kernel
theorem dX7_read_34 : decode cX7_read 34 = .ok (.ireturn, 1) := by decide +kernel
theorem dX7_writeBack_0 : decode cX7_writeBack 0 = .ok (.aload_n 0, 1) := by decide +kernel
theorem dX7_writeBack_1 : decode cX7_writeBack 1 = .ok (.getfield 10, 3) := by decide +kernel
theorem dX7_writeBack_4 : decode cX7_writeBack 4 = .ok (.getfield 157, 3) := by decide +kernel
theorem dX7_writeBack_7 : decode cX7_writeBack 7 = .ok (.getfield 161, 3) := by decide +kernel
theorem dX7_writeBack_10 : decode cX7_writeBack 10 = .ok (.ifCond .le 7, 3) := by decide +kernel
theorem dX7_writeBack_13 : decode cX7_writeBack 13 = .ok (.iconst 1, 1) := by decide +kernel
theorem dX7_writeBack_14 : decode cX7_writeBack 14 = .ok (.goto 4, 3) := by decide +kernel
theorem dX7_writeBack_17 : decode cX7_writeBack 17 = .ok (.iconst 0, 1) := by decide +kernel
theorem dX7_writeBack_18 : decode cX7_writeBack 18 = .ok (.invokestatic 51, 3) := by decide +kernel
theorem dX7_writeBack_21 : decode cX7_writeBack 21 = .ok (.aload_n 0, 1) := by decide +kernel
theorem dX7_writeBack_22 : decode cX7_writeBack 22 = .ok (.getfield 22, 3) := by decide +kernel
theorem dX7_writeBack_25 : decode cX7_writeBack 25 = .ok (.aload_n 0, 1) := by decide +kernel
theorem dX7_writeBack_26 : decode cX7_writeBack 26 = .ok (.getfield 10, 3) := by decide +kernel
theorem dX7_writeBack_29 : decode cX7_writeBack 29 = .ok (.invokevirtual 54, 3) := by decide +kernel
theorem dX7_writeBack_32 : decode cX7_writeBack 32 = .ok (.aload_n 0, 1) := by decide +kernel
theorem dX7_writeBack_33 : decode cX7_writeBack 33 = .ok (.getfield 10, 3) := by decide +kernel
theorem dX7_writeBack_36 : decode cX7_writeBack 36 = .ok (.invokevirtual 164, 3) := by decide +kernel
theorem dX7_writeBack_39 : decode cX7_writeBack 39 = .ok (.ireturn, 1) := by decide +kernel
theorem dX7_pass_0 : decode cX7_pass 0 = .ok (.iload_n 1, 1) := by decide +kernel
theorem dX7_pass_1 : decode cX7_pass 1 = .ok (.iconst 1, 1) := by decide +kernel
theorem dX7_pass_2 : decode cX7_pass 2 = .ok (.bipush 100, 2) := by decide +kernel
theorem dX7_pass_4 : decode cX7_pass 4 = .ok (.invokestatic 33, 3) := by decide +kernel
theorem dX7_pass_7 : decode cX7_pass 7 = .ok (.invokestatic 37, 3) := by decide +kernel
theorem dX7_pass_10 : decode cX7_pass 10 = .ok (.aload_n 0, 1) := by decide +kernel
theorem dX7_pass_11 : decode cX7_pass 11 = .ok (.getfield 10, 3) := by decide +kernel
theorem dX7_pass_14 : decode cX7_pass 14 = .ok (.getfield 168, 3) := by decide +kernel
theorem dX7_pass_17 : decode cX7_pass 17 = .ok (.iload_n 1, 1) := by decide +kernel
theorem dX7_pass_18 : decode cX7_pass 18 = .ok (.iadd, 1) := by decide +kernel
theorem dX7_pass_19 : decode cX7_pass 19 = .ok (.sipush 10000, 3) := by decide +kernel
theorem dX7_pass_22 : decode cX7_pass 22 = .ok (.if_icmp .gt 7, 3) := by decide +kernel
theorem dX7_pass_25 : decode cX7_pass 25 = .ok (.iconst 1, 1) := by decide +kernel
theorem dX7_pass_26 : decode cX7_pass 26 = .ok (.goto 4, 3) := by decide +kernel
theorem dX7_pass_29 : decode cX7_pass 29 = .ok (.iconst 0, 1) := by decide +kernel
theorem dX7_pass_30 : decode cX7_pass 30 = .ok (.invokestatic 51, 3) := by decide +kernel
theorem dX7_pass_33 : decode cX7_pass 33 = .ok (.aload_n 0, 1) := by decide +kernel
theorem dX7_pass_34 : decode cX7_pass 34 = .ok (.getfield 22, 3) := by decide +kernel
theorem dX7_pass_37 : decode cX7_pass 37 = .ok (.aload_n 0, 1) := by decide +kernel
theorem dX7_pass_38 : decode cX7_pass 38 = .ok (.getfield 10, 3) := by decide +kernel
theorem dX7_pass_41 : decode cX7_pass 41 = .ok (.invokevirtual 54, 3) := by decide +kernel
theorem dX7_pass_44 : decode cX7_pass 44 = .ok (.aload_n 0, 1) := by decide +kernel
theorem dX7_pass_45 : decode cX7_pass 45 = .ok (.getfield 10, 3) := by decide +kernel
theorem dX7_pass_48 : decode cX7_pass 48 = .ok (.iload_n 1, 1) := by decide +kernel
theorem dX7_pass_49 : decode cX7_pass 49 = .ok (.invokevirtual 171, 3) := by decide +kernel
theorem dX7_pass_52 : decode cX7_pass 52 = .ok (.aload_n 0, 1) := by decide +kernel
theorem dX7_pass_53 : decode cX7_pass 53 = .ok (.getfield 10, 3) := by decide +kernel
theorem dX7_pass_56 : decode cX7_pass 56 = .ok (.getfield 124, 3) := by decide +kernel
theorem dX7_pass_59 : decode cX7_pass 59 = .ok (.ireturn, 1) := by decide +kernel
theorem dX7_append_0 : decode cX7_append 0 = .ok (.iload_n 1, 1) := by decide +kernel
theorem dX7_append_1 : decode cX7_append 1 = .ok (.bipush 33, 2) := by decide +kernel
theorem dX7_append_3 : decode cX7_append 3 = .ok (.bipush 126, 2) := by decide +kernel
theorem dX7_append_5 : decode cX7_append 5 = .ok (.invokestatic 33, 3) := by decide +kernel
theorem dX7_append_8 : decode cX7_append 8 = .ok (.invokestatic 37, 3) := by decide +kernel
theorem dX7_append_11 : decode cX7_append 11 = .ok (.aload_n 0, 1) := by decide +kernel
theorem dX7_append_12 : decode cX7_append 12 = .ok (.getfield 29, 3) := by decide +kernel
theorem dX7_append_15 : decode cX7_append 15 = .ok (.getfield 174, 3) := by decide +kernel
theorem dX7_append_18 : decode cX7_append 18 = .ok (.bipush 60, 2) := by decide +kernel
theorem dX7_append_20 : decode cX7_append 20 = .ok (.if_icmp .ge 7, 3) := by decide +kernel
theorem dX7_append_23 : decode cX7_append 23 = .ok (.iconst 1, 1) := by decide +kernel
theorem dX7_append_24 : decode cX7_append 24 = .ok (.goto 4, 3) := by decide +kernel
theorem dX7_append_27 : decode cX7_append 27 = .ok (.iconst 0, 1) := by decide +kernel
theorem dX7_append_28 : decode cX7_append 28 = .ok (.invokestatic 51, 3) := by decide +kernel
theorem dX7_append_31 : decode cX7_append 31 = .ok (.aload_n 0, 1) := by decide +kernel
theorem dX7_append_32 : decode cX7_append 32 = .ok (.getfield 29, 3) := by decide +kernel
theorem dX7_append_35 : decode cX7_append 35 = .ok (.iload_n 1, 1) := by decide +kernel
theorem dX7_append_36 : decode cX7_append 36 = .ok (.invokevirtual 177, 3) := by decide +kernel
theorem dX7_append_39 : decode cX7_append 39 = .ok (.aload_n 0, 1) := by decide +kernel
theorem dX7_append_40 : decode cX7_append 40 = .ok (.getfield 29, 3) := by decide +kernel
theorem dX7_append_43 : decode cX7_append 43 = .ok (.getfield 174, 3) := by decide +kernel
theorem dX7_append_46 : decode cX7_append 46 = .ok (.ireturn, 1) := by decide +kernel
theorem dX7_clearBuffer_0 : decode cX7_clearBuffer 0 = .ok (.aload_n 0, 1) := by decide +kernel
theorem dX7_clearBuffer_1 : decode cX7_clearBuffer 1 = .ok (.getfield 29, 3) := by decide +kernel
theorem dX7_clearBuffer_4 : decode cX7_clearBuffer 4 = .ok (.getfield 174, 3) := by decide +kernel
theorem dX7_clearBuffer_7 : decode cX7_clearBuffer 7 = .ok (.istore_n 1, 1) := by decide +kernel
theorem dX7_clearBuffer_8 : decode cX7_clearBuffer 8 = .ok (.aload_n 0, 1) := by decide +kernel
theorem dX7_clearBuffer_9 : decode cX7_clearBuffer 9 = .ok (.getfield 29, 3) := by decide +kernel
theorem dX7_clearBuffer_12 : decode cX7_clearBuffer 12 = .ok (.iconst 0, 1) := by decide +kernel
theorem dX7_clearBuffer_13 : decode cX7_clearBuffer 13 = .ok (.putfield 174, 3) := by decide +kernel
theorem dX7_clearBuffer_16 : decode cX7_clearBuffer 16 = .ok (.iload_n 1, 1) := by decide +kernel
theorem dX7_clearBuffer_17 : decode cX7_clearBuffer 17 = .ok (.ireturn, 1) := by decide +kernel
theorem dX7_run_0 : decode cX7_run 0 = .ok (.aload_n 0, 1) := by decide +kernel
theorem dX7_run_1 : decode cX7_run 1 = .ok (.iload_n 1, 1) := by decide +kernel
theorem dX7_run_2 : decode cX7_run 2 = .ok (.invokevirtual 86, 3) := by decide +kernel
theorem dX7_run_5 : decode cX7_run 5 = .ok (.aload_n 0, 1) := by decide +kernel
theorem dX7_run_6 : decode cX7_run 6 = .ok (.getfield 29, 3) := by decide +kernel
theorem dX7_run_9 : decode cX7_run 9 = .ok (.invokevirtual 183, 3) := by decide +kernel
theorem dX7_run_12 : decode cX7_run 12 = .ok (.invokestatic 37, 3) := by decide +kernel
theorem dX7_run_15 : decode cX7_run 15 = .ok (.aload_n 0, 1) := by decide +kernel
theorem dX7_run_16 : decode cX7_run 16 = .ok (.getfield 22, 3) := by decide +kernel
theorem dX7_run_19 : decode cX7_run 19 = .ok (.aload_n 0, 1) := by decide +kernel
theorem dX7_run_20 : decode cX7_run 20 = .ok (.getfield 10, 3) := by decide +kernel
theorem dX7_run_23 : decode cX7_run 23 = .ok (.invokevirtual 54, 3) := by decide +kernel
theorem dX7_run_26 : decode cX7_run 26 = .ok (.iconst 0, 1) := by decide +kernel
theorem dX7_run_27 : decode cX7_run 27 = .ok (.istore_n 2, 1) := by decide +kernel
theorem dX7_run_28 : decode cX7_run 28 = .ok (.iconst 0, 1) := by decide +kernel
theorem dX7_run_29 : decode cX7_run 29 = .ok (.istore_n 3, 1) := by decide +kernel
theorem dX7_run_30 : decode cX7_run 30 = .ok (.iload_n 2, 1) := by decide +kernel
theorem dX7_run_31 : decode cX7_run 31 = .ok (.bipush 60, 2) := by decide +kernel
theorem dX7_run_33 : decode cX7_run 33 = .ok (.if_icmp .ge 47, 3) := by decide +kernel
theorem dX7_run_36 : decode cX7_run 36 = .ok (.iload_n 3, 1) := by decide +kernel
theorem dX7_run_37 : decode cX7_run 37 = .ok (.aload_n 0, 1) := by decide +kernel
theorem dX7_run_38 : decode cX7_run 38 = .ok (.getfield 29, 3) := by decide +kernel
theorem dX7_run_41 : decode cX7_run 41 = .ok (.getfield 174, 3) := by decide +kernel
theorem dX7_run_44 : decode cX7_run 44 = .ok (.if_icmp .ge 36, 3) := by decide +kernel
theorem dX7_run_47 : decode cX7_run 47 = .ok (.aload_n 0, 1) := by decide +kernel
theorem dX7_run_48 : decode cX7_run 48 = .ok (.iload_n 1, 1) := by decide +kernel
theorem dX7_run_49 : decode cX7_run 49 = .ok (.iload_n 3, 1) := by decide +kernel
theorem dX7_run_50 : decode cX7_run 50 = .ok (.invokevirtual 187, 3) := by decide +kernel
theorem dX7_run_53 : decode cX7_run 53 = .ok (.ifCond .eq 27, 3) := by decide +kernel
theorem dX7_run_56 : decode cX7_run 56 = .ok (.aload_n 0, 1) := by decide +kernel
theorem dX7_run_57 : decode cX7_run 57 = .ok (.iload_n 3, 1) := by decide +kernel
theorem dX7_run_58 : decode cX7_run 58 = .ok (.invokevirtual 191, 3) := by decide +kernel
theorem dX7_run_61 : decode cX7_run 61 = .ok (.iinc 2 1, 3) := by decide +kernel
theorem dX7_run_64 : decode cX7_run 64 = .ok (.iload_n 3, 1) := by decide +kernel
theorem dX7_run_65 : decode cX7_run 65 = .ok (.aload_n 0, 1) := by decide +kernel
theorem dX7_run_66 : decode cX7_run 66 = .ok (.getfield 29, 3) := by decide +kernel
theorem dX7_run_69 : decode cX7_run 69 = .ok (.iload_n 3, 1) := by decide +kernel
theorem dX7_run_70 : decode cX7_run 70 = .ok (.invokevirtual 194, 3) := by decide +kernel
theorem dX7_run_73 : decode cX7_run 73 = .ok (.iconst 1, 1) := by decide +kernel
theorem dX7_run_74 : decode cX7_run 74 = .ok (.iadd, 1) := by decide +kernel
theorem dX7_run_75 : decode cX7_run 75 = .ok (.iadd, 1) := by decide +kernel
theorem dX7_run_76 : decode cX7_run 76 = .ok (.istore_n 3, 1) := by decide +kernel
theorem dX7_run_77 : decode cX7_run 77 = .ok (.goto (-47), 3) := by decide +kernel
theorem dX7_run_80 : decode cX7_run 80 = .ok (.aload_n 0, 1) := by decide +kernel
theorem dX7_run_81 : decode cX7_run 81 = .ok (.getfield 29, 3) := by decide +kernel
theorem dX7_run_84 : decode cX7_run 84 = .ok (.iconst 0, 1) := by decide +kernel
theorem dX7_run_85 : decode cX7_run 85 = .ok (.putfield 174, 3) := by decide +kernel
theorem dX7_run_88 : decode cX7_run 88 = .ok (.iload_n 2, 1) := by decide +kernel
theorem dX7_run_89 : decode cX7_run 89 = .ok (.ireturn, 1) := by decide +kernel
theorem dX7_core_0 : decode cX7_core 0 = .ok (.iload_n 1, 1) := by decide +kernel
theorem dX7_core_1 : decode cX7_core 1 = .ok (.invokestatic 83, 3) := by decide +kernel
theorem dX7_core_4 : decode cX7_core 4 = .ok (.iload_n 2, 1) := by decide +kernel
theorem dX7_core_5 : decode cX7_core 5 = .ok (.iconst 0, 1) := by decide +kernel
theorem dX7_core_6 : decode cX7_core 6 = .ok (.bipush 8, 2) := by decide +kernel
theorem dX7_core_8 : decode cX7_core 8 = .ok (.invokestatic 33, 3) := by decide +kernel
theorem dX7_core_11 : decode cX7_core 11 = .ok (.invokestatic 37, 3) := by decide +kernel
theorem dX7_core_14 : decode cX7_core 14 = .ok (.iload_n 2, 1) := by decide +kernel
theorem dX7_core_15 : decode cX7_core 15 = .ok (.tableswitch 147 0 7 #[45, 57, 70, 83, 92, 105, 114, 134], 45) := by decide +kernel
theorem dX7_core_60 : decode cX7_core 60 = .ok (.aload_n 0, 1) := by decide +kernel
theorem dX7_core_61 : decode cX7_core 61 = .ok (.getfield 10, 3) := by decide +kernel
theorem dX7_core_64 : decode cX7_core 64 = .ok (.getfield 89, 3) := by decide +kernel
theorem dX7_core_67 : decode cX7_core 67 = .ok (.iload_n 1, 1) := by decide +kernel
theorem dX7_core_68 : decode cX7_core 68 = .ok (.invokevirtual 148, 3) := by decide +kernel
theorem dX7_core_71 : decode cX7_core 71 = .ok (.ireturn, 1) := by decide +kernel
theorem dX7_core_72 : decode cX7_core 72 = .ok (.aload_n 0, 1) := by decide +kernel
theorem dX7_core_73 : decode cX7_core 73 = .ok (.getfield 10, 3) := by decide +kernel
theorem dX7_core_76 : decode cX7_core 76 = .ok (.getfield 89, 3) := by decide +kernel
theorem dX7_core_79 : decode cX7_core 79 = .ok (.getfield 138, 3) := by decide +kernel
theorem dX7_core_82 : decode cX7_core 82 = .ok (.iload_n 1, 1) := by decide +kernel
theorem dX7_core_83 : decode cX7_core 83 = .ok (.iaload, 1) := by decide +kernel
theorem dX7_core_84 : decode cX7_core 84 = .ok (.ireturn, 1) := by decide +kernel
theorem dX7_core_85 : decode cX7_core 85 = .ok (.aload_n 0, 1) := by decide +kernel
theorem dX7_core_86 : decode cX7_core 86 = .ok (.getfield 10, 3) := by decide +kernel
theorem dX7_core_89 : decode cX7_core 89 = .ok (.getfield 89, 3) := by decide +kernel
theorem dX7_core_92 : decode cX7_core 92 = .ok (.getfield 112, 3) := by decide +kernel
theorem dX7_core_95 : decode cX7_core 95 = .ok (.iload_n 1, 1) := by decide +kernel
theorem dX7_core_96 : decode cX7_core 96 = .ok (.iaload, 1) := by decide +kernel
theorem dX7_core_97 : decode cX7_core 97 = .ok (.ireturn, 1) := by decide +kernel
theorem dX7_core_98 : decode cX7_core 98 = .ok (.aload_n 0, 1) := by decide +kernel
theorem dX7_core_99 : decode cX7_core 99 = .ok (.getfield 10, 3) := by decide +kernel
theorem dX7_core_102 : decode cX7_core 102 = .ok (.iload_n 1, 1) := by decide +kernel
theorem dX7_core_103 : decode cX7_core 103 = .ok (.invokevirtual 121, 3) := by decide +kernel
theorem dX7_core_106 : decode cX7_core 106 = .ok (.ireturn, 1) := by decide +kernel
theorem dX7_core_107 : decode cX7_core 107 = .ok (.aload_n 0, 1) := by decide +kernel
theorem dX7_core_108 : decode cX7_core 108 = .ok (.getfield 10, 3) := by decide +kernel
theorem dX7_core_111 : decode cX7_core 111 = .ok (.getfield 89, 3) := by decide +kernel
theorem dX7_core_114 : decode cX7_core 114 = .ok (.getfield 201, 3) := by decide +kernel
theorem dX7_core_117 : decode cX7_core 117 = .ok (.iload_n 1, 1) := by decide +kernel
theorem dX7_core_118 : decode cX7_core 118 = .ok (.iaload, 1) := by decide +kernel
theorem dX7_core_119 : decode cX7_core 119 = .ok (.ireturn, 1) := by decide +kernel
theorem dX7_core_120 : decode cX7_core 120 = .ok (.aload_n 0, 1) := by decide +kernel
theorem dX7_core_121 : decode cX7_core 121 = .ok (.getfield 10, 3) := by decide +kernel
theorem dX7_core_124 : decode cX7_core 124 = .ok (.iload_n 1, 1) := by decide +kernel
theorem dX7_core_125 : decode cX7_core 125 = .ok (.invokevirtual 204, 3) := by decide +kernel
theorem dX7_core_128 : decode cX7_core 128 = .ok (.ireturn, 1) := by decide +kernel
theorem dX7_core_129 : decode cX7_core 129 = .ok (.aload_n 0, 1) := by decide +kernel
theorem dX7_core_130 : decode cX7_core 130 = .ok (.getfield 10, 3) := by decide +kernel
theorem dX7_core_133 : decode cX7_core 133 = .ok (.getfield 157, 3) := by decide +kernel
theorem dX7_core_136 : decode cX7_core 136 = .ok (.iload_n 1, 1) := by decide +kernel
theorem dX7_core_137 : decode cX7_core 137 = .ok (.invokevirtual 207, 3) := by decide +kernel
theorem dX7_core_140 : decode cX7_core 140 = .ok (.ifCond .eq 7, 3) := by decide +kernel
theorem dX7_core_143 : decode cX7_core 143 = .ok (.iconst 1, 1) := by decide +kernel
theorem dX7_core_144 : decode cX7_core 144 = .ok (.goto 4, 3) := by decide +kernel
theorem dX7_core_147 : decode cX7_core 147 = .ok (.iconst 0, 1) := by decide +kernel
theorem dX7_core_148 : decode cX7_core 148 = .ok (.ireturn, 1) := by decide +kernel
theorem dX7_core_149 : decode cX7_core 149 = .ok (.aload_n 0, 1) := by decide +kernel
theorem dX7_core_150 : decode cX7_core 150 = .ok (.getfield 10, 3) := by decide +kernel
theorem dX7_core_153 : decode cX7_core 153 = .ok (.getfield 157, 3) := by decide +kernel
theorem dX7_core_156 : decode cX7_core 156 = .ok (.getfield 210, 3) := by decide +kernel
theorem dX7_core_159 : decode cX7_core 159 = .ok (.iload_n 1, 1) := by decide +kernel
theorem dX7_core_160 : decode cX7_core 160 = .ok (.iaload, 1) := by decide +kernel
theorem dX7_core_161 : decode cX7_core 161 = .ok (.ireturn, 1) := by decide +kernel
theorem dX7_core_162 : decode cX7_core 162 = .ok (.aload_n 0, 1) := by decide +kernel
theorem dX7_core_163 : decode cX7_core 163 = .ok (.getfield 10, 3) := by decide +kernel
theorem dX7_core_166 : decode cX7_core 166 = .ok (.getfield 89, 3) := by decide +kernel
theorem dX7_core_169 : decode cX7_core 169 = .ok (.getfield 213, 3) := by decide +kernel
theorem dX7_core_172 : decode cX7_core 172 = .ok (.iload_n 1, 1) := by decide +kernel
theorem dX7_core_173 : decode cX7_core 173 = .ok (.iaload, 1) := by decide +kernel
theorem dX7_core_174 : decode cX7_core 174 = .ok (.ireturn, 1) := by decide +kernel
theorem dX7_tenant_0 : decode cX7_tenant 0 = .ok (.aload_n 0, 1) := by decide +kernel
theorem dX7_tenant_1 : decode cX7_tenant 1 = .ok (.iload_n 1, 1) := by decide +kernel
theorem dX7_tenant_2 : decode cX7_tenant 2 = .ok (.invokevirtual 86, 3) := by decide +kernel
theorem dX7_tenant_5 : decode cX7_tenant 5 = .ok (.iload_n 2, 1) := by decide +kernel
theorem dX7_tenant_6 : decode cX7_tenant 6 = .ok (.iconst 0, 1) := by decide +kernel
theorem dX7_tenant_7 : decode cX7_tenant 7 = .ok (.iconst 5, 1) := by decide +kernel
theorem dX7_tenant_8 : decode cX7_tenant 8 = .ok (.invokestatic 33, 3) := by decide +kernel
theorem dX7_tenant_11 : decode cX7_tenant 11 = .ok (.invokestatic 37, 3) := by decide +kernel
theorem dX7_tenant_14 : decode cX7_tenant 14 = .ok (.iload_n 2, 1) := by decide +kernel
theorem dX7_tenant_15 : decode cX7_tenant 15 = .ok (.tableswitch 96 0 4 #[33, 46, 58, 70, 83], 33) := by decide +kernel
theorem dX7_tenant_48 : decode cX7_tenant 48 = .ok (.aload_n 0, 1) := by decide +kernel
theorem dX7_tenant_49 : decode cX7_tenant 49 = .ok (.getfield 10, 3) := by decide +kernel
theorem dX7_tenant_52 : decode cX7_tenant 52 = .ok (.getfield 41, 3) := by decide +kernel
theorem dX7_tenant_55 : decode cX7_tenant 55 = .ok (.getfield 99, 3) := by decide +kernel
theorem dX7_tenant_58 : decode cX7_tenant 58 = .ok (.iload_n 1, 1) := by decide +kernel
theorem dX7_tenant_59 : decode cX7_tenant 59 = .ok (.iaload, 1) := by decide +kernel
theorem dX7_tenant_60 : decode cX7_tenant 60 = .ok (.ireturn, 1) := by decide +kernel
theorem dX7_tenant_61 : decode cX7_tenant 61 = .ok (.aload_n 0, 1) := by decide +kernel
theorem dX7_tenant_62 : decode cX7_tenant 62 = .ok (.getfield 10, 3) := by decide +kernel
theorem dX7_tenant_65 : decode cX7_tenant 65 = .ok (.getfield 89, 3) := by decide +kernel
theorem dX7_tenant_68 : decode cX7_tenant 68 = .ok (.iload_n 1, 1) := by decide +kernel
theorem dX7_tenant_69 : decode cX7_tenant 69 = .ok (.invokevirtual 216, 3) := by decide +kernel
theorem dX7_tenant_72 : decode cX7_tenant 72 = .ok (.ireturn, 1) := by decide +kernel
theorem dX7_tenant_73 : decode cX7_tenant 73 = .ok (.aload_n 0, 1) := by decide +kernel
theorem dX7_tenant_74 : decode cX7_tenant 74 = .ok (.getfield 10, 3) := by decide +kernel
theorem dX7_tenant_77 : decode cX7_tenant 77 = .ok (.getfield 89, 3) := by decide +kernel
theorem dX7_tenant_80 : decode cX7_tenant 80 = .ok (.iload_n 1, 1) := by decide +kernel
theorem dX7_tenant_81 : decode cX7_tenant 81 = .ok (.invokevirtual 219, 3) := by decide +kernel
theorem dX7_tenant_84 : decode cX7_tenant 84 = .ok (.ireturn, 1) := by decide +kernel
theorem dX7_tenant_85 : decode cX7_tenant 85 = .ok (.aload_n 0, 1) := by decide +kernel
theorem dX7_tenant_86 : decode cX7_tenant 86 = .ok (.getfield 10, 3) := by decide +kernel
theorem dX7_tenant_89 : decode cX7_tenant 89 = .ok (.getfield 41, 3) := by decide +kernel
theorem dX7_tenant_92 : decode cX7_tenant 92 = .ok (.getfield 222, 3) := by decide +kernel
theorem dX7_tenant_95 : decode cX7_tenant 95 = .ok (.iload_n 1, 1) := by decide +kernel
theorem dX7_tenant_96 : decode cX7_tenant 96 = .ok (.iaload, 1) := by decide +kernel
theorem dX7_tenant_97 : decode cX7_tenant 97 = .ok (.ireturn, 1) := by decide +kernel
theorem dX7_tenant_98 : decode cX7_tenant 98 = .ok (.aload_n 0, 1) := by decide +kernel
theorem dX7_tenant_99 : decode cX7_tenant 99 = .ok (.getfield 10, 3) := by decide +kernel
theorem dX7_tenant_102 : decode cX7_tenant 102 = .ok (.getfield 41, 3) := by decide +kernel
theorem dX7_tenant_105 : decode cX7_tenant 105 = .ok (.getfield 223, 3) := by decide +kernel
theorem dX7_tenant_108 : decode cX7_tenant 108 = .ok (.iload_n 1, 1) := by decide +kernel
theorem dX7_tenant_109 : decode cX7_tenant 109 = .ok (.iaload, 1) := by decide +kernel
theorem dX7_tenant_110 : decode cX7_tenant 110 = .ok (.ireturn, 1) := by decide +kernel
theorem dX7_tenant_111 : decode cX7_tenant 111 = .ok (.aload_n 0, 1) := by decide +kernel
theorem dX7_tenant_112 : decode cX7_tenant 112 = .ok (.getfield 10, 3) := by decide +kernel
theorem dX7_tenant_115 : decode cX7_tenant 115 = .ok (.iload_n 1, 1) := by decide +kernel
theorem dX7_tenant_116 : decode cX7_tenant 116 = .ok (.invokevirtual 226, 3) := by decide +kernel
theorem dX7_tenant_119 : decode cX7_tenant 119 = .ok (.ireturn, 1) := by decide +kernel
theorem dX7_insurer_0 : decode cX7_insurer 0 = .ok (.aload_n 0, 1) := by decide +kernel
theorem dX7_insurer_1 : decode cX7_insurer 1 = .ok (.iload_n 1, 1) := by decide +kernel
theorem dX7_insurer_2 : decode cX7_insurer 2 = .ok (.invokevirtual 109, 3) := by decide +kernel
theorem dX7_insurer_5 : decode cX7_insurer 5 = .ok (.iload_n 2, 1) := by decide +kernel
theorem dX7_insurer_6 : decode cX7_insurer 6 = .ok (.iconst 0, 1) := by decide +kernel
theorem dX7_insurer_7 : decode cX7_insurer 7 = .ok (.bipush 6, 2) := by decide +kernel
theorem dX7_insurer_9 : decode cX7_insurer 9 = .ok (.invokestatic 33, 3) := by decide +kernel
theorem dX7_insurer_12 : decode cX7_insurer 12 = .ok (.invokestatic 37, 3) := by decide +kernel
theorem dX7_insurer_15 : decode cX7_insurer 15 = .ok (.iload_n 2, 1) := by decide +kernel
theorem dX7_insurer_16 : decode cX7_insurer 16 = .ok (.tableswitch 113 0 5 #[40, 53, 66, 79, 91, 104], 40) := by decide +kernel
theorem dX7_insurer_56 : decode cX7_insurer 56 = .ok (.aload_n 0, 1) := by decide +kernel
theorem dX7_insurer_57 : decode cX7_insurer 57 = .ok (.getfield 10, 3) := by decide +kernel
theorem dX7_insurer_60 : decode cX7_insurer 60 = .ok (.getfield 62, 3) := by decide +kernel
theorem dX7_insurer_63 : decode cX7_insurer 63 = .ok (.getfield 229, 3) := by decide +kernel
theorem dX7_insurer_66 : decode cX7_insurer 66 = .ok (.iload_n 1, 1) := by decide +kernel
theorem dX7_insurer_67 : decode cX7_insurer 67 = .ok (.iaload, 1) := by decide +kernel
theorem dX7_insurer_68 : decode cX7_insurer 68 = .ok (.ireturn, 1) := by decide +kernel
theorem dX7_insurer_69 : decode cX7_insurer 69 = .ok (.aload_n 0, 1) := by decide +kernel
theorem dX7_insurer_70 : decode cX7_insurer 70 = .ok (.getfield 10, 3) := by decide +kernel
theorem dX7_insurer_73 : decode cX7_insurer 73 = .ok (.getfield 62, 3) := by decide +kernel
theorem dX7_insurer_76 : decode cX7_insurer 76 = .ok (.getfield 232, 3) := by decide +kernel
theorem dX7_insurer_79 : decode cX7_insurer 79 = .ok (.iload_n 1, 1) := by decide +kernel
theorem dX7_insurer_80 : decode cX7_insurer 80 = .ok (.iaload, 1) := by decide +kernel
theorem dX7_insurer_81 : decode cX7_insurer 81 = .ok (.ireturn, 1) := by decide +kernel
theorem dX7_insurer_82 : decode cX7_insurer 82 = .ok (.aload_n 0, 1) := by decide +kernel
theorem dX7_insurer_83 : decode cX7_insurer 83 = .ok (.getfield 10, 3) := by decide +kernel
theorem dX7_insurer_86 : decode cX7_insurer 86 = .ok (.getfield 62, 3) := by decide +kernel
theorem dX7_insurer_89 : decode cX7_insurer 89 = .ok (.getfield 235, 3) := by decide +kernel
theorem dX7_insurer_92 : decode cX7_insurer 92 = .ok (.iload_n 1, 1) := by decide +kernel
theorem dX7_insurer_93 : decode cX7_insurer 93 = .ok (.iaload, 1) := by decide +kernel
theorem dX7_insurer_94 : decode cX7_insurer 94 = .ok (.ireturn, 1) := by decide +kernel
theorem dX7_insurer_95 : decode cX7_insurer 95 = .ok (.aload_n 0, 1) := by decide +kernel
theorem dX7_insurer_96 : decode cX7_insurer 96 = .ok (.getfield 10, 3) := by decide +kernel
theorem dX7_insurer_99 : decode cX7_insurer 99 = .ok (.getfield 89, 3) := by decide +kernel
theorem dX7_insurer_102 : decode cX7_insurer 102 = .ok (.iload_n 1, 1) := by decide +kernel
theorem dX7_insurer_103 : decode cX7_insurer 103 = .ok (.invokevirtual 238, 3) := by decide +kernel
theorem dX7_insurer_106 : decode cX7_insurer 106 = .ok (.ireturn, 1) := by decide +kernel
theorem dX7_insurer_107 : decode cX7_insurer 107 = .ok (.aload_n 0, 1) := by decide +kernel
theorem dX7_insurer_108 : decode cX7_insurer 108 = .ok (.getfield 10, 3) := by decide +kernel
theorem dX7_insurer_111 : decode cX7_insurer 111 = .ok (.getfield 62, 3) := by decide +kernel
theorem dX7_insurer_114 : decode cX7_insurer 114 = .ok (.getfield 241, 3) := by decide +kernel
theorem dX7_insurer_117 : decode cX7_insurer 117 = .ok (.iload_n 1, 1) := by decide +kernel
theorem dX7_insurer_118 : decode cX7_insurer 118 = .ok (.iaload, 1) := by decide +kernel
theorem dX7_insurer_119 : decode cX7_insurer 119 = .ok (.ireturn, 1) := by decide +kernel
theorem dX7_insurer_120 : decode cX7_insurer 120 = .ok (.aload_n 0, 1) := by decide +kernel
theorem dX7_insurer_121 : decode cX7_insurer 121 = .ok (.getfield 10, 3) := by decide +kernel
theorem dX7_insurer_124 : decode cX7_insurer 124 = .ok (.iload_n 1, 1) := by decide +kernel
theorem dX7_insurer_125 : decode cX7_insurer 125 = .ok (.invokevirtual 244, 3) := by decide +kernel
theorem dX7_insurer_128 : decode cX7_insurer 128 = .ok (.ireturn, 1) := by decide +kernel
theorem dX7_insurer_129 : decode cX7_insurer 129 = .ok (.aload_n 0, 1) := by decide +kernel
theorem dX7_insurer_130 : decode cX7_insurer 130 = .ok (.getfield 10, 3) := by decide +kernel
theorem dX7_insurer_133 : decode cX7_insurer 133 = .ok (.getfield 62, 3) := by decide +kernel
theorem dX7_insurer_136 : decode cX7_insurer 136 = .ok (.getfield 247, 3) := by decide +kernel
theorem dX7_insurer_139 : decode cX7_insurer 139 = .ok (.iload_n 1, 1) := by decide +kernel
theorem dX7_insurer_140 : decode cX7_insurer 140 = .ok (.iaload, 1) := by decide +kernel
theorem dX7_insurer_141 : decode cX7_insurer 141 = .ok (.ireturn, 1) := by decide +kernel
theorem dX7_owed_0 : decode cX7_owed 0 = .ok (.iload_n 1, 1) := by decide +kernel
theorem dX7_owed_1 : decode cX7_owed 1 = .ok (.iconst 0, 1) := by decide +kernel
theorem dX7_owed_2 : decode cX7_owed 2 = .ok (.bipush 63, 2) := by decide +kernel
theorem dX7_owed_4 : decode cX7_owed 4 = .ok (.invokestatic 33, 3) := by decide +kernel
theorem dX7_owed_7 : decode cX7_owed 7 = .ok (.invokestatic 37, 3) := by decide +kernel
theorem dX7_owed_10 : decode cX7_owed 10 = .ok (.iload_n 2, 1) := by decide +kernel
theorem dX7_owed_11 : decode cX7_owed 11 = .ok (.iconst 0, 1) := by decide +kernel
theorem dX7_owed_12 : decode cX7_owed 12 = .ok (.iconst 1, 1) := by decide +kernel
theorem dX7_owed_13 : decode cX7_owed 13 = .ok (.invokestatic 33, 3) := by decide +kernel
theorem dX7_owed_16 : decode cX7_owed 16 = .ok (.invokestatic 37, 3) := by decide +kernel
theorem dX7_owed_19 : decode cX7_owed 19 = .ok (.iload_n 1, 1) := by decide +kernel
theorem dX7_owed_20 : decode cX7_owed 20 = .ok (.aload_n 0, 1) := by decide +kernel
theorem dX7_owed_21 : decode cX7_owed 21 = .ok (.getfield 10, 3) := by decide +kernel
theorem dX7_owed_24 : decode cX7_owed 24 = .ok (.getfield 157, 3) := by decide +kernel
theorem dX7_owed_27 : decode cX7_owed 27 = .ok (.getfield 161, 3) := by decide +kernel
theorem dX7_owed_30 : decode cX7_owed 30 = .ok (.if_icmp .lt 5, 3) := by decide +kernel
theorem dX7_owed_33 : decode cX7_owed 33 = .ok (.iconst (-1), 1) := by decide +kernel
theorem dX7_owed_34 : decode cX7_owed 34 = .ok (.ireturn, 1) := by decide +kernel
theorem dX7_owed_35 : decode cX7_owed 35 = .ok (.aload_n 0, 1) := by decide +kernel
theorem dX7_owed_36 : decode cX7_owed 36 = .ok (.getfield 10, 3) := by decide +kernel
theorem dX7_owed_39 : decode cX7_owed 39 = .ok (.getfield 157, 3) := by decide +kernel
theorem dX7_owed_42 : decode cX7_owed 42 = .ok (.getfield 250, 3) := by decide +kernel
theorem dX7_owed_45 : decode cX7_owed 45 = .ok (.iload_n 1, 1) := by decide +kernel
theorem dX7_owed_46 : decode cX7_owed 46 = .ok (.iaload, 1) := by decide +kernel
theorem dX7_owed_47 : decode cX7_owed 47 = .ok (.istore_n 3, 1) := by decide +kernel
theorem dX7_owed_48 : decode cX7_owed 48 = .ok (.iload_n 2, 1) := by decide +kernel
theorem dX7_owed_49 : decode cX7_owed 49 = .ok (.ifCond .ne 7, 3) := by decide +kernel
theorem dX7_owed_52 : decode cX7_owed 52 = .ok (.iload_n 3, 1) := by decide +kernel
theorem dX7_owed_53 : decode cX7_owed 53 = .ok (.goto 14, 3) := by decide +kernel
theorem dX7_owed_56 : decode cX7_owed 56 = .ok (.aload_n 0, 1) := by decide +kernel
theorem dX7_owed_57 : decode cX7_owed 57 = .ok (.getfield 10, 3) := by decide +kernel
theorem dX7_owed_60 : decode cX7_owed 60 = .ok (.getfield 157, 3) := by decide +kernel
theorem dX7_owed_63 : decode cX7_owed 63 = .ok (.iload_n 3, 1) := by decide +kernel
theorem dX7_owed_64 : decode cX7_owed 64 = .ok (.invokevirtual 253, 3) := by decide +kernel
theorem dX7_owed_67 : decode cX7_owed 67 = .ok (.ireturn, 1) := by decide +kernel
theorem dX7_count_0 : decode cX7_count 0 = .ok (.iload_n 1, 1) := by decide +kernel
theorem dX7_count_1 : decode cX7_count 1 = .ok (.iconst 0, 1) := by decide +kernel
theorem dX7_count_2 : decode cX7_count 2 = .ok (.bipush 18, 2) := by decide +kernel
theorem dX7_count_4 : decode cX7_count 4 = .ok (.invokestatic 33, 3) := by decide +kernel
theorem dX7_count_7 : decode cX7_count 7 = .ok (.invokestatic 37, 3) := by decide +kernel
theorem dX7_count_10 : decode cX7_count 10 = .ok (.iload_n 1, 1) := by decide +kernel
theorem dX7_count_11 : decode cX7_count 11 = .ok (.tableswitch 190 0 18 #[89, 97, 105, 116, 127, 138, 149, 160, 190, 190, 190, 190, 190, 190, 190, 190, 174, 190, 182], 89) := by decide +kernel
theorem dX7_count_100 : decode cX7_count 100 = .ok (.aload_n 0, 1) := by decide +kernel
theorem dX7_count_101 : decode cX7_count 101 = .ok (.getfield 10, 3) := by decide +kernel
theorem dX7_count_104 : decode cX7_count 104 = .ok (.getfield 168, 3) := by decide +kernel
theorem dX7_count_107 : decode cX7_count 107 = .ok (.ireturn, 1) := by decide +kernel
theorem dX7_count_108 : decode cX7_count 108 = .ok (.aload_n 0, 1) := by decide +kernel
theorem dX7_count_109 : decode cX7_count 109 = .ok (.getfield 10, 3) := by decide +kernel
theorem dX7_count_112 : decode cX7_count 112 = .ok (.getfield 124, 3) := by decide +kernel
theorem dX7_count_115 : decode cX7_count 115 = .ok (.ireturn, 1) := by decide +kernel
theorem dX7_count_116 : decode cX7_count 116 = .ok (.aload_n 0, 1) := by decide +kernel
theorem dX7_count_117 : decode cX7_count 117 = .ok (.getfield 10, 3) := by decide +kernel
theorem dX7_count_120 : decode cX7_count 120 = .ok (.getfield 41, 3) := by decide +kernel
theorem dX7_count_123 : decode cX7_count 123 = .ok (.getfield 45, 3) := by decide +kernel
theorem dX7_count_126 : decode cX7_count 126 = .ok (.ireturn, 1) := by decide +kernel
theorem dX7_count_127 : decode cX7_count 127 = .ok (.aload_n 0, 1) := by decide +kernel
theorem dX7_count_128 : decode cX7_count 128 = .ok (.getfield 10, 3) := by decide +kernel
theorem dX7_count_131 : decode cX7_count 131 = .ok (.getfield 62, 3) := by decide +kernel
theorem dX7_count_134 : decode cX7_count 134 = .ok (.getfield 66, 3) := by decide +kernel
theorem dX7_count_137 : decode cX7_count 137 = .ok (.ireturn, 1) := by decide +kernel
theorem dX7_count_138 : decode cX7_count 138 = .ok (.aload_n 0, 1) := by decide +kernel
theorem dX7_count_139 : decode cX7_count 139 = .ok (.getfield 10, 3) := by decide +kernel
theorem dX7_count_142 : decode cX7_count 142 = .ok (.getfield 89, 3) := by decide +kernel
theorem dX7_count_145 : decode cX7_count 145 = .ok (.invokevirtual 259, 3) := by decide +kernel
theorem dX7_count_148 : decode cX7_count 148 = .ok (.ireturn, 1) := by decide +kernel
theorem dX7_count_149 : decode cX7_count 149 = .ok (.aload_n 0, 1) := by decide +kernel
theorem dX7_count_150 : decode cX7_count 150 = .ok (.getfield 10, 3) := by decide +kernel
theorem dX7_count_153 : decode cX7_count 153 = .ok (.getfield 89, 3) := by decide +kernel
theorem dX7_count_156 : decode cX7_count 156 = .ok (.invokevirtual 262, 3) := by decide +kernel
theorem dX7_count_159 : decode cX7_count 159 = .ok (.ireturn, 1) := by decide +kernel
theorem dX7_count_160 : decode cX7_count 160 = .ok (.aload_n 0, 1) := by decide +kernel
theorem dX7_count_161 : decode cX7_count 161 = .ok (.getfield 10, 3) := by decide +kernel
theorem dX7_count_164 : decode cX7_count 164 = .ok (.getfield 157, 3) := by decide +kernel
theorem dX7_count_167 : decode cX7_count 167 = .ok (.getfield 161, 3) := by decide +kernel
theorem dX7_count_170 : decode cX7_count 170 = .ok (.ireturn, 1) := by decide +kernel
theorem dX7_count_171 : decode cX7_count 171 = .ok (.aload_n 0, 1) := by decide +kernel
theorem dX7_count_172 : decode cX7_count 172 = .ok (.getfield 10, 3) := by decide +kernel
theorem dX7_count_175 : decode cX7_count 175 = .ok (.getfield 89, 3) := by decide +kernel
theorem dX7_count_178 : decode cX7_count 178 = .ok (.getfield 265, 3) := by decide +kernel
theorem dX7_count_181 : decode cX7_count 181 = .ok (.invokestatic 269, 3) := by decide +kernel
theorem dX7_count_184 : decode cX7_count 184 = .ok (.ireturn, 1) := by decide +kernel
theorem dX7_count_185 : decode cX7_count 185 = .ok (.aload_n 0, 1) := by decide +kernel
theorem dX7_count_186 : decode cX7_count 186 = .ok (.getfield 10, 3) := by decide +kernel
theorem dX7_count_189 : decode cX7_count 189 = .ok (.getfield 135, 3) := by decide +kernel
theorem dX7_count_192 : decode cX7_count 192 = .ok (.ireturn, 1) := by decide +kernel
theorem dX7_count_193 : decode cX7_count 193 = .ok (.aload_n 0, 1) := by decide +kernel
theorem dX7_count_194 : decode cX7_count 194 = .ok (.getfield 22, 3) := by decide +kernel
theorem dX7_count_197 : decode cX7_count 197 = .ok (.getfield 197, 3) := by decide +kernel
theorem dX7_count_200 : decode cX7_count 200 = .ok (.ireturn, 1) := by decide +kernel
theorem dX7_count_201 : decode cX7_count 201 = .ok (.aload_n 0, 1) := by decide +kernel
theorem dX7_count_202 : decode cX7_count 202 = .ok (.getfield 10, 3) := by decide +kernel
theorem dX7_count_205 : decode cX7_count 205 = .ok (.getfield 275, 3) := by decide +kernel
theorem dX7_count_208 : decode cX7_count 208 = .ok (.iload_n 1, 1) := by decide +kernel
theorem dX7_count_209 : decode cX7_count 209 = .ok (.iaload, 1) := by decide +kernel
theorem dX7_count_210 : decode cX7_count 210 = .ok (.ireturn, 1) := by decide +kernel
theorem dX7_setting_0 : decode cX7_setting 0 = .ok (.iload_n 1, 1) := by decide +kernel
theorem dX7_setting_1 : decode cX7_setting 1 = .ok (.invokestatic 72, 3) := by decide +kernel
theorem dX7_setting_4 : decode cX7_setting 4 = .ok (.aload_n 0, 1) := by decide +kernel
theorem dX7_setting_5 : decode cX7_setting 5 = .ok (.getfield 10, 3) := by decide +kernel
theorem dX7_setting_8 : decode cX7_setting 8 = .ok (.getfield 80, 3) := by decide +kernel
theorem dX7_setting_11 : decode cX7_setting 11 = .ok (.iload_n 1, 1) := by decide +kernel
theorem dX7_setting_12 : decode cX7_setting 12 = .ok (.iaload, 1) := by decide +kernel
theorem dX7_setting_13 : decode cX7_setting 13 = .ok (.ireturn, 1) := by decide +kernel
theorem dX7_premium_0 : decode cX7_premium 0 = .ok (.iload_n 1, 1) := by decide +kernel
theorem dX7_premium_1 : decode cX7_premium 1 = .ok (.invokestatic 83, 3) := by decide +kernel
theorem dX7_premium_4 : decode cX7_premium 4 = .ok (.aload_n 0, 1) := by decide +kernel
theorem dX7_premium_5 : decode cX7_premium 5 = .ok (.iload_n 2, 1) := by decide +kernel
theorem dX7_premium_6 : decode cX7_premium 6 = .ok (.invokevirtual 109, 3) := by decide +kernel
theorem dX7_premium_9 : decode cX7_premium 9 = .ok (.iload_n 3, 1) := by decide +kernel
theorem dX7_premium_10 : decode cX7_premium 10 = .ok (.iconst 1, 1) := by decide +kernel
theorem dX7_premium_11 : decode cX7_premium 11 = .ok (.sipush 200, 3) := by decide +kernel
theorem dX7_premium_14 : decode cX7_premium 14 = .ok (.invokestatic 33, 3) := by decide +kernel
theorem dX7_premium_17 : decode cX7_premium 17 = .ok (.invokestatic 37, 3) := by decide +kernel
theorem dX7_premium_20 : decode cX7_premium 20 = .ok (.aload_n 0, 1) := by decide +kernel
theorem dX7_premium_21 : decode cX7_premium 21 = .ok (.getfield 10, 3) := by decide +kernel
theorem dX7_premium_24 : decode cX7_premium 24 = .ok (.iload_n 1, 1) := by decide +kernel
theorem dX7_premium_25 : decode cX7_premium 25 = .ok (.iload_n 2, 1) := by decide +kernel
theorem dX7_premium_26 : decode cX7_premium 26 = .ok (.iload_n 3, 1) := by decide +kernel
theorem dX7_premium_27 : decode cX7_premium 27 = .ok (.aload_n 0, 1) := by decide +kernel
theorem dX7_premium_28 : decode cX7_premium 28 = .ok (.getfield 10, 3) := by decide +kernel
theorem dX7_premium_31 : decode cX7_premium 31 = .ok (.getfield 124, 3) := by decide +kernel
theorem dX7_premium_34 : decode cX7_premium 34 = .ok (.invokevirtual 127, 3) := by decide +kernel
theorem dX7_premium_37 : decode cX7_premium 37 = .ok (.ireturn, 1) := by decide +kernel
theorem dX7_cheapest_0 : decode cX7_cheapest 0 = .ok (.iload_n 1, 1) := by decide +kernel
theorem dX7_cheapest_1 : decode cX7_cheapest 1 = .ok (.invokestatic 83, 3) := by decide +kernel
theorem dX7_cheapest_4 : decode cX7_cheapest 4 = .ok (.iload_n 2, 1) := by decide +kernel
theorem dX7_cheapest_5 : decode cX7_cheapest 5 = .ok (.iconst 1, 1) := by decide +kernel
theorem dX7_cheapest_6 : decode cX7_cheapest 6 = .ok (.sipush 500, 3) := by decide +kernel
theorem dX7_cheapest_9 : decode cX7_cheapest 9 = .ok (.invokestatic 33, 3) := by decide +kernel
theorem dX7_cheapest_12 : decode cX7_cheapest 12 = .ok (.invokestatic 37, 3) := by decide +kernel
theorem dX7_cheapest_15 : decode cX7_cheapest 15 = .ok (.iload_n 3, 1) := by decide +kernel
theorem dX7_cheapest_16 : decode cX7_cheapest 16 = .ok (.iconst 1, 1) := by decide +kernel
theorem dX7_cheapest_17 : decode cX7_cheapest 17 = .ok (.sipush 200, 3) := by decide +kernel
theorem dX7_cheapest_20 : decode cX7_cheapest 20 = .ok (.invokestatic 33, 3) := by decide +kernel
theorem dX7_cheapest_23 : decode cX7_cheapest 23 = .ok (.invokestatic 37, 3) := by decide +kernel
theorem dX7_cheapest_26 : decode cX7_cheapest 26 = .ok (.iconst (-1), 1) := by decide +kernel
theorem dX7_cheapest_27 : decode cX7_cheapest 27 = .ok (.istore 4, 2) := by decide +kernel
theorem dX7_cheapest_29 : decode cX7_cheapest 29 = .ok (.iconst 0, 1) := by decide +kernel
theorem dX7_cheapest_30 : decode cX7_cheapest 30 = .ok (.istore 5, 2) := by decide +kernel
theorem dX7_cheapest_32 : decode cX7_cheapest 32 = .ok (.iconst 0, 1) := by decide +kernel
theorem dX7_cheapest_33 : decode cX7_cheapest 33 = .ok (.istore 6, 2) := by decide +kernel
theorem dX7_cheapest_35 : decode cX7_cheapest 35 = .ok (.iload 6, 2) := by decide +kernel
theorem dX7_cheapest_37 : decode cX7_cheapest 37 = .ok (.aload_n 0, 1) := by decide +kernel
theorem dX7_cheapest_38 : decode cX7_cheapest 38 = .ok (.getfield 10, 3) := by decide +kernel
theorem dX7_cheapest_41 : decode cX7_cheapest 41 = .ok (.getfield 62, 3) := by decide +kernel
theorem dX7_cheapest_44 : decode cX7_cheapest 44 = .ok (.getfield 66, 3) := by decide +kernel
theorem dX7_cheapest_47 : decode cX7_cheapest 47 = .ok (.if_icmp .ge 67, 3) := by decide +kernel
theorem dX7_cheapest_50 : decode cX7_cheapest 50 = .ok (.aload_n 0, 1) := by decide +kernel
theorem dX7_cheapest_51 : decode cX7_cheapest 51 = .ok (.getfield 10, 3) := by decide +kernel
theorem dX7_cheapest_54 : decode cX7_cheapest 54 = .ok (.iload_n 1, 1) := by decide +kernel
theorem dX7_cheapest_55 : decode cX7_cheapest 55 = .ok (.iload 6, 2) := by decide +kernel
theorem dX7_cheapest_57 : decode cX7_cheapest 57 = .ok (.iload_n 3, 1) := by decide +kernel
theorem dX7_cheapest_58 : decode cX7_cheapest 58 = .ok (.aload_n 0, 1) := by decide +kernel
theorem dX7_cheapest_59 : decode cX7_cheapest 59 = .ok (.getfield 10, 3) := by decide +kernel
theorem dX7_cheapest_62 : decode cX7_cheapest 62 = .ok (.getfield 124, 3) := by decide +kernel
theorem dX7_cheapest_65 : decode cX7_cheapest 65 = .ok (.invokevirtual 127, 3) := by decide +kernel
theorem dX7_cheapest_68 : decode cX7_cheapest 68 = .ok (.istore 7, 2) := by decide +kernel
theorem dX7_cheapest_70 : decode cX7_cheapest 70 = .ok (.aload_n 0, 1) := by decide +kernel
theorem dX7_cheapest_71 : decode cX7_cheapest 71 = .ok (.getfield 10, 3) := by decide +kernel
theorem dX7_cheapest_74 : decode cX7_cheapest 74 = .ok (.getfield 62, 3) := by decide +kernel
theorem dX7_cheapest_77 : decode cX7_cheapest 77 = .ok (.getfield 235, 3) := by decide +kernel
theorem dX7_cheapest_80 : decode cX7_cheapest 80 = .ok (.iload 6, 2) := by decide +kernel
theorem dX7_cheapest_82 : decode cX7_cheapest 82 = .ok (.iaload, 1) := by decide +kernel
theorem dX7_cheapest_83 : decode cX7_cheapest 83 = .ok (.iload_n 2, 1) := by decide +kernel
theorem dX7_cheapest_84 : decode cX7_cheapest 84 = .ok (.if_icmp .lt 24, 3) := by decide +kernel
theorem dX7_cheapest_87 : decode cX7_cheapest 87 = .ok (.iload 4, 2) := by decide +kernel
theorem dX7_cheapest_89 : decode cX7_cheapest 89 = .ok (.iconst (-1), 1) := by decide +kernel
theorem dX7_cheapest_90 : decode cX7_cheapest 90 = .ok (.if_icmp .eq 10, 3) := by decide +kernel
theorem dX7_cheapest_93 : decode cX7_cheapest 93 = .ok (.iload 7, 2) := by decide +kernel
theorem dX7_cheapest_95 : decode cX7_cheapest 95 = .ok (.iload 5, 2) := by decide +kernel
theorem dX7_cheapest_97 : decode cX7_cheapest 97 = .ok (.if_icmp .ge 11, 3) := by decide +kernel
theorem dX7_cheapest_100 : decode cX7_cheapest 100 = .ok (.iload 6, 2) := by decide +kernel
theorem dX7_cheapest_102 : decode cX7_cheapest 102 = .ok (.istore 4, 2) := by decide +kernel
theorem dX7_cheapest_104 : decode cX7_cheapest 104 = .ok (.iload 7, 2) := by decide +kernel
theorem dX7_cheapest_106 : decode cX7_cheapest 106 = .ok (.istore 5, 2) := by decide +kernel
theorem dX7_cheapest_108 : decode cX7_cheapest 108 = .ok (.iinc 6 1, 3) := by decide +kernel
theorem dX7_cheapest_111 : decode cX7_cheapest 111 = .ok (.goto (-76), 3) := by decide +kernel
theorem dX7_cheapest_114 : decode cX7_cheapest 114 = .ok (.iload 4, 2) := by decide +kernel
theorem dX7_cheapest_116 : decode cX7_cheapest 116 = .ok (.ireturn, 1) := by decide +kernel
theorem dX7_waitFor_0 : decode cX7_waitFor 0 = .ok (.iload_n 1, 1) := by decide +kernel
theorem dX7_waitFor_1 : decode cX7_waitFor 1 = .ok (.invokestatic 83, 3) := by decide +kernel
theorem dX7_waitFor_4 : decode cX7_waitFor 4 = .ok (.aload_n 0, 1) := by decide +kernel
theorem dX7_waitFor_5 : decode cX7_waitFor 5 = .ok (.iload_n 2, 1) := by decide +kernel
theorem dX7_waitFor_6 : decode cX7_waitFor 6 = .ok (.invokevirtual 109, 3) := by decide +kernel
theorem dX7_waitFor_9 : decode cX7_waitFor 9 = .ok (.iload_n 3, 1) := by decide +kernel
theorem dX7_waitFor_10 : decode cX7_waitFor 10 = .ok (.iconst 1, 1) := by decide +kernel
theorem dX7_waitFor_11 : decode cX7_waitFor 11 = .ok (.sipush 200, 3) := by decide +kernel
theorem dX7_waitFor_14 : decode cX7_waitFor 14 = .ok (.invokestatic 33, 3) := by decide +kernel
theorem dX7_waitFor_17 : decode cX7_waitFor 17 = .ok (.invokestatic 37, 3) := by decide +kernel
theorem dX7_waitFor_20 : decode cX7_waitFor 20 = .ok (.iload 4, 2) := by decide +kernel
theorem dX7_waitFor_22 : decode cX7_waitFor 22 = .ok (.iconst 1, 1) := by decide +kernel
theorem dX7_waitFor_23 : decode cX7_waitFor 23 = .ok (.sipush 10000, 3) := by decide +kernel
theorem dX7_waitFor_26 : decode cX7_waitFor 26 = .ok (.invokestatic 33, 3) := by decide +kernel
theorem dX7_waitFor_29 : decode cX7_waitFor 29 = .ok (.invokestatic 37, 3) := by decide +kernel
theorem dX7_waitFor_32 : decode cX7_waitFor 32 = .ok (.iconst 0, 1) := by decide +kernel
theorem dX7_waitFor_33 : decode cX7_waitFor 33 = .ok (.istore 5, 2) := by decide +kernel
theorem dX7_waitFor_35 : decode cX7_waitFor 35 = .ok (.iload 5, 2) := by decide +kernel
theorem dX7_waitFor_37 : decode cX7_waitFor 37 = .ok (.sipush 200, 3) := by decide +kernel
theorem dX7_waitFor_40 : decode cX7_waitFor 40 = .ok (.if_icmp .gt 56, 3) := by decide +kernel
theorem dX7_waitFor_43 : decode cX7_waitFor 43 = .ok (.iconst 0, 1) := by decide +kernel
theorem dX7_waitFor_44 : decode cX7_waitFor 44 = .ok (.aload_n 0, 1) := by decide +kernel
theorem dX7_waitFor_45 : decode cX7_waitFor 45 = .ok (.getfield 10, 3) := by decide +kernel
theorem dX7_waitFor_48 : decode cX7_waitFor 48 = .ok (.getfield 124, 3) := by decide +kernel
theorem dX7_waitFor_51 : decode cX7_waitFor 51 = .ok (.iload 5, 2) := by decide +kernel
theorem dX7_waitFor_53 : decode cX7_waitFor 53 = .ok (.aload_n 0, 1) := by decide +kernel
theorem dX7_waitFor_54 : decode cX7_waitFor 54 = .ok (.getfield 10, 3) := by decide +kernel
theorem dX7_waitFor_57 : decode cX7_waitFor 57 = .ok (.getfield 80, 3) := by decide +kernel
theorem dX7_waitFor_60 : decode cX7_waitFor 60 = .ok (.bipush 6, 2) := by decide +kernel
theorem dX7_waitFor_62 : decode cX7_waitFor 62 = .ok (.iaload, 1) := by decide +kernel
theorem dX7_waitFor_63 : decode cX7_waitFor 63 = .ok (.imul, 1) := by decide +kernel
theorem dX7_waitFor_64 : decode cX7_waitFor 64 = .ok (.isub, 1) := by decide +kernel
theorem dX7_waitFor_65 : decode cX7_waitFor 65 = .ok (.invokestatic 278, 3) := by decide +kernel
theorem dX7_waitFor_68 : decode cX7_waitFor 68 = .ok (.istore 6, 2) := by decide +kernel
theorem dX7_waitFor_70 : decode cX7_waitFor 70 = .ok (.aload_n 0, 1) := by decide +kernel
theorem dX7_waitFor_71 : decode cX7_waitFor 71 = .ok (.getfield 10, 3) := by decide +kernel
theorem dX7_waitFor_74 : decode cX7_waitFor 74 = .ok (.iload_n 1, 1) := by decide +kernel
theorem dX7_waitFor_75 : decode cX7_waitFor 75 = .ok (.iload_n 2, 1) := by decide +kernel
theorem dX7_waitFor_76 : decode cX7_waitFor 76 = .ok (.iload_n 3, 1) := by decide +kernel
theorem dX7_waitFor_77 : decode cX7_waitFor 77 = .ok (.iload 6, 2) := by decide +kernel
theorem dX7_waitFor_79 : decode cX7_waitFor 79 = .ok (.invokevirtual 127, 3) := by decide +kernel
theorem dX7_waitFor_82 : decode cX7_waitFor 82 = .ok (.iload 4, 2) := by decide +kernel
theorem dX7_waitFor_84 : decode cX7_waitFor 84 = .ok (.if_icmp .gt 6, 3) := by decide +kernel
theorem dX7_waitFor_87 : decode cX7_waitFor 87 = .ok (.iload 5, 2) := by decide +kernel
theorem dX7_waitFor_89 : decode cX7_waitFor 89 = .ok (.ireturn, 1) := by decide +kernel
theorem dX7_waitFor_90 : decode cX7_waitFor 90 = .ok (.iinc 5 1, 3) := by decide +kernel
theorem dX7_waitFor_93 : decode cX7_waitFor 93 = .ok (.goto (-58), 3) := by decide +kernel
theorem dX7_waitFor_96 : decode cX7_waitFor 96 = .ok (.iconst (-1), 1) := by decide +kernel
theorem dX7_waitFor_97 : decode cX7_waitFor 97 = .ok (.ireturn, 1) := by decide +kernel
theorem dX7_ifRead_0 : decode cX7_ifRead 0 = .ok (.iload_n 1, 1) := by decide +kernel
theorem dX7_ifRead_1 : decode cX7_ifRead 1 = .ok (.invokestatic 83, 3) := by decide +kernel
theorem dX7_ifRead_4 : decode cX7_ifRead 4 = .ok (.iload_n 2, 1) := by decide +kernel
theorem dX7_ifRead_5 : decode cX7_ifRead 5 = .ok (.iconst 0, 1) := by decide +kernel
theorem dX7_ifRead_6 : decode cX7_ifRead 6 = .ok (.iconst 4, 1) := by decide +kernel
theorem dX7_ifRead_7 : decode cX7_ifRead 7 = .ok (.invokestatic 33, 3) := by decide +kernel
theorem dX7_ifRead_10 : decode cX7_ifRead 10 = .ok (.invokestatic 37, 3) := by decide +kernel
theorem dX7_ifRead_13 : decode cX7_ifRead 13 = .ok (.iload_n 2, 1) := by decide +kernel
theorem dX7_ifRead_14 : decode cX7_ifRead 14 = .ok (.tableswitch 84 0 3 #[30, 42, 58, 75], 30) := by decide +kernel
theorem dX7_ifRead_44 : decode cX7_ifRead 44 = .ok (.aload_n 0, 1) := by decide +kernel
theorem dX7_ifRead_45 : decode cX7_ifRead 45 = .ok (.getfield 10, 3) := by decide +kernel
theorem dX7_ifRead_48 : decode cX7_ifRead 48 = .ok (.getfield 89, 3) := by decide +kernel
theorem dX7_ifRead_51 : decode cX7_ifRead 51 = .ok (.iload_n 1, 1) := by decide +kernel
theorem dX7_ifRead_52 : decode cX7_ifRead 52 = .ok (.invokevirtual 148, 3) := by decide +kernel
theorem dX7_ifRead_55 : decode cX7_ifRead 55 = .ok (.ireturn, 1) := by decide +kernel
theorem dX7_ifRead_56 : decode cX7_ifRead 56 = .ok (.aload_n 0, 1) := by decide +kernel
theorem dX7_ifRead_57 : decode cX7_ifRead 57 = .ok (.getfield 10, 3) := by decide +kernel
theorem dX7_ifRead_60 : decode cX7_ifRead 60 = .ok (.invokevirtual 284, 3) := by decide +kernel
theorem dX7_ifRead_63 : decode cX7_ifRead 63 = .ok (.iload_n 1, 1) := by decide +kernel
theorem dX7_ifRead_64 : decode cX7_ifRead 64 = .ok (.invokestatic 288, 3) := by decide +kernel
theorem dX7_ifRead_67 : decode cX7_ifRead 67 = .ok (.land, 1) := by decide +kernel
theorem dX7_ifRead_68 : decode cX7_ifRead 68 = .ok (.invokestatic 269, 3) := by decide +kernel
theorem dX7_ifRead_71 : decode cX7_ifRead 71 = .ok (.ireturn, 1) := by decide +kernel
theorem dX7_ifRead_72 : decode cX7_ifRead 72 = .ok (.aload_n 0, 1) := by decide +kernel
theorem dX7_ifRead_73 : decode cX7_ifRead 73 = .ok (.getfield 10, 3) := by decide +kernel
theorem dX7_ifRead_76 : decode cX7_ifRead 76 = .ok (.aload_n 0, 1) := by decide +kernel
theorem dX7_ifRead_77 : decode cX7_ifRead 77 = .ok (.getfield 10, 3) := by decide +kernel
theorem dX7_ifRead_80 : decode cX7_ifRead 80 = .ok (.getfield 80, 3) := by decide +kernel
theorem dX7_ifRead_83 : decode cX7_ifRead 83 = .ok (.iconst 2, 1) := by decide +kernel
theorem dX7_ifRead_84 : decode cX7_ifRead 84 = .ok (.iaload, 1) := by decide +kernel
theorem dX7_ifRead_85 : decode cX7_ifRead 85 = .ok (.invokevirtual 292, 3) := by decide +kernel
theorem dX7_ifRead_88 : decode cX7_ifRead 88 = .ok (.ireturn, 1) := by decide +kernel
theorem dX7_ifRead_89 : decode cX7_ifRead 89 = .ok (.aload_n 0, 1) := by decide +kernel
theorem dX7_ifRead_90 : decode cX7_ifRead 90 = .ok (.getfield 10, 3) := by decide +kernel
theorem dX7_ifRead_93 : decode cX7_ifRead 93 = .ok (.iload_n 1, 1) := by decide +kernel
theorem dX7_ifRead_94 : decode cX7_ifRead 94 = .ok (.invokevirtual 295, 3) := by decide +kernel
theorem dX7_ifRead_97 : decode cX7_ifRead 97 = .ok (.ireturn, 1) := by decide +kernel
theorem dX7_ifRead_98 : decode cX7_ifRead 98 = .ok (.aload_n 0, 1) := by decide +kernel
theorem dX7_ifRead_99 : decode cX7_ifRead 99 = .ok (.getfield 10, 3) := by decide +kernel
theorem dX7_ifRead_102 : decode cX7_ifRead 102 = .ok (.invokevirtual 284, 3) := by decide +kernel
theorem dX7_ifRead_105 : decode cX7_ifRead 105 = .ok (.iload_n 1, 1) := by decide +kernel
theorem dX7_ifRead_106 : decode cX7_ifRead 106 = .ok (.invokestatic 288, 3) := by decide +kernel
theorem dX7_ifRead_109 : decode cX7_ifRead 109 = .ok (.land, 1) := by decide +kernel
theorem dX7_ifRead_110 : decode cX7_ifRead 110 = .ok (.aload_n 0, 1) := by decide +kernel
theorem dX7_ifRead_111 : decode cX7_ifRead 111 = .ok (.getfield 10, 3) := by decide +kernel
theorem dX7_ifRead_114 : decode cX7_ifRead 114 = .ok (.getfield 89, 3) := by decide +kernel
theorem dX7_ifRead_117 : decode cX7_ifRead 117 = .ok (.invokevirtual 298, 3) := by decide +kernel
theorem dX7_ifRead_120 : decode cX7_ifRead 120 = .ok (.land, 1) := by decide +kernel
theorem dX7_ifRead_121 : decode cX7_ifRead 121 = .ok (.invokestatic 269, 3) := by decide +kernel
theorem dX7_ifRead_124 : decode cX7_ifRead 124 = .ok (.ireturn, 1) := by decide +kernel
theorem dX7_gentlest_0 : decode cX7_gentlest 0 = .ok (.aload_n 0, 1) := by decide +kernel
theorem dX7_gentlest_1 : decode cX7_gentlest 1 = .ok (.getfield 10, 3) := by decide +kernel
theorem dX7_gentlest_4 : decode cX7_gentlest 4 = .ok (.invokevirtual 284, 3) := by decide +kernel
theorem dX7_gentlest_7 : decode cX7_gentlest 7 = .ok (.lstore_n 1, 1) := by decide +kernel
theorem dX7_gentlest_8 : decode cX7_gentlest 8 = .ok (.iconst (-1), 1) := by decide +kernel
theorem dX7_gentlest_9 : decode cX7_gentlest 9 = .ok (.istore_n 3, 1) := by decide +kernel
theorem dX7_gentlest_10 : decode cX7_gentlest 10 = .ok (.bipush 64, 2) := by decide +kernel
theorem dX7_gentlest_12 : decode cX7_gentlest 12 = .ok (.istore 4, 2) := by decide +kernel
theorem dX7_gentlest_14 : decode cX7_gentlest 14 = .ok (.iconst 0, 1) := by decide +kernel
theorem dX7_gentlest_15 : decode cX7_gentlest 15 = .ok (.istore 5, 2) := by decide +kernel
theorem dX7_gentlest_17 : decode cX7_gentlest 17 = .ok (.iconst 0, 1) := by decide +kernel
theorem dX7_gentlest_18 : decode cX7_gentlest 18 = .ok (.istore 6, 2) := by decide +kernel
theorem dX7_gentlest_20 : decode cX7_gentlest 20 = .ok (.iload 6, 2) := by decide +kernel
theorem dX7_gentlest_22 : decode cX7_gentlest 22 = .ok (.bipush 64, 2) := by decide +kernel
theorem dX7_gentlest_24 : decode cX7_gentlest 24 = .ok (.if_icmp .ge 100, 3) := by decide +kernel
theorem dX7_gentlest_27 : decode cX7_gentlest 27 = .ok (.aload_n 0, 1) := by decide +kernel
theorem dX7_gentlest_28 : decode cX7_gentlest 28 = .ok (.getfield 10, 3) := by decide +kernel
theorem dX7_gentlest_31 : decode cX7_gentlest 31 = .ok (.getfield 89, 3) := by decide +kernel
theorem dX7_gentlest_34 : decode cX7_gentlest 34 = .ok (.iload 6, 2) := by decide +kernel
theorem dX7_gentlest_36 : decode cX7_gentlest 36 = .ok (.invokevirtual 301, 3) := by decide +kernel
theorem dX7_gentlest_39 : decode cX7_gentlest 39 = .ok (.ifCond .eq 79, 3) := by decide +kernel
theorem dX7_gentlest_42 : decode cX7_gentlest 42 = .ok (.aload_n 0, 1) := by decide +kernel
theorem dX7_gentlest_43 : decode cX7_gentlest 43 = .ok (.getfield 10, 3) := by decide +kernel
theorem dX7_gentlest_46 : decode cX7_gentlest 46 = .ok (.iload 6, 2) := by decide +kernel
theorem dX7_gentlest_48 : decode cX7_gentlest 48 = .ok (.invokevirtual 151, 3) := by decide +kernel
theorem dX7_gentlest_51 : decode cX7_gentlest 51 = .ok (.ifCond .eq 67, 3) := by decide +kernel
theorem dX7_gentlest_54 : decode cX7_gentlest 54 = .ok (.lload_n 1, 1) := by decide +kernel
theorem dX7_gentlest_55 : decode cX7_gentlest 55 = .ok (.iload 6, 2) := by decide +kernel
theorem dX7_gentlest_57 : decode cX7_gentlest 57 = .ok (.invokestatic 288, 3) := by decide +kernel
theorem dX7_gentlest_60 : decode cX7_gentlest 60 = .ok (.land, 1) := by decide +kernel
theorem dX7_gentlest_61 : decode cX7_gentlest 61 = .ok (.invokestatic 269, 3) := by decide +kernel
theorem dX7_gentlest_64 : decode cX7_gentlest 64 = .ok (.istore 7, 2) := by decide +kernel
theorem dX7_gentlest_66 : decode cX7_gentlest 66 = .ok (.aload_n 0, 1) := by decide +kernel
theorem dX7_gentlest_67 : decode cX7_gentlest 67 = .ok (.getfield 10, 3) := by decide +kernel
theorem dX7_gentlest_70 : decode cX7_gentlest 70 = .ok (.getfield 89, 3) := by decide +kernel
theorem dX7_gentlest_73 : decode cX7_gentlest 73 = .ok (.getfield 138, 3) := by decide +kernel
theorem dX7_gentlest_76 : decode cX7_gentlest 76 = .ok (.iload 6, 2) := by decide +kernel
theorem dX7_gentlest_78 : decode cX7_gentlest 78 = .ok (.iaload, 1) := by decide +kernel
theorem dX7_gentlest_79 : decode cX7_gentlest 79 = .ok (.istore 8, 2) := by decide +kernel
theorem dX7_gentlest_81 : decode cX7_gentlest 81 = .ok (.iload_n 3, 1) := by decide +kernel
theorem dX7_gentlest_82 : decode cX7_gentlest 82 = .ok (.iconst (-1), 1) := by decide +kernel
theorem dX7_gentlest_83 : decode cX7_gentlest 83 = .ok (.if_icmp .eq 24, 3) := by decide +kernel
theorem dX7_gentlest_86 : decode cX7_gentlest 86 = .ok (.iload 7, 2) := by decide +kernel
theorem dX7_gentlest_88 : decode cX7_gentlest 88 = .ok (.iload 4, 2) := by decide +kernel
theorem dX7_gentlest_90 : decode cX7_gentlest 90 = .ok (.if_icmp .lt 17, 3) := by decide +kernel
theorem dX7_gentlest_93 : decode cX7_gentlest 93 = .ok (.iload 7, 2) := by decide +kernel
theorem dX7_gentlest_95 : decode cX7_gentlest 95 = .ok (.iload 4, 2) := by decide +kernel
theorem dX7_gentlest_97 : decode cX7_gentlest 97 = .ok (.if_icmp .ne 21, 3) := by decide +kernel
theorem dX7_gentlest_100 : decode cX7_gentlest 100 = .ok (.iload 8, 2) := by decide +kernel
theorem dX7_gentlest_102 : decode cX7_gentlest 102 = .ok (.iload 5, 2) := by decide +kernel
theorem dX7_gentlest_104 : decode cX7_gentlest 104 = .ok (.if_icmp .le 14, 3) := by decide +kernel
theorem dX7_gentlest_107 : decode cX7_gentlest 107 = .ok (.iload 6, 2) := by decide +kernel
theorem dX7_gentlest_109 : decode cX7_gentlest 109 = .ok (.istore_n 3, 1) := by decide +kernel
theorem dX7_gentlest_110 : decode cX7_gentlest 110 = .ok (.iload 7, 2) := by decide +kernel
theorem dX7_gentlest_112 : decode cX7_gentlest 112 = .ok (.istore 4, 2) := by decide +kernel
theorem dX7_gentlest_114 : decode cX7_gentlest 114 = .ok (.iload 8, 2) := by decide +kernel
theorem dX7_gentlest_116 : decode cX7_gentlest 116 = .ok (.istore 5, 2) := by decide +kernel
theorem dX7_gentlest_118 : decode cX7_gentlest 118 = .ok (.iinc 6 1, 3) := by decide +kernel
theorem dX7_gentlest_121 : decode cX7_gentlest 121 = .ok (.goto (-101), 3) := by decide +kernel
theorem dX7_gentlest_124 : decode cX7_gentlest 124 = .ok (.iload_n 3, 1) := by decide +kernel
theorem dX7_gentlest_125 : decode cX7_gentlest 125 = .ok (.ireturn, 1) := by decide +kernel
theorem dX7_savable_0 : decode cX7_savable 0 = .ok (.iload_n 1, 1) := by decide +kernel
theorem dX7_savable_1 : decode cX7_savable 1 = .ok (.iconst 1, 1) := by decide +kernel
theorem dX7_savable_2 : decode cX7_savable 2 = .ok (.bipush 9, 2) := by decide +kernel
theorem dX7_savable_4 : decode cX7_savable 4 = .ok (.invokestatic 33, 3) := by decide +kernel
theorem dX7_savable_7 : decode cX7_savable 7 = .ok (.invokestatic 37, 3) := by decide +kernel
theorem dX7_savable_10 : decode cX7_savable 10 = .ok (.aload_n 0, 1) := by decide +kernel
theorem dX7_savable_11 : decode cX7_savable 11 = .ok (.getfield 16, 3) := by decide +kernel
theorem dX7_savable_14 : decode cX7_savable 14 = .ok (.aload_n 0, 1) := by decide +kernel
theorem dX7_savable_15 : decode cX7_savable 15 = .ok (.getfield 10, 3) := by decide +kernel
theorem dX7_savable_18 : decode cX7_savable 18 = .ok (.invokevirtual 304, 3) := by decide +kernel
theorem dX7_savable_21 : decode cX7_savable 21 = .ok (.iconst 0, 1) := by decide +kernel
theorem dX7_savable_22 : decode cX7_savable 22 = .ok (.istore_n 2, 1) := by decide +kernel
theorem dX7_savable_23 : decode cX7_savable 23 = .ok (.iload_n 2, 1) := by decide +kernel
theorem dX7_savable_24 : decode cX7_savable 24 = .ok (.bipush 64, 2) := by decide +kernel
theorem dX7_savable_26 : decode cX7_savable 26 = .ok (.if_icmp .ge 63, 3) := by decide +kernel
theorem dX7_savable_29 : decode cX7_savable 29 = .ok (.aload_n 0, 1) := by decide +kernel
theorem dX7_savable_30 : decode cX7_savable 30 = .ok (.getfield 16, 3) := by decide +kernel
theorem dX7_savable_33 : decode cX7_savable 33 = .ok (.getfield 157, 3) := by decide +kernel
theorem dX7_savable_36 : decode cX7_savable 36 = .ok (.getfield 161, 3) := by decide +kernel
theorem dX7_savable_39 : decode cX7_savable 39 = .ok (.ifCond .le 50, 3) := by decide +kernel
theorem dX7_savable_42 : decode cX7_savable 42 = .ok (.iconst 0, 1) := by decide +kernel
theorem dX7_savable_43 : decode cX7_savable 43 = .ok (.istore_n 3, 1) := by decide +kernel
theorem dX7_savable_44 : decode cX7_savable 44 = .ok (.iload_n 3, 1) := by decide +kernel
theorem dX7_savable_45 : decode cX7_savable 45 = .ok (.iload_n 1, 1) := by decide +kernel
theorem dX7_savable_46 : decode cX7_savable 46 = .ok (.if_icmp .ge 30, 3) := by decide +kernel
theorem dX7_savable_49 : decode cX7_savable 49 = .ok (.aload_n 0, 1) := by decide +kernel
theorem dX7_savable_50 : decode cX7_savable 50 = .ok (.getfield 16, 3) := by decide +kernel
theorem dX7_savable_53 : decode cX7_savable 53 = .ok (.getfield 157, 3) := by decide +kernel
theorem dX7_savable_56 : decode cX7_savable 56 = .ok (.getfield 161, 3) := by decide +kernel
theorem dX7_savable_59 : decode cX7_savable 59 = .ok (.ifCond .le 17, 3) := by decide +kernel
theorem dX7_savable_62 : decode cX7_savable 62 = .ok (.aload_n 0, 1) := by decide +kernel
theorem dX7_savable_63 : decode cX7_savable 63 = .ok (.getfield 16, 3) := by decide +kernel
theorem dX7_savable_66 : decode cX7_savable 66 = .ok (.invokevirtual 164, 3) := by decide +kernel
theorem dX7_savable_69 : decode cX7_savable 69 = .ok (.pop, 1) := by decide +kernel
theorem dX7_savable_70 : decode cX7_savable 70 = .ok (.iinc 3 1, 3) := by decide +kernel
theorem dX7_savable_73 : decode cX7_savable 73 = .ok (.goto (-29), 3) := by decide +kernel
theorem dX7_savable_76 : decode cX7_savable 76 = .ok (.aload_n 0, 1) := by decide +kernel
theorem dX7_savable_77 : decode cX7_savable 77 = .ok (.getfield 16, 3) := by decide +kernel
theorem dX7_savable_80 : decode cX7_savable 80 = .ok (.invokevirtual 307, 3) := by decide +kernel
theorem dX7_savable_83 : decode cX7_savable 83 = .ok (.iinc 2 1, 3) := by decide +kernel
theorem dX7_savable_86 : decode cX7_savable 86 = .ok (.goto (-63), 3) := by decide +kernel
theorem dX7_savable_89 : decode cX7_savable 89 = .ok (.aload_n 0, 1) := by decide +kernel
theorem dX7_savable_90 : decode cX7_savable 90 = .ok (.getfield 16, 3) := by decide +kernel
theorem dX7_savable_93 : decode cX7_savable 93 = .ok (.getfield 275, 3) := by decide +kernel
theorem dX7_savable_96 : decode cX7_savable 96 = .ok (.bipush 10, 2) := by decide +kernel
theorem dX7_savable_98 : decode cX7_savable 98 = .ok (.iaload, 1) := by decide +kernel
theorem dX7_savable_99 : decode cX7_savable 99 = .ok (.aload_n 0, 1) := by decide +kernel
theorem dX7_savable_100 : decode cX7_savable 100 = .ok (.getfield 10, 3) := by decide +kernel
theorem dX7_savable_103 : decode cX7_savable 103 = .ok (.getfield 275, 3) := by decide +kernel
theorem dX7_savable_106 : decode cX7_savable 106 = .ok (.bipush 10, 2) := by decide +kernel
theorem dX7_savable_108 : decode cX7_savable 108 = .ok (.iaload, 1) := by decide +kernel
theorem dX7_savable_109 : decode cX7_savable 109 = .ok (.isub, 1) := by decide +kernel
theorem dX7_savable_110 : decode cX7_savable 110 = .ok (.ireturn, 1) := by decide +kernel
theorem dX7_atRisk_0 : decode cX7_atRisk 0 = .ok (.aload_n 0, 1) := by decide +kernel
theorem dX7_atRisk_1 : decode cX7_atRisk 1 = .ok (.iload_n 1, 1) := by decide +kernel
theorem dX7_atRisk_2 : decode cX7_atRisk 2 = .ok (.invokevirtual 86, 3) := by decide +kernel
theorem dX7_atRisk_5 : decode cX7_atRisk 5 = .ok (.aload_n 0, 1) := by decide +kernel
theorem dX7_atRisk_6 : decode cX7_atRisk 6 = .ok (.getfield 10, 3) := by decide +kernel
theorem dX7_atRisk_9 : decode cX7_atRisk 9 = .ok (.invokevirtual 284, 3) := by decide +kernel
theorem dX7_atRisk_12 : decode cX7_atRisk 12 = .ok (.aload_n 0, 1) := by decide +kernel
theorem dX7_atRisk_13 : decode cX7_atRisk 13 = .ok (.getfield 10, 3) := by decide +kernel
theorem dX7_atRisk_16 : decode cX7_atRisk 16 = .ok (.getfield 89, 3) := by decide +kernel
theorem dX7_atRisk_19 : decode cX7_atRisk 19 = .ok (.iload_n 1, 1) := by decide +kernel
theorem dX7_atRisk_20 : decode cX7_atRisk 20 = .ok (.invokevirtual 310, 3) := by decide +kernel
theorem dX7_atRisk_23 : decode cX7_atRisk 23 = .ok (.land, 1) := by decide +kernel
theorem dX7_atRisk_24 : decode cX7_atRisk 24 = .ok (.lstore_n 2, 1) := by decide +kernel
theorem dX7_atRisk_25 : decode cX7_atRisk 25 = .ok (.iconst 0, 1) := by decide +kernel
theorem dX7_atRisk_26 : decode cX7_atRisk 26 = .ok (.istore 4, 2) := by decide +kernel
theorem dX7_atRisk_28 : decode cX7_atRisk 28 = .ok (.iconst 0, 1) := by decide +kernel
theorem dX7_atRisk_29 : decode cX7_atRisk 29 = .ok (.istore 5, 2) := by decide +kernel
theorem dX7_atRisk_31 : decode cX7_atRisk 31 = .ok (.iload 5, 2) := by decide +kernel
theorem dX7_atRisk_33 : decode cX7_atRisk 33 = .ok (.bipush 64, 2) := by decide +kernel
theorem dX7_atRisk_35 : decode cX7_atRisk 35 = .ok (.if_icmp .ge 38, 3) := by decide +kernel
theorem dX7_atRisk_38 : decode cX7_atRisk 38 = .ok (.aload_n 0, 1) := by decide +kernel
theorem dX7_atRisk_39 : decode cX7_atRisk 39 = .ok (.getfield 10, 3) := by decide +kernel
theorem dX7_atRisk_42 : decode cX7_atRisk 42 = .ok (.iload 5, 2) := by decide +kernel
theorem dX7_atRisk_44 : decode cX7_atRisk 44 = .ok (.invokevirtual 151, 3) := by decide +kernel
theorem dX7_atRisk_47 : decode cX7_atRisk 47 = .ok (.ifCond .eq 20, 3) := by decide +kernel
theorem dX7_atRisk_50 : decode cX7_atRisk 50 = .ok (.iload 4, 2) := by decide +kernel
theorem dX7_atRisk_52 : decode cX7_atRisk 52 = .ok (.lload_n 2, 1) := by decide +kernel
theorem dX7_atRisk_53 : decode cX7_atRisk 53 = .ok (.iload 5, 2) := by decide +kernel
theorem dX7_atRisk_55 : decode cX7_atRisk 55 = .ok (.invokestatic 288, 3) := by decide +kernel
theorem dX7_atRisk_58 : decode cX7_atRisk 58 = .ok (.land, 1) := by decide +kernel
theorem dX7_atRisk_59 : decode cX7_atRisk 59 = .ok (.invokestatic 269, 3) := by decide +kernel
theorem dX7_atRisk_62 : decode cX7_atRisk 62 = .ok (.invokestatic 278, 3) := by decide +kernel
theorem dX7_atRisk_65 : decode cX7_atRisk 65 = .ok (.istore 4, 2) := by decide +kernel
theorem dX7_atRisk_67 : decode cX7_atRisk 67 = .ok (.iinc 5 1, 3) := by decide +kernel
theorem dX7_atRisk_70 : decode cX7_atRisk 70 = .ok (.goto (-39), 3) := by decide +kernel
theorem dX7_atRisk_73 : decode cX7_atRisk 73 = .ok (.iload 4, 2) := by decide +kernel
theorem dX7_atRisk_75 : decode cX7_atRisk 75 = .ok (.ireturn, 1) := by decide +kernel
theorem dX7_backShare_0 : decode cX7_backShare 0 = .ok (.aload_n 0, 1) := by decide +kernel
theorem dX7_backShare_1 : decode cX7_backShare 1 = .ok (.getfield 10, 3) := by decide +kernel
theorem dX7_backShare_4 : decode cX7_backShare 4 = .ok (.getfield 275, 3) := by decide +kernel
theorem dX7_backShare_7 : decode cX7_backShare 7 = .ok (.bipush 9, 2) := by decide +kernel
theorem dX7_backShare_9 : decode cX7_backShare 9 = .ok (.iaload, 1) := by decide +kernel
theorem dX7_backShare_10 : decode cX7_backShare 10 = .ok (.istore_n 1, 1) := by decide +kernel
theorem dX7_backShare_11 : decode cX7_backShare 11 = .ok (.iload_n 1, 1) := by decide +kernel
theorem dX7_backShare_12 : decode cX7_backShare 12 = .ok (.ifCond .ne 5, 3) := by decide +kernel
theorem dX7_backShare_15 : decode cX7_backShare 15 = .ok (.dconst 0, 1) := by decide +kernel
theorem dX7_backShare_16 : decode cX7_backShare 16 = .ok (.dreturn, 1) := by decide +kernel
theorem dX7_backShare_17 : decode cX7_backShare 17 = .ok (.aload_n 0, 1) := by decide +kernel
theorem dX7_backShare_18 : decode cX7_backShare 18 = .ok (.getfield 10, 3) := by decide +kernel
theorem dX7_backShare_21 : decode cX7_backShare 21 = .ok (.getfield 275, 3) := by decide +kernel
theorem dX7_backShare_24 : decode cX7_backShare 24 = .ok (.bipush 10, 2) := by decide +kernel
theorem dX7_backShare_26 : decode cX7_backShare 26 = .ok (.iaload, 1) := by decide +kernel
theorem dX7_backShare_27 : decode cX7_backShare 27 = .ok (.i2d, 1) := by decide +kernel
theorem dX7_backShare_28 : decode cX7_backShare 28 = .ok (.iload_n 1, 1) := by decide +kernel
theorem dX7_backShare_29 : decode cX7_backShare 29 = .ok (.i2d, 1) := by decide +kernel
theorem dX7_backShare_30 : decode cX7_backShare 30 = .ok (.ddiv, 1) := by decide +kernel
theorem dX7_backShare_31 : decode cX7_backShare 31 = .ok (.dreturn, 1) := by decide +kernel
theorem dX7_canDoStep_0 : decode cX7_canDoStep 0 = .ok (.aload_n 0, 1) := by decide +kernel
theorem dX7_canDoStep_1 : decode cX7_canDoStep 1 = .ok (.getfield 29, 3) := by decide +kernel
theorem dX7_canDoStep_4 : decode cX7_canDoStep 4 = .ok (.iload_n 2, 1) := by decide +kernel
theorem dX7_canDoStep_5 : decode cX7_canDoStep 5 = .ok (.iconst 1, 1) := by decide +kernel
theorem dX7_canDoStep_6 : decode cX7_canDoStep 6 = .ok (.iadd, 1) := by decide +kernel
theorem dX7_canDoStep_7 : decode cX7_canDoStep 7 = .ok (.invokevirtual 381, 3) := by decide +kernel
theorem dX7_canDoStep_10 : decode cX7_canDoStep 10 = .ok (.istore_n 3, 1) := by decide +kernel
theorem dX7_canDoStep_11 : decode cX7_canDoStep 11 = .ok (.aload_n 0, 1) := by decide +kernel
theorem dX7_canDoStep_12 : decode cX7_canDoStep 12 = .ok (.getfield 29, 3) := by decide +kernel
theorem dX7_canDoStep_15 : decode cX7_canDoStep 15 = .ok (.iload_n 2, 1) := by decide +kernel
theorem dX7_canDoStep_16 : decode cX7_canDoStep 16 = .ok (.invokevirtual 372, 3) := by decide +kernel
theorem dX7_canDoStep_19 : decode cX7_canDoStep 19 = .ok (.lookupswitch 97 #[(98, 78), (114, 33), (119, 65)], 33) := by decide +kernel
theorem dX7_canDoStep_52 : decode cX7_canDoStep 52 = .ok (.aload_n 0, 1) := by decide +kernel
theorem dX7_canDoStep_53 : decode cX7_canDoStep 53 = .ok (.getfield 10, 3) := by decide +kernel
theorem dX7_canDoStep_56 : decode cX7_canDoStep 56 = .ok (.getfield 89, 3) := by decide +kernel
theorem dX7_canDoStep_59 : decode cX7_canDoStep 59 = .ok (.iload_n 3, 1) := by decide +kernel
theorem dX7_canDoStep_60 : decode cX7_canDoStep 60 = .ok (.iload_n 1, 1) := by decide +kernel
theorem dX7_canDoStep_61 : decode cX7_canDoStep 61 = .ok (.invokevirtual 384, 3) := by decide +kernel
theorem dX7_canDoStep_64 : decode cX7_canDoStep 64 = .ok (.ifCond .eq 18, 3) := by decide +kernel
theorem dX7_canDoStep_67 : decode cX7_canDoStep 67 = .ok (.aload_n 0, 1) := by decide +kernel
theorem dX7_canDoStep_68 : decode cX7_canDoStep 68 = .ok (.getfield 10, 3) := by decide +kernel
theorem dX7_canDoStep_71 : decode cX7_canDoStep 71 = .ok (.iload_n 3, 1) := by decide +kernel
theorem dX7_canDoStep_72 : decode cX7_canDoStep 72 = .ok (.invokevirtual 151, 3) := by decide +kernel
theorem dX7_canDoStep_75 : decode cX7_canDoStep 75 = .ok (.ifCond .eq 7, 3) := by decide +kernel
theorem dX7_canDoStep_78 : decode cX7_canDoStep 78 = .ok (.iconst 1, 1) := by decide +kernel
theorem dX7_canDoStep_79 : decode cX7_canDoStep 79 = .ok (.goto 4, 3) := by decide +kernel
theorem dX7_canDoStep_82 : decode cX7_canDoStep 82 = .ok (.iconst 0, 1) := by decide +kernel
theorem dX7_canDoStep_83 : decode cX7_canDoStep 83 = .ok (.ireturn, 1) := by decide +kernel
theorem dX7_canDoStep_84 : decode cX7_canDoStep 84 = .ok (.aload_n 0, 1) := by decide +kernel
theorem dX7_canDoStep_85 : decode cX7_canDoStep 85 = .ok (.getfield 10, 3) := by decide +kernel
theorem dX7_canDoStep_88 : decode cX7_canDoStep 88 = .ok (.getfield 89, 3) := by decide +kernel
theorem dX7_canDoStep_91 : decode cX7_canDoStep 91 = .ok (.iload_n 3, 1) := by decide +kernel
theorem dX7_canDoStep_92 : decode cX7_canDoStep 92 = .ok (.iload_n 1, 1) := by decide +kernel
theorem dX7_canDoStep_93 : decode cX7_canDoStep 93 = .ok (.invokevirtual 384, 3) := by decide +kernel
theorem dX7_canDoStep_96 : decode cX7_canDoStep 96 = .ok (.ireturn, 1) := by decide +kernel
theorem dX7_canDoStep_97 : decode cX7_canDoStep 97 = .ok (.aload_n 0, 1) := by decide +kernel
theorem dX7_canDoStep_98 : decode cX7_canDoStep 98 = .ok (.getfield 10, 3) := by decide +kernel
theorem dX7_canDoStep_101 : decode cX7_canDoStep 101 = .ok (.getfield 157, 3) := by decide +kernel
theorem dX7_canDoStep_104 : decode cX7_canDoStep 104 = .ok (.getfield 161, 3) := by decide +kernel
theorem dX7_canDoStep_107 : decode cX7_canDoStep 107 = .ok (.ifCond .le 7, 3) := by decide +kernel
theorem dX7_canDoStep_110 : decode cX7_canDoStep 110 = .ok (.iconst 1, 1) := by decide +kernel
theorem dX7_canDoStep_111 : decode cX7_canDoStep 111 = .ok (.goto 4, 3) := by decide +kernel
theorem dX7_canDoStep_114 : decode cX7_canDoStep 114 = .ok (.iconst 0, 1) := by decide +kernel
theorem dX7_canDoStep_115 : decode cX7_canDoStep 115 = .ok (.ireturn, 1) := by decide +kernel
theorem dX7_canDoStep_116 : decode cX7_canDoStep 116 = .ok (.aload_n 0, 1) := by decide +kernel
theorem dX7_canDoStep_117 : decode cX7_canDoStep 117 = .ok (.getfield 10, 3) := by decide +kernel
theorem dX7_canDoStep_120 : decode cX7_canDoStep 120 = .ok (.getfield 168, 3) := by decide +kernel
theorem dX7_canDoStep_123 : decode cX7_canDoStep 123 = .ok (.aload_n 0, 1) := by decide +kernel
theorem dX7_canDoStep_124 : decode cX7_canDoStep 124 = .ok (.getfield 29, 3) := by decide +kernel
theorem dX7_canDoStep_127 : decode cX7_canDoStep 127 = .ok (.iload_n 2, 1) := by decide +kernel
theorem dX7_canDoStep_128 : decode cX7_canDoStep 128 = .ok (.iconst 1, 1) := by decide +kernel
theorem dX7_canDoStep_129 : decode cX7_canDoStep 129 = .ok (.iadd, 1) := by decide +kernel
theorem dX7_canDoStep_130 : decode cX7_canDoStep 130 = .ok (.invokevirtual 387, 3) := by decide +kernel
theorem dX7_canDoStep_133 : decode cX7_canDoStep 133 = .ok (.iadd, 1) := by decide +kernel
theorem dX7_canDoStep_134 : decode cX7_canDoStep 134 = .ok (.sipush 10000, 3) := by decide +kernel
theorem dX7_canDoStep_137 : decode cX7_canDoStep 137 = .ok (.if_icmp .gt 7, 3) := by decide +kernel
theorem dX7_canDoStep_140 : decode cX7_canDoStep 140 = .ok (.iconst 1, 1) := by decide +kernel
theorem dX7_canDoStep_141 : decode cX7_canDoStep 141 = .ok (.goto 4, 3) := by decide +kernel
theorem dX7_canDoStep_144 : decode cX7_canDoStep 144 = .ok (.iconst 0, 1) := by decide +kernel
theorem dX7_canDoStep_145 : decode cX7_canDoStep 145 = .ok (.ireturn, 1) := by decide +kernel
theorem dX7_doStep_0 : decode cX7_doStep 0 = .ok (.aload_n 0, 1) := by decide +kernel
theorem dX7_doStep_1 : decode cX7_doStep 1 = .ok (.getfield 29, 3) := by decide +kernel
theorem dX7_doStep_4 : decode cX7_doStep 4 = .ok (.iload_n 1, 1) := by decide +kernel
theorem dX7_doStep_5 : decode cX7_doStep 5 = .ok (.iconst 1, 1) := by decide +kernel
theorem dX7_doStep_6 : decode cX7_doStep 6 = .ok (.iadd, 1) := by decide +kernel
theorem dX7_doStep_7 : decode cX7_doStep 7 = .ok (.invokevirtual 381, 3) := by decide +kernel
theorem dX7_doStep_10 : decode cX7_doStep 10 = .ok (.istore_n 2, 1) := by decide +kernel
theorem dX7_doStep_11 : decode cX7_doStep 11 = .ok (.aload_n 0, 1) := by decide +kernel
theorem dX7_doStep_12 : decode cX7_doStep 12 = .ok (.getfield 29, 3) := by decide +kernel
theorem dX7_doStep_15 : decode cX7_doStep 15 = .ok (.iload_n 1, 1) := by decide +kernel
theorem dX7_doStep_16 : decode cX7_doStep 16 = .ok (.invokevirtual 372, 3) := by decide +kernel
theorem dX7_doStep_19 : decode cX7_doStep 19 = .ok (.lookupswitch 87 #[(98, 76), (114, 33), (119, 45)], 33) := by decide +kernel
theorem dX7_doStep_52 : decode cX7_doStep 52 = .ok (.aload_n 0, 1) := by decide +kernel
theorem dX7_doStep_53 : decode cX7_doStep 53 = .ok (.getfield 10, 3) := by decide +kernel
theorem dX7_doStep_56 : decode cX7_doStep 56 = .ok (.iload_n 2, 1) := by decide +kernel
theorem dX7_doStep_57 : decode cX7_doStep 57 = .ok (.invokevirtual 154, 3) := by decide +kernel
theorem dX7_doStep_60 : decode cX7_doStep 60 = .ok (.pop, 1) := by decide +kernel
theorem dX7_doStep_61 : decode cX7_doStep 61 = .ok (.goto 62, 3) := by decide +kernel
theorem dX7_doStep_64 : decode cX7_doStep 64 = .ok (.aload_n 0, 1) := by decide +kernel
theorem dX7_doStep_65 : decode cX7_doStep 65 = .ok (.getfield 10, 3) := by decide +kernel
theorem dX7_doStep_68 : decode cX7_doStep 68 = .ok (.iload_n 2, 1) := by decide +kernel
theorem dX7_doStep_69 : decode cX7_doStep 69 = .ok (.aload_n 0, 1) := by decide +kernel
theorem dX7_doStep_70 : decode cX7_doStep 70 = .ok (.getfield 29, 3) := by decide +kernel
theorem dX7_doStep_73 : decode cX7_doStep 73 = .ok (.iload_n 1, 1) := by decide +kernel
theorem dX7_doStep_74 : decode cX7_doStep 74 = .ok (.iconst 4, 1) := by decide +kernel
theorem dX7_doStep_75 : decode cX7_doStep 75 = .ok (.iadd, 1) := by decide +kernel
theorem dX7_doStep_76 : decode cX7_doStep 76 = .ok (.invokevirtual 372, 3) := by decide +kernel
theorem dX7_doStep_79 : decode cX7_doStep 79 = .ok (.bipush 49, 2) := by decide +kernel
theorem dX7_doStep_81 : decode cX7_doStep 81 = .ok (.if_icmp .ne 7, 3) := by decide +kernel
theorem dX7_doStep_84 : decode cX7_doStep 84 = .ok (.iconst 1, 1) := by decide +kernel
theorem dX7_doStep_85 : decode cX7_doStep 85 = .ok (.goto 4, 3) := by decide +kernel
theorem dX7_doStep_88 : decode cX7_doStep 88 = .ok (.iconst 0, 1) := by decide +kernel
theorem dX7_doStep_89 : decode cX7_doStep 89 = .ok (.invokevirtual 144, 3) := by decide +kernel
theorem dX7_doStep_92 : decode cX7_doStep 92 = .ok (.goto 31, 3) := by decide +kernel
theorem dX7_doStep_95 : decode cX7_doStep 95 = .ok (.aload_n 0, 1) := by decide +kernel
theorem dX7_doStep_96 : decode cX7_doStep 96 = .ok (.getfield 10, 3) := by decide +kernel
theorem dX7_doStep_99 : decode cX7_doStep 99 = .ok (.invokevirtual 164, 3) := by decide +kernel
theorem dX7_doStep_102 : decode cX7_doStep 102 = .ok (.pop, 1) := by decide +kernel
theorem dX7_doStep_103 : decode cX7_doStep 103 = .ok (.goto 20, 3) := by decide +kernel
theorem dX7_doStep_106 : decode cX7_doStep 106 = .ok (.aload_n 0, 1) := by decide +kernel
theorem dX7_doStep_107 : decode cX7_doStep 107 = .ok (.getfield 10, 3) := by decide +kernel
theorem dX7_doStep_110 : decode cX7_doStep 110 = .ok (.aload_n 0, 1) := by decide +kernel
theorem dX7_doStep_111 : decode cX7_doStep 111 = .ok (.getfield 29, 3) := by decide +kernel
theorem dX7_doStep_114 : decode cX7_doStep 114 = .ok (.iload_n 1, 1) := by decide +kernel
theorem dX7_doStep_115 : decode cX7_doStep 115 = .ok (.iconst 1, 1) := by decide +kernel
theorem dX7_doStep_116 : decode cX7_doStep 116 = .ok (.iadd, 1) := by decide +kernel
theorem dX7_doStep_117 : decode cX7_doStep 117 = .ok (.invokevirtual 387, 3) := by decide +kernel
theorem dX7_doStep_120 : decode cX7_doStep 120 = .ok (.invokevirtual 171, 3) := by decide +kernel
theorem dX7_doStep_123 : decode cX7_doStep 123 = .ok (.return_, 1) := by decide +kernel
theorem dX7_within_0 : decode cX7_within 0 = .ok (.iload_n 1, 1) := by decide +kernel
theorem dX7_within_1 : decode cX7_within 1 = .ok (.iload_n 0, 1) := by decide +kernel
theorem dX7_within_2 : decode cX7_within 2 = .ok (.if_icmp .gt 12, 3) := by decide +kernel
theorem dX7_within_5 : decode cX7_within 5 = .ok (.iload_n 0, 1) := by decide +kernel
theorem dX7_within_6 : decode cX7_within 6 = .ok (.iload_n 2, 1) := by decide +kernel
theorem dX7_within_7 : decode cX7_within 7 = .ok (.if_icmp .gt 7, 3) := by decide +kernel
theorem dX7_within_10 : decode cX7_within 10 = .ok (.iconst 1, 1) := by decide +kernel
theorem dX7_within_11 : decode cX7_within 11 = .ok (.goto 4, 3) := by decide +kernel
theorem dX7_within_14 : decode cX7_within 14 = .ok (.iconst 0, 1) := by decide +kernel
theorem dX7_within_15 : decode cX7_within 15 = .ok (.ireturn, 1) := by decide +kernel
theorem dX7_isCore_0 : decode cX7_isCore 0 = .ok (.iload_n 0, 1) := by decide +kernel
theorem dX7_isCore_1 : decode cX7_isCore 1 = .ok (.iconst 0, 1) := by decide +kernel
theorem dX7_isCore_2 : decode cX7_isCore 2 = .ok (.bipush 63, 2) := by decide +kernel
theorem dX7_isCore_4 : decode cX7_isCore 4 = .ok (.invokestatic 33, 3) := by decide +kernel
theorem dX7_isCore_7 : decode cX7_isCore 7 = .ok (.ireturn, 1) := by decide +kernel
theorem dX7_requireCore_0 : decode cX7_requireCore 0 = .ok (.iload_n 0, 1) := by decide +kernel
theorem dX7_requireCore_1 : decode cX7_requireCore 1 = .ok (.invokestatic 390, 3) := by decide +kernel
theorem dX7_requireCore_4 : decode cX7_requireCore 4 = .ok (.ifCond .ne 14, 3) := by decide +kernel
theorem dX7_requireCore_7 : decode cX7_requireCore 7 = .ok (.new 393, 3) := by decide +kernel
theorem dX7_requireCore_10 : decode cX7_requireCore 10 = .ok (.dup, 1) := by decide +kernel
theorem dX7_requireCore_11 : decode cX7_requireCore 11 = .ok (.ldc_w 395, 3) := by decide +kernel
theorem dX7_requireCore_14 : decode cX7_requireCore 14 = .ok (.invokespecial 397, 3) := by decide +kernel
theorem dX7_requireCore_17 : decode cX7_requireCore 17 = .ok (.athrow, 1) := by decide +kernel
theorem dX7_requireCore_18 : decode cX7_requireCore 18 = .ok (.return_, 1) := by decide +kernel
theorem dX7_requireTenant_0 : decode cX7_requireTenant 0 = .ok (.aload_n 0, 1) := by decide +kernel
theorem dX7_requireTenant_1 : decode cX7_requireTenant 1 = .ok (.getfield 10, 3) := by decide +kernel
theorem dX7_requireTenant_4 : decode cX7_requireTenant 4 = .ok (.getfield 41, 3) := by decide +kernel
theorem dX7_requireTenant_7 : decode cX7_requireTenant 7 = .ok (.iload_n 1, 1) := by decide +kernel
theorem dX7_requireTenant_8 : decode cX7_requireTenant 8 = .ok (.invokevirtual 115, 3) := by decide +kernel
theorem dX7_requireTenant_11 : decode cX7_requireTenant 11 = .ok (.ifCond .ne 14, 3) := by decide +kernel
theorem dX7_requireTenant_14 : decode cX7_requireTenant 14 = .ok (.new 393, 3) := by decide +kernel
theorem dX7_requireTenant_17 : decode cX7_requireTenant 17 = .ok (.dup, 1) := by decide +kernel
theorem dX7_requireTenant_18 : decode cX7_requireTenant 18 = .ok (.ldc_w 400, 3) := by decide +kernel
theorem dX7_requireTenant_21 : decode cX7_requireTenant 21 = .ok (.invokespecial 397, 3) := by decide +kernel
theorem dX7_requireTenant_24 : decode cX7_requireTenant 24 = .ok (.athrow, 1) := by decide +kernel
theorem dX7_requireTenant_25 : decode cX7_requireTenant 25 = .ok (.return_, 1) := by decide +kernel
theorem dX7_requireInsurer_0 : decode cX7_requireInsurer 0 = .ok (.aload_n 0, 1) := by decide +kernel
theorem dX7_requireInsurer_1 : decode cX7_requireInsurer 1 = .ok (.getfield 10, 3) := by decide +kernel
theorem dX7_requireInsurer_4 : decode cX7_requireInsurer 4 = .ok (.getfield 62, 3) := by decide +kernel
theorem dX7_requireInsurer_7 : decode cX7_requireInsurer 7 = .ok (.iload_n 1, 1) := by decide +kernel
theorem dX7_requireInsurer_8 : decode cX7_requireInsurer 8 = .ok (.invokevirtual 402, 3) := by decide +kernel
theorem dX7_requireInsurer_11 : decode cX7_requireInsurer 11 = .ok (.ifCond .ne 14, 3) := by decide +kernel
theorem dX7_requireInsurer_14 : decode cX7_requireInsurer 14 = .ok (.new 393, 3) := by decide +kernel
theorem dX7_requireInsurer_17 : decode cX7_requireInsurer 17 = .ok (.dup, 1) := by decide +kernel
theorem dX7_requireInsurer_18 : decode cX7_requireInsurer 18 = .ok (.ldc_w 403, 3) := by decide +kernel
theorem dX7_requireInsurer_21 : decode cX7_requireInsurer 21 = .ok (.invokespecial 397, 3) := by decide +kernel
theorem dX7_requireInsurer_24 : decode cX7_requireInsurer 24 = .ok (.athrow, 1) := by decide +kernel
theorem dX7_requireInsurer_25 : decode cX7_requireInsurer 25 = .ok (.return_, 1) := by decide +kernel
theorem dX7_requireSetting_0 : decode cX7_requireSetting 0 = .ok (.iload_n 0, 1) := by decide +kernel
theorem dX7_requireSetting_1 : decode cX7_requireSetting 1 = .ok (.iconst 0, 1) := by decide +kernel
theorem dX7_requireSetting_2 : decode cX7_requireSetting 2 = .ok (.bipush 7, 2) := by decide +kernel
theorem dX7_requireSetting_4 : decode cX7_requireSetting 4 = .ok (.invokestatic 33, 3) := by decide +kernel
theorem dX7_requireSetting_7 : decode cX7_requireSetting 7 = .ok (.ifCond .ne 14, 3) := by decide +kernel
theorem dX7_requireSetting_10 : decode cX7_requireSetting 10 = .ok (.new 393, 3) := by decide +kernel
theorem dX7_requireSetting_13 : decode cX7_requireSetting 13 = .ok (.dup, 1) := by decide +kernel
theorem dX7_requireSetting_14 : decode cX7_requireSetting 14 = .ok (.ldc_w 405, 3) := by decide +kernel
theorem dX7_requireSetting_17 : decode cX7_requireSetting 17 = .ok (.invokespecial 397, 3) := by decide +kernel
theorem dX7_requireSetting_20 : decode cX7_requireSetting 20 = .ok (.athrow, 1) := by decide +kernel
theorem dX7_requireSetting_21 : decode cX7_requireSetting 21 = .ok (.return_, 1) := by decide +kernel
theorem dX7_requireArgument_0 : decode cX7_requireArgument 0 = .ok (.iload_n 0, 1) := by decide +kernel
theorem dX7_requireArgument_1 : decode cX7_requireArgument 1 = .ok (.ifCond .ne 14, 3) := by decide +kernel
theorem dX7_requireArgument_4 : decode cX7_requireArgument 4 = .ok (.new 407, 3) := by decide +kernel
theorem dX7_requireArgument_7 : decode cX7_requireArgument 7 = .ok (.dup, 1) := by decide +kernel
theorem dX7_requireArgument_8 : decode cX7_requireArgument 8 = .ok (.ldc_w 409, 3) := by decide +kernel
theorem dX7_requireArgument_11 : decode cX7_requireArgument 11 = .ok (.invokespecial 411, 3) := by decide +kernel
theorem dX7_requireArgument_14 : decode cX7_requireArgument 14 = .ok (.athrow, 1) := by decide +kernel
theorem dX7_requireArgument_15 : decode cX7_requireArgument 15 = .ok (.return_, 1) := by decide +kernel
theorem dX7_requireState_0 : decode cX7_requireState 0 = .ok (.iload_n 0, 1) := by decide +kernel
theorem dX7_requireState_1 : decode cX7_requireState 1 = .ok (.ifCond .ne 14, 3) := by decide +kernel
theorem dX7_requireState_4 : decode cX7_requireState 4 = .ok (.new 412, 3) := by decide +kernel
theorem dX7_requireState_7 : decode cX7_requireState 7 = .ok (.dup, 1) := by decide +kernel
theorem dX7_requireState_8 : decode cX7_requireState 8 = .ok (.ldc_w 414, 3) := by decide +kernel
theorem dX7_requireState_11 : decode cX7_requireState 11 = .ok (.invokespecial 416, 3) := by decide +kernel
theorem dX7_requireState_14 : decode cX7_requireState 14 = .ok (.athrow, 1) := by decide +kernel
theorem dX7_requireState_15 : decode cX7_requireState 15 = .ok (.return_, 1) := by decide +kernel
theorem dX7_maskOf_0 : decode cX7_maskOf 0 = .ok (.lconst 1, 1) := by decide +kernel
theorem dX7_maskOf_1 : decode cX7_maskOf 1 = .ok (.iload_n 0, 1) := by decide +kernel
theorem dX7_maskOf_2 : decode cX7_maskOf 2 = .ok (.lshl, 1) := by decide +kernel
theorem dX7_maskOf_3 : decode cX7_maskOf 3 = .ok (.lreturn, 1) := by decide +kernel
theorem dX7_linesOf_0 : decode cX7_linesOf 0 = .ok (.ldc2_w 417, 3) := by decide +kernel
theorem dX7_linesOf_3 : decode cX7_linesOf 3 = .ok (.iload_n 0, 1) := by decide +kernel
theorem dX7_linesOf_4 : decode cX7_linesOf 4 = .ok (.bipush 8, 2) := by decide +kernel
theorem dX7_linesOf_6 : decode cX7_linesOf 6 = .ok (.idiv, 1) := by decide +kernel
theorem dX7_linesOf_7 : decode cX7_linesOf 7 = .ok (.bipush 8, 2) := by decide +kernel
theorem dX7_linesOf_9 : decode cX7_linesOf 9 = .ok (.imul, 1) := by decide +kernel
theorem dX7_linesOf_10 : decode cX7_linesOf 10 = .ok (.lshl, 1) := by decide +kernel
theorem dX7_linesOf_11 : decode cX7_linesOf 11 = .ok (.lstore_n 1, 1) := by decide +kernel
theorem dX7_linesOf_12 : decode cX7_linesOf 12 = .ok (.ldc2_w 419, 3) := by decide +kernel
theorem dX7_linesOf_15 : decode cX7_linesOf 15 = .ok (.iload_n 0, 1) := by decide +kernel
theorem dX7_linesOf_16 : decode cX7_linesOf 16 = .ok (.bipush 8, 2) := by decide +kernel
theorem dX7_linesOf_18 : decode cX7_linesOf 18 = .ok (.irem, 1) := by decide +kernel
theorem dX7_linesOf_19 : decode cX7_linesOf 19 = .ok (.lshl, 1) := by decide +kernel
theorem dX7_linesOf_20 : decode cX7_linesOf 20 = .ok (.lstore_n 3, 1) := by decide +kernel
theorem dX7_linesOf_21 : decode cX7_linesOf 21 = .ok (.lload_n 1, 1) := by decide +kernel
theorem dX7_linesOf_22 : decode cX7_linesOf 22 = .ok (.lload_n 3, 1) := by decide +kernel
theorem dX7_linesOf_23 : decode cX7_linesOf 23 = .ok (.lor, 1) := by decide +kernel
theorem dX7_linesOf_24 : decode cX7_linesOf 24 = .ok (.iload_n 0, 1) := by decide +kernel
theorem dX7_linesOf_25 : decode cX7_linesOf 25 = .ok (.invokestatic 421, 3) := by decide +kernel
theorem dX7_linesOf_28 : decode cX7_linesOf 28 = .ok (.ldc2_w 424, 3) := by decide +kernel
theorem dX7_linesOf_31 : decode cX7_linesOf 31 = .ok (.lxor, 1) := by decide +kernel
theorem dX7_linesOf_32 : decode cX7_linesOf 32 = .ok (.land, 1) := by decide +kernel
theorem dX7_linesOf_33 : decode cX7_linesOf 33 = .ok (.lreturn, 1) := by decide +kernel
theorem dX7_copyRow_0 : decode cX7_copyRow 0 = .ok (.aload_n 0, 1) := by decide +kernel
theorem dX7_copyRow_1 : decode cX7_copyRow 1 = .ok (.iconst 0, 1) := by decide +kernel
theorem dX7_copyRow_2 : decode cX7_copyRow 2 = .ok (.aload_n 1, 1) := by decide +kernel
theorem dX7_copyRow_3 : decode cX7_copyRow 3 = .ok (.iconst 0, 1) := by decide +kernel
theorem dX7_copyRow_4 : decode cX7_copyRow 4 = .ok (.aload_n 0, 1) := by decide +kernel
theorem dX7_copyRow_5 : decode cX7_copyRow 5 = .ok (.arraylength, 1) := by decide +kernel
theorem dX7_copyRow_6 : decode cX7_copyRow 6 = .ok (.aload_n 1, 1) := by decide +kernel
theorem dX7_copyRow_7 : decode cX7_copyRow 7 = .ok (.arraylength, 1) := by decide +kernel
theorem dX7_copyRow_8 : decode cX7_copyRow 8 = .ok (.invokestatic 426, 3) := by decide +kernel
theorem dX7_copyRow_11 : decode cX7_copyRow 11 = .ok (.invokestatic 429, 3) := by decide +kernel
theorem dX7_copyRow_14 : decode cX7_copyRow 14 = .ok (.return_, 1) := by decide +kernel
theorem dJ13_bitCount_95d88_0 : decode cJ13_bitCount_95d88 0 = .ok (.lload_n 0, 1) := by decide +kernel
theorem dJ13_bitCount_95d88_1 : decode cJ13_bitCount_95d88 1 = .ok (.lload_n 0, 1) := by decide +kernel
theorem dJ13_bitCount_95d88_2 : decode cJ13_bitCount_95d88 2 = .ok (.iconst 1, 1) := by decide +kernel
theorem dJ13_bitCount_95d88_3 : decode cJ13_bitCount_95d88 3 = .ok (.lushr, 1) := by decide +kernel
theorem dJ13_bitCount_95d88_4 : decode cJ13_bitCount_95d88 4 = .ok (.ldc2_w 314, 3) := by decide +kernel
theorem dJ13_bitCount_95d88_7 : decode cJ13_bitCount_95d88 7 = .ok (.land, 1) := by decide +kernel
theorem dJ13_bitCount_95d88_8 : decode cJ13_bitCount_95d88 8 = .ok (.lsub, 1) := by decide +kernel
theorem dJ13_bitCount_95d88_9 : decode cJ13_bitCount_95d88 9 = .ok (.lstore_n 0, 1) := by decide +kernel
theorem dJ13_bitCount_95d88_10 : decode cJ13_bitCount_95d88 10 = .ok (.lload_n 0, 1) := by decide +kernel
theorem dJ13_bitCount_95d88_11 : decode cJ13_bitCount_95d88 11 = .ok (.ldc2_w 316, 3) := by decide +kernel
theorem dJ13_bitCount_95d88_14 : decode cJ13_bitCount_95d88 14 = .ok (.land, 1) := by decide +kernel
theorem dJ13_bitCount_95d88_15 : decode cJ13_bitCount_95d88 15 = .ok (.lload_n 0, 1) := by decide +kernel
theorem dJ13_bitCount_95d88_16 : decode cJ13_bitCount_95d88 16 = .ok (.iconst 2, 1) := by decide +kernel
theorem dJ13_bitCount_95d88_17 : decode cJ13_bitCount_95d88 17 = .ok (.lushr, 1) := by decide +kernel
theorem dJ13_bitCount_95d88_18 : decode cJ13_bitCount_95d88 18 = .ok (.ldc2_w 316, 3) := by decide +kernel
theorem dJ13_bitCount_95d88_21 : decode cJ13_bitCount_95d88 21 = .ok (.land, 1) := by decide +kernel
theorem dJ13_bitCount_95d88_22 : decode cJ13_bitCount_95d88 22 = .ok (.ladd, 1) := by decide +kernel
theorem dJ13_bitCount_95d88_23 : decode cJ13_bitCount_95d88 23 = .ok (.lstore_n 0, 1) := by decide +kernel
theorem dJ13_bitCount_95d88_24 : decode cJ13_bitCount_95d88 24 = .ok (.lload_n 0, 1) := by decide +kernel
theorem dJ13_bitCount_95d88_25 : decode cJ13_bitCount_95d88 25 = .ok (.lload_n 0, 1) := by decide +kernel
theorem dJ13_bitCount_95d88_26 : decode cJ13_bitCount_95d88 26 = .ok (.iconst 4, 1) := by decide +kernel
theorem dJ13_bitCount_95d88_27 : decode cJ13_bitCount_95d88 27 = .ok (.lushr, 1) := by decide +kernel
theorem dJ13_bitCount_95d88_28 : decode cJ13_bitCount_95d88 28 = .ok (.ladd, 1) := by decide +kernel
theorem dJ13_bitCount_95d88_29 : decode cJ13_bitCount_95d88 29 = .ok (.ldc2_w 318, 3) := by decide +kernel
theorem dJ13_bitCount_95d88_32 : decode cJ13_bitCount_95d88 32 = .ok (.land, 1) := by decide +kernel
theorem dJ13_bitCount_95d88_33 : decode cJ13_bitCount_95d88 33 = .ok (.lstore_n 0, 1) := by decide +kernel
theorem dJ13_bitCount_95d88_34 : decode cJ13_bitCount_95d88 34 = .ok (.lload_n 0, 1) := by decide +kernel
theorem dJ13_bitCount_95d88_35 : decode cJ13_bitCount_95d88 35 = .ok (.lload_n 0, 1) := by decide +kernel
theorem dJ13_bitCount_95d88_36 : decode cJ13_bitCount_95d88 36 = .ok (.bipush 8, 2) := by decide +kernel
theorem dJ13_bitCount_95d88_38 : decode cJ13_bitCount_95d88 38 = .ok (.lushr, 1) := by decide +kernel
theorem dJ13_bitCount_95d88_39 : decode cJ13_bitCount_95d88 39 = .ok (.ladd, 1) := by decide +kernel
theorem dJ13_bitCount_95d88_40 : decode cJ13_bitCount_95d88 40 = .ok (.lstore_n 0, 1) := by decide +kernel
theorem dJ13_bitCount_95d88_41 : decode cJ13_bitCount_95d88 41 = .ok (.lload_n 0, 1) := by decide +kernel
theorem dJ13_bitCount_95d88_42 : decode cJ13_bitCount_95d88 42 = .ok (.lload_n 0, 1) := by decide +kernel
theorem dJ13_bitCount_95d88_43 : decode cJ13_bitCount_95d88 43 = .ok (.bipush 16, 2) := by decide +kernel
theorem dJ13_bitCount_95d88_45 : decode cJ13_bitCount_95d88 45 = .ok (.lushr, 1) := by decide +kernel
theorem dJ13_bitCount_95d88_46 : decode cJ13_bitCount_95d88 46 = .ok (.ladd, 1) := by decide +kernel
theorem dJ13_bitCount_95d88_47 : decode cJ13_bitCount_95d88 47 = .ok (.lstore_n 0, 1) := by decide +kernel
theorem dJ13_bitCount_95d88_48 : decode cJ13_bitCount_95d88 48 = .ok (.lload_n 0, 1) := by decide +kernel
theorem dJ13_bitCount_95d88_49 : decode cJ13_bitCount_95d88 49 = .ok (.lload_n 0, 1) := by decide +kernel
theorem dJ13_bitCount_95d88_50 : decode cJ13_bitCount_95d88 50 = .ok (.bipush 32, 2) := by decide +kernel
theorem dJ13_bitCount_95d88_52 : decode cJ13_bitCount_95d88 52 = .ok (.lushr, 1) := by decide +kernel
theorem dJ13_bitCount_95d88_53 : decode cJ13_bitCount_95d88 53 = .ok (.ladd, 1) := by decide +kernel
theorem dJ13_bitCount_95d88_54 : decode cJ13_bitCount_95d88 54 = .ok (.lstore_n 0, 1) := by decide +kernel
theorem dJ13_bitCount_95d88_55 : decode cJ13_bitCount_95d88 55 = .ok (.lload_n 0, 1) := by decide +kernel
theorem dJ13_bitCount_95d88_56 : decode cJ13_bitCount_95d88 56 = .ok (.l2i, 1) := by decide +kernel
theorem dJ13_bitCount_95d88_57 : decode cJ13_bitCount_95d88 57 = .ok (.bipush 127, 2) := by decide +kernel
theorem dJ13_bitCount_95d88_59 : decode cJ13_bitCount_95d88 59 = .ok (.iand, 1) := by decide +kernel
theorem dJ13_bitCount_95d88_60 : decode cJ13_bitCount_95d88 60 = .ok (.ireturn, 1) := by decide +kernel
theorem dJ9_max_7cf53_0 : decode cJ9_max_7cf53 0 = .ok (.iload_n 0, 1) := by decide +kernel
theorem dJ9_max_7cf53_1 : decode cJ9_max_7cf53 1 = .ok (.iload_n 1, 1) := by decide +kernel
theorem dJ9_max_7cf53_2 : decode cJ9_max_7cf53 2 = .ok (.if_icmp .lt 7, 3) := by decide +kernel
theorem dJ9_max_7cf53_5 : decode cJ9_max_7cf53 5 = .ok (.iload_n 0, 1) := by decide +kernel
theorem dJ9_max_7cf53_6 : decode cJ9_max_7cf53 6 = .ok (.goto 4, 3) := by decide +kernel
theorem dJ9_max_7cf53_9 : decode cJ9_max_7cf53 9 = .ok (.iload_n 1, 1) := by decide +kernel
theorem dJ9_max_7cf53_10 : decode cJ9_max_7cf53 10 = .ok (.ireturn, 1) := by decide +kernel
theorem dJ9_min_7cf53_0 : decode cJ9_min_7cf53 0 = .ok (.iload_n 0, 1) := by decide +kernel
theorem dJ9_min_7cf53_1 : decode cJ9_min_7cf53 1 = .ok (.iload_n 1, 1) := by decide +kernel
theorem dJ9_min_7cf53_2 : decode cJ9_min_7cf53 2 = .ok (.if_icmp .gt 7, 3) := by decide +kernel
theorem dJ9_min_7cf53_5 : decode cJ9_min_7cf53 5 = .ok (.iload_n 0, 1) := by decide +kernel
theorem dJ9_min_7cf53_6 : decode cJ9_min_7cf53 6 = .ok (.goto 4, 3) := by decide +kernel
theorem dJ9_min_7cf53_9 : decode cJ9_min_7cf53 9 = .ok (.iload_n 1, 1) := by decide +kernel
theorem dJ9_min_7cf53_10 : decode cJ9_min_7cf53 10 = .ok (.ireturn, 1) := by decide +kernel
theorem dJ7_fill_53178_0 : decode cJ7_fill_53178 0 = .ok (.iconst 0, 1) := by decide +kernel
theorem dJ7_fill_53178_1 : decode cJ7_fill_53178 1 = .ok (.istore_n 2, 1) := by decide +kernel
theorem dJ7_fill_53178_2 : decode cJ7_fill_53178 2 = .ok (.aload_n 0, 1) := by decide +kernel
theorem dJ7_fill_53178_3 : decode cJ7_fill_53178 3 = .ok (.arraylength, 1) := by decide +kernel
theorem dJ7_fill_53178_4 : decode cJ7_fill_53178 4 = .ok (.istore_n 3, 1) := by decide +kernel
theorem dJ7_fill_53178_5 : decode cJ7_fill_53178 5 = .ok (.iload_n 2, 1) := by decide +kernel
theorem dJ7_fill_53178_6 : decode cJ7_fill_53178 6 = .ok (.iload_n 3, 1) := by decide +kernel
theorem dJ7_fill_53178_7 : decode cJ7_fill_53178 7 = .ok (.if_icmp .ge 13, 3) := by decide +kernel
theorem dJ7_fill_53178_10 : decode cJ7_fill_53178 10 = .ok (.aload_n 0, 1) := by decide +kernel
