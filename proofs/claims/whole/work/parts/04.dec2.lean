theorem dX8_insure_49 : decode cX8_insure 49 = .ok (.iload_n 1, 1) := by decide +kernel
theorem dX8_insure_50 : decode cX8_insure 50 = .ok (.invokevirtual 76, 3) := by decide +kernel
theorem dX8_insure_53 : decode cX8_insure 53 = .ok (.ifCond .eq 26, 3) := by decide +kernel
theorem dX8_insure_56 : decode cX8_insure 56 = .ok (.aload_n 0, 1) := by decide +kernel
theorem dX8_insure_57 : decode cX8_insure 57 = .ok (.iload_n 1, 1) := by decide +kernel
theorem dX8_insure_58 : decode cX8_insure 58 = .ok (.iconst 4, 1) := by decide +kernel
theorem dX8_insure_59 : decode cX8_insure 59 = .ok (.invokevirtual 62, 3) := by decide +kernel
theorem dX8_insure_62 : decode cX8_insure 62 = .ok (.ifCond .ne 17, 3) := by decide +kernel
theorem dX8_insure_65 : decode cX8_insure 65 = .ok (.aload_n 0, 1) := by decide +kernel
theorem dX8_insure_66 : decode cX8_insure 66 = .ok (.iload_n 1, 1) := by decide +kernel
theorem dX8_insure_67 : decode cX8_insure 67 = .ok (.iconst 3, 1) := by decide +kernel
theorem dX8_insure_68 : decode cX8_insure 68 = .ok (.invokevirtual 62, 3) := by decide +kernel
theorem dX8_insure_71 : decode cX8_insure 71 = .ok (.iload_n 3, 1) := by decide +kernel
theorem dX8_insure_72 : decode cX8_insure 72 = .ok (.if_icmp .lt 7, 3) := by decide +kernel
theorem dX8_insure_75 : decode cX8_insure 75 = .ok (.iconst 1, 1) := by decide +kernel
theorem dX8_insure_76 : decode cX8_insure 76 = .ok (.goto 4, 3) := by decide +kernel
theorem dX8_insure_79 : decode cX8_insure 79 = .ok (.iconst 0, 1) := by decide +kernel
theorem dX8_insure_80 : decode cX8_insure 80 = .ok (.istore 5, 2) := by decide +kernel
theorem dX8_insure_82 : decode cX8_insure 82 = .ok (.iload 5, 2) := by decide +kernel
theorem dX8_insure_84 : decode cX8_insure 84 = .ok (.ifCond .eq 21, 3) := by decide +kernel
theorem dX8_insure_87 : decode cX8_insure 87 = .ok (.aload_n 0, 1) := by decide +kernel
theorem dX8_insure_88 : decode cX8_insure 88 = .ok (.aload_n 0, 1) := by decide +kernel
theorem dX8_insure_89 : decode cX8_insure 89 = .ok (.iload_n 1, 1) := by decide +kernel
theorem dX8_insure_90 : decode cX8_insure 90 = .ok (.iconst 2, 1) := by decide +kernel
theorem dX8_insure_91 : decode cX8_insure 91 = .ok (.invokevirtual 62, 3) := by decide +kernel
theorem dX8_insure_94 : decode cX8_insure 94 = .ok (.iconst 1, 1) := by decide +kernel
theorem dX8_insure_95 : decode cX8_insure 95 = .ok (.isub, 1) := by decide +kernel
theorem dX8_insure_96 : decode cX8_insure 96 = .ok (.iconst 0, 1) := by decide +kernel
theorem dX8_insure_97 : decode cX8_insure 97 = .ok (.invokevirtual 79, 3) := by decide +kernel
theorem dX8_insure_100 : decode cX8_insure 100 = .ok (.iload 4, 2) := by decide +kernel
theorem dX8_insure_102 : decode cX8_insure 102 = .ok (.if_icmp .ge 9, 3) := by decide +kernel
theorem dX8_insure_105 : decode cX8_insure 105 = .ok (.aload_n 0, 1) := by decide +kernel
theorem dX8_insure_106 : decode cX8_insure 106 = .ok (.iconst 3, 1) := by decide +kernel
theorem dX8_insure_107 : decode cX8_insure 107 = .ok (.invokevirtual 49, 3) := by decide +kernel
theorem dX8_insure_110 : decode cX8_insure 110 = .ok (.ireturn, 1) := by decide +kernel
theorem dX8_insure_111 : decode cX8_insure 111 = .ok (.aload_n 0, 1) := by decide +kernel
theorem dX8_insure_112 : decode cX8_insure 112 = .ok (.invokevirtual 53, 3) := by decide +kernel
theorem dX8_insure_115 : decode cX8_insure 115 = .ok (.aload_n 0, 1) := by decide +kernel
theorem dX8_insure_116 : decode cX8_insure 116 = .ok (.getfield 7, 3) := by decide +kernel
theorem dX8_insure_119 : decode cX8_insure 119 = .ok (.bipush 23, 2) := by decide +kernel
theorem dX8_insure_121 : decode cX8_insure 121 = .ok (.iconst 3, 1) := by decide +kernel
theorem dX8_insure_122 : decode cX8_insure 122 = .ok (.aload_n 0, 1) := by decide +kernel
theorem dX8_insure_123 : decode cX8_insure 123 = .ok (.iload_n 1, 1) := by decide +kernel
theorem dX8_insure_124 : decode cX8_insure 124 = .ok (.iconst 2, 1) := by decide +kernel
theorem dX8_insure_125 : decode cX8_insure 125 = .ok (.invokevirtual 62, 3) := by decide +kernel
theorem dX8_insure_128 : decode cX8_insure 128 = .ok (.iconst 1, 1) := by decide +kernel
theorem dX8_insure_129 : decode cX8_insure 129 = .ok (.isub, 1) := by decide +kernel
theorem dX8_insure_130 : decode cX8_insure 130 = .ok (.imul, 1) := by decide +kernel
theorem dX8_insure_131 : decode cX8_insure 131 = .ok (.iadd, 1) := by decide +kernel
theorem dX8_insure_132 : decode cX8_insure 132 = .ok (.dup2, 1) := by decide +kernel
theorem dX8_insure_133 : decode cX8_insure 133 = .ok (.iaload, 1) := by decide +kernel
theorem dX8_insure_134 : decode cX8_insure 134 = .ok (.iload 4, 2) := by decide +kernel
theorem dX8_insure_136 : decode cX8_insure 136 = .ok (.isub, 1) := by decide +kernel
theorem dX8_insure_137 : decode cX8_insure 137 = .ok (.iastore, 1) := by decide +kernel
theorem dX8_insure_138 : decode cX8_insure 138 = .ok (.aload_n 0, 1) := by decide +kernel
theorem dX8_insure_139 : decode cX8_insure 139 = .ok (.getfield 7, 3) := by decide +kernel
theorem dX8_insure_142 : decode cX8_insure 142 = .ok (.bipush 41, 2) := by decide +kernel
theorem dX8_insure_144 : decode cX8_insure 144 = .ok (.bipush 6, 2) := by decide +kernel
theorem dX8_insure_146 : decode cX8_insure 146 = .ok (.iload_n 2, 1) := by decide +kernel
theorem dX8_insure_147 : decode cX8_insure 147 = .ok (.imul, 1) := by decide +kernel
theorem dX8_insure_148 : decode cX8_insure 148 = .ok (.iadd, 1) := by decide +kernel
theorem dX8_insure_149 : decode cX8_insure 149 = .ok (.iconst 0, 1) := by decide +kernel
theorem dX8_insure_150 : decode cX8_insure 150 = .ok (.iadd, 1) := by decide +kernel
theorem dX8_insure_151 : decode cX8_insure 151 = .ok (.dup2, 1) := by decide +kernel
theorem dX8_insure_152 : decode cX8_insure 152 = .ok (.iaload, 1) := by decide +kernel
theorem dX8_insure_153 : decode cX8_insure 153 = .ok (.iload 4, 2) := by decide +kernel
theorem dX8_insure_155 : decode cX8_insure 155 = .ok (.iadd, 1) := by decide +kernel
theorem dX8_insure_156 : decode cX8_insure 156 = .ok (.iastore, 1) := by decide +kernel
theorem dX8_insure_157 : decode cX8_insure 157 = .ok (.aload_n 0, 1) := by decide +kernel
theorem dX8_insure_158 : decode cX8_insure 158 = .ok (.getfield 7, 3) := by decide +kernel
theorem dX8_insure_161 : decode cX8_insure 161 = .ok (.bipush 41, 2) := by decide +kernel
theorem dX8_insure_163 : decode cX8_insure 163 = .ok (.bipush 6, 2) := by decide +kernel
theorem dX8_insure_165 : decode cX8_insure 165 = .ok (.iload_n 2, 1) := by decide +kernel
theorem dX8_insure_166 : decode cX8_insure 166 = .ok (.imul, 1) := by decide +kernel
theorem dX8_insure_167 : decode cX8_insure 167 = .ok (.iadd, 1) := by decide +kernel
theorem dX8_insure_168 : decode cX8_insure 168 = .ok (.iconst 4, 1) := by decide +kernel
theorem dX8_insure_169 : decode cX8_insure 169 = .ok (.iadd, 1) := by decide +kernel
theorem dX8_insure_170 : decode cX8_insure 170 = .ok (.dup2, 1) := by decide +kernel
theorem dX8_insure_171 : decode cX8_insure 171 = .ok (.iaload, 1) := by decide +kernel
theorem dX8_insure_172 : decode cX8_insure 172 = .ok (.iload 4, 2) := by decide +kernel
theorem dX8_insure_174 : decode cX8_insure 174 = .ok (.iadd, 1) := by decide +kernel
theorem dX8_insure_175 : decode cX8_insure 175 = .ok (.iastore, 1) := by decide +kernel
theorem dX8_insure_176 : decode cX8_insure 176 = .ok (.aload_n 0, 1) := by decide +kernel
theorem dX8_insure_177 : decode cX8_insure 177 = .ok (.iload_n 1, 1) := by decide +kernel
theorem dX8_insure_178 : decode cX8_insure 178 = .ok (.iconst 4, 1) := by decide +kernel
theorem dX8_insure_179 : decode cX8_insure 179 = .ok (.iload_n 2, 1) := by decide +kernel
theorem dX8_insure_180 : decode cX8_insure 180 = .ok (.iconst 1, 1) := by decide +kernel
theorem dX8_insure_181 : decode cX8_insure 181 = .ok (.iadd, 1) := by decide +kernel
theorem dX8_insure_182 : decode cX8_insure 182 = .ok (.invokevirtual 34, 3) := by decide +kernel
theorem dX8_insure_185 : decode cX8_insure 185 = .ok (.aload_n 0, 1) := by decide +kernel
theorem dX8_insure_186 : decode cX8_insure 186 = .ok (.iload_n 1, 1) := by decide +kernel
theorem dX8_insure_187 : decode cX8_insure 187 = .ok (.iconst 5, 1) := by decide +kernel
theorem dX8_insure_188 : decode cX8_insure 188 = .ok (.iload_n 3, 1) := by decide +kernel
theorem dX8_insure_189 : decode cX8_insure 189 = .ok (.invokevirtual 34, 3) := by decide +kernel
theorem dX8_insure_192 : decode cX8_insure 192 = .ok (.aload_n 0, 1) := by decide +kernel
theorem dX8_insure_193 : decode cX8_insure 193 = .ok (.iload_n 2, 1) := by decide +kernel
theorem dX8_insure_194 : decode cX8_insure 194 = .ok (.invokevirtual 96, 3) := by decide +kernel
theorem dX8_insure_197 : decode cX8_insure 197 = .ok (.iload 4, 2) := by decide +kernel
theorem dX8_insure_199 : decode cX8_insure 199 = .ok (.ireturn, 1) := by decide +kernel
theorem dX8_renew_0 : decode cX8_renew 0 = .ok (.aload_n 0, 1) := by decide +kernel
theorem dX8_renew_1 : decode cX8_renew 1 = .ok (.iconst 0, 1) := by decide +kernel
theorem dX8_renew_2 : decode cX8_renew 2 = .ok (.putfield 38, 3) := by decide +kernel
theorem dX8_renew_5 : decode cX8_renew 5 = .ok (.iload_n 1, 1) := by decide +kernel
theorem dX8_renew_6 : decode cX8_renew 6 = .ok (.invokestatic 66, 3) := by decide +kernel
theorem dX8_renew_9 : decode cX8_renew 9 = .ok (.ifCond .ne 9, 3) := by decide +kernel
theorem dX8_renew_12 : decode cX8_renew 12 = .ok (.aload_n 0, 1) := by decide +kernel
theorem dX8_renew_13 : decode cX8_renew 13 = .ok (.iconst 1, 1) := by decide +kernel
theorem dX8_renew_14 : decode cX8_renew 14 = .ok (.invokevirtual 49, 3) := by decide +kernel
theorem dX8_renew_17 : decode cX8_renew 17 = .ok (.ireturn, 1) := by decide +kernel
theorem dX8_renew_18 : decode cX8_renew 18 = .ok (.aload_n 0, 1) := by decide +kernel
theorem dX8_renew_19 : decode cX8_renew 19 = .ok (.iload_n 1, 1) := by decide +kernel
theorem dX8_renew_20 : decode cX8_renew 20 = .ok (.invokevirtual 76, 3) := by decide +kernel
theorem dX8_renew_23 : decode cX8_renew 23 = .ok (.ifCond .ne 19, 3) := by decide +kernel
theorem dX8_renew_26 : decode cX8_renew 26 = .ok (.aload_n 0, 1) := by decide +kernel
theorem dX8_renew_27 : decode cX8_renew 27 = .ok (.getfield 7, 3) := by decide +kernel
theorem dX8_renew_30 : decode cX8_renew 30 = .ok (.bipush 12, 2) := by decide +kernel
theorem dX8_renew_32 : decode cX8_renew 32 = .ok (.iaload, 1) := by decide +kernel
theorem dX8_renew_33 : decode cX8_renew 33 = .ok (.aload_n 0, 1) := by decide +kernel
theorem dX8_renew_34 : decode cX8_renew 34 = .ok (.bipush 7, 2) := by decide +kernel
theorem dX8_renew_36 : decode cX8_renew 36 = .ok (.invokevirtual 59, 3) := by decide +kernel
theorem dX8_renew_39 : decode cX8_renew 39 = .ok (.if_icmp .ge 9, 3) := by decide +kernel
theorem dX8_renew_42 : decode cX8_renew 42 = .ok (.aload_n 0, 1) := by decide +kernel
theorem dX8_renew_43 : decode cX8_renew 43 = .ok (.iconst 2, 1) := by decide +kernel
theorem dX8_renew_44 : decode cX8_renew 44 = .ok (.invokevirtual 49, 3) := by decide +kernel
theorem dX8_renew_47 : decode cX8_renew 47 = .ok (.ireturn, 1) := by decide +kernel
theorem dX8_renew_48 : decode cX8_renew 48 = .ok (.aload_n 0, 1) := by decide +kernel
theorem dX8_renew_49 : decode cX8_renew 49 = .ok (.invokevirtual 53, 3) := by decide +kernel
theorem dX8_renew_52 : decode cX8_renew 52 = .ok (.aload_n 0, 1) := by decide +kernel
theorem dX8_renew_53 : decode cX8_renew 53 = .ok (.iload_n 1, 1) := by decide +kernel
theorem dX8_renew_54 : decode cX8_renew 54 = .ok (.iconst 1, 1) := by decide +kernel
theorem dX8_renew_55 : decode cX8_renew 55 = .ok (.invokevirtual 62, 3) := by decide +kernel
theorem dX8_renew_58 : decode cX8_renew 58 = .ok (.istore_n 2, 1) := by decide +kernel
theorem dX8_renew_59 : decode cX8_renew 59 = .ok (.aload_n 0, 1) := by decide +kernel
theorem dX8_renew_60 : decode cX8_renew 60 = .ok (.iload_n 1, 1) := by decide +kernel
theorem dX8_renew_61 : decode cX8_renew 61 = .ok (.iconst 1, 1) := by decide +kernel
theorem dX8_renew_62 : decode cX8_renew 62 = .ok (.bipush 100, 2) := by decide +kernel
theorem dX8_renew_64 : decode cX8_renew 64 = .ok (.invokevirtual 34, 3) := by decide +kernel
theorem dX8_renew_67 : decode cX8_renew 67 = .ok (.aload_n 0, 1) := by decide +kernel
theorem dX8_renew_68 : decode cX8_renew 68 = .ok (.iload_n 1, 1) := by decide +kernel
theorem dX8_renew_69 : decode cX8_renew 69 = .ok (.iconst 0, 1) := by decide +kernel
theorem dX8_renew_70 : decode cX8_renew 70 = .ok (.iconst 0, 1) := by decide +kernel
theorem dX8_renew_71 : decode cX8_renew 71 = .ok (.invokevirtual 34, 3) := by decide +kernel
theorem dX8_renew_74 : decode cX8_renew 74 = .ok (.aload_n 0, 1) := by decide +kernel
theorem dX8_renew_75 : decode cX8_renew 75 = .ok (.getfield 7, 3) := by decide +kernel
theorem dX8_renew_78 : decode cX8_renew 78 = .ok (.bipush 12, 2) := by decide +kernel
theorem dX8_renew_80 : decode cX8_renew 80 = .ok (.dup2, 1) := by decide +kernel
theorem dX8_renew_81 : decode cX8_renew 81 = .ok (.iaload, 1) := by decide +kernel
theorem dX8_renew_82 : decode cX8_renew 82 = .ok (.aload_n 0, 1) := by decide +kernel
theorem dX8_renew_83 : decode cX8_renew 83 = .ok (.bipush 7, 2) := by decide +kernel
theorem dX8_renew_85 : decode cX8_renew 85 = .ok (.invokevirtual 59, 3) := by decide +kernel
theorem dX8_renew_88 : decode cX8_renew 88 = .ok (.isub, 1) := by decide +kernel
theorem dX8_renew_89 : decode cX8_renew 89 = .ok (.iastore, 1) := by decide +kernel
theorem dX8_renew_90 : decode cX8_renew 90 = .ok (.aload_n 0, 1) := by decide +kernel
theorem dX8_renew_91 : decode cX8_renew 91 = .ok (.getfield 7, 3) := by decide +kernel
theorem dX8_renew_94 : decode cX8_renew 94 = .ok (.bipush 13, 2) := by decide +kernel
theorem dX8_renew_96 : decode cX8_renew 96 = .ok (.dup2, 1) := by decide +kernel
theorem dX8_renew_97 : decode cX8_renew 97 = .ok (.iaload, 1) := by decide +kernel
theorem dX8_renew_98 : decode cX8_renew 98 = .ok (.aload_n 0, 1) := by decide +kernel
theorem dX8_renew_99 : decode cX8_renew 99 = .ok (.bipush 7, 2) := by decide +kernel
theorem dX8_renew_101 : decode cX8_renew 101 = .ok (.invokevirtual 59, 3) := by decide +kernel
theorem dX8_renew_104 : decode cX8_renew 104 = .ok (.iadd, 1) := by decide +kernel
theorem dX8_renew_105 : decode cX8_renew 105 = .ok (.iastore, 1) := by decide +kernel
theorem dX8_renew_106 : decode cX8_renew 106 = .ok (.iload_n 2, 1) := by decide +kernel
theorem dX8_renew_107 : decode cX8_renew 107 = .ok (.ireturn, 1) := by decide +kernel
theorem dX8_loses_0 : decode cX8_loses 0 = .ok (.aload_n 0, 1) := by decide +kernel
theorem dX8_loses_1 : decode cX8_loses 1 = .ok (.iload_n 1, 1) := by decide +kernel
theorem dX8_loses_2 : decode cX8_loses 2 = .ok (.bipush 8, 2) := by decide +kernel
theorem dX8_loses_4 : decode cX8_loses 4 = .ok (.aload_n 0, 1) := by decide +kernel
theorem dX8_loses_5 : decode cX8_loses 5 = .ok (.iload_n 1, 1) := by decide +kernel
theorem dX8_loses_6 : decode cX8_loses 6 = .ok (.bipush 8, 2) := by decide +kernel
theorem dX8_loses_8 : decode cX8_loses 8 = .ok (.invokevirtual 62, 3) := by decide +kernel
theorem dX8_loses_11 : decode cX8_loses 11 = .ok (.iconst 1, 1) := by decide +kernel
theorem dX8_loses_12 : decode cX8_loses 12 = .ok (.iadd, 1) := by decide +kernel
theorem dX8_loses_13 : decode cX8_loses 13 = .ok (.invokevirtual 34, 3) := by decide +kernel
theorem dX8_loses_16 : decode cX8_loses 16 = .ok (.aload_n 0, 1) := by decide +kernel
theorem dX8_loses_17 : decode cX8_loses 17 = .ok (.iload_n 1, 1) := by decide +kernel
theorem dX8_loses_18 : decode cX8_loses 18 = .ok (.invokevirtual 76, 3) := by decide +kernel
theorem dX8_loses_21 : decode cX8_loses 21 = .ok (.ifCond .ne 4, 3) := by decide +kernel
theorem dX8_loses_24 : decode cX8_loses 24 = .ok (.return_, 1) := by decide +kernel
theorem dX8_loses_25 : decode cX8_loses 25 = .ok (.aload_n 0, 1) := by decide +kernel
theorem dX8_loses_26 : decode cX8_loses 26 = .ok (.iload_n 1, 1) := by decide +kernel
theorem dX8_loses_27 : decode cX8_loses 27 = .ok (.iconst 2, 1) := by decide +kernel
theorem dX8_loses_28 : decode cX8_loses 28 = .ok (.invokevirtual 62, 3) := by decide +kernel
theorem dX8_loses_31 : decode cX8_loses 31 = .ok (.iconst 1, 1) := by decide +kernel
theorem dX8_loses_32 : decode cX8_loses 32 = .ok (.isub, 1) := by decide +kernel
theorem dX8_loses_33 : decode cX8_loses 33 = .ok (.istore_n 2, 1) := by decide +kernel
theorem dX8_loses_34 : decode cX8_loses 34 = .ok (.aload_n 0, 1) := by decide +kernel
theorem dX8_loses_35 : decode cX8_loses 35 = .ok (.getfield 7, 3) := by decide +kernel
theorem dX8_loses_38 : decode cX8_loses 38 = .ok (.bipush 23, 2) := by decide +kernel
theorem dX8_loses_40 : decode cX8_loses 40 = .ok (.iconst 3, 1) := by decide +kernel
theorem dX8_loses_41 : decode cX8_loses 41 = .ok (.iload_n 2, 1) := by decide +kernel
theorem dX8_loses_42 : decode cX8_loses 42 = .ok (.imul, 1) := by decide +kernel
theorem dX8_loses_43 : decode cX8_loses 43 = .ok (.iadd, 1) := by decide +kernel
theorem dX8_loses_44 : decode cX8_loses 44 = .ok (.iconst 1, 1) := by decide +kernel
theorem dX8_loses_45 : decode cX8_loses 45 = .ok (.iadd, 1) := by decide +kernel
theorem dX8_loses_46 : decode cX8_loses 46 = .ok (.dup2, 1) := by decide +kernel
theorem dX8_loses_47 : decode cX8_loses 47 = .ok (.iaload, 1) := by decide +kernel
theorem dX8_loses_48 : decode cX8_loses 48 = .ok (.iconst 1, 1) := by decide +kernel
theorem dX8_loses_49 : decode cX8_loses 49 = .ok (.iadd, 1) := by decide +kernel
theorem dX8_loses_50 : decode cX8_loses 50 = .ok (.iastore, 1) := by decide +kernel
theorem dX8_loses_51 : decode cX8_loses 51 = .ok (.aload_n 0, 1) := by decide +kernel
theorem dX8_loses_52 : decode cX8_loses 52 = .ok (.iload_n 1, 1) := by decide +kernel
theorem dX8_loses_53 : decode cX8_loses 53 = .ok (.iconst 4, 1) := by decide +kernel
theorem dX8_loses_54 : decode cX8_loses 54 = .ok (.invokevirtual 62, 3) := by decide +kernel
theorem dX8_loses_57 : decode cX8_loses 57 = .ok (.iconst 1, 1) := by decide +kernel
theorem dX8_loses_58 : decode cX8_loses 58 = .ok (.isub, 1) := by decide +kernel
theorem dX8_loses_59 : decode cX8_loses 59 = .ok (.istore_n 3, 1) := by decide +kernel
theorem dX8_loses_60 : decode cX8_loses 60 = .ok (.iload_n 3, 1) := by decide +kernel
theorem dX8_loses_61 : decode cX8_loses 61 = .ok (.iconst (-1), 1) := by decide +kernel
theorem dX8_loses_62 : decode cX8_loses 62 = .ok (.if_icmp .eq 69, 3) := by decide +kernel
theorem dX8_loses_65 : decode cX8_loses 65 = .ok (.bipush 41, 2) := by decide +kernel
theorem dX8_loses_67 : decode cX8_loses 67 = .ok (.bipush 6, 2) := by decide +kernel
theorem dX8_loses_69 : decode cX8_loses 69 = .ok (.iload_n 3, 1) := by decide +kernel
theorem dX8_loses_70 : decode cX8_loses 70 = .ok (.imul, 1) := by decide +kernel
theorem dX8_loses_71 : decode cX8_loses 71 = .ok (.iadd, 1) := by decide +kernel
theorem dX8_loses_72 : decode cX8_loses 72 = .ok (.istore 4, 2) := by decide +kernel
theorem dX8_loses_74 : decode cX8_loses 74 = .ok (.aload_n 0, 1) := by decide +kernel
theorem dX8_loses_75 : decode cX8_loses 75 = .ok (.iload_n 1, 1) := by decide +kernel
theorem dX8_loses_76 : decode cX8_loses 76 = .ok (.iconst 4, 1) := by decide +kernel
theorem dX8_loses_77 : decode cX8_loses 77 = .ok (.iconst 0, 1) := by decide +kernel
theorem dX8_loses_78 : decode cX8_loses 78 = .ok (.invokevirtual 34, 3) := by decide +kernel
theorem dX8_loses_81 : decode cX8_loses 81 = .ok (.aload_n 0, 1) := by decide +kernel
theorem dX8_loses_82 : decode cX8_loses 82 = .ok (.iload_n 1, 1) := by decide +kernel
theorem dX8_loses_83 : decode cX8_loses 83 = .ok (.iconst 5, 1) := by decide +kernel
theorem dX8_loses_84 : decode cX8_loses 84 = .ok (.iconst 0, 1) := by decide +kernel
theorem dX8_loses_85 : decode cX8_loses 85 = .ok (.invokevirtual 34, 3) := by decide +kernel
theorem dX8_loses_88 : decode cX8_loses 88 = .ok (.aload_n 0, 1) := by decide +kernel
theorem dX8_loses_89 : decode cX8_loses 89 = .ok (.getfield 7, 3) := by decide +kernel
theorem dX8_loses_92 : decode cX8_loses 92 = .ok (.sipush 635, 3) := by decide +kernel
theorem dX8_loses_95 : decode cX8_loses 95 = .ok (.sipush 520, 3) := by decide +kernel
theorem dX8_loses_98 : decode cX8_loses 98 = .ok (.iload_n 3, 1) := by decide +kernel
theorem dX8_loses_99 : decode cX8_loses 99 = .ok (.imul, 1) := by decide +kernel
theorem dX8_loses_100 : decode cX8_loses 100 = .ok (.iadd, 1) := by decide +kernel
theorem dX8_loses_101 : decode cX8_loses 101 = .ok (.aload_n 0, 1) := by decide +kernel
theorem dX8_loses_102 : decode cX8_loses 102 = .ok (.getfield 7, 3) := by decide +kernel
theorem dX8_loses_105 : decode cX8_loses 105 = .ok (.iload 4, 2) := by decide +kernel
theorem dX8_loses_107 : decode cX8_loses 107 = .ok (.iconst 5, 1) := by decide +kernel
theorem dX8_loses_108 : decode cX8_loses 108 = .ok (.iadd, 1) := by decide +kernel
theorem dX8_loses_109 : decode cX8_loses 109 = .ok (.iaload, 1) := by decide +kernel
theorem dX8_loses_110 : decode cX8_loses 110 = .ok (.iadd, 1) := by decide +kernel
theorem dX8_loses_111 : decode cX8_loses 111 = .ok (.iload_n 2, 1) := by decide +kernel
theorem dX8_loses_112 : decode cX8_loses 112 = .ok (.iastore, 1) := by decide +kernel
theorem dX8_loses_113 : decode cX8_loses 113 = .ok (.aload_n 0, 1) := by decide +kernel
theorem dX8_loses_114 : decode cX8_loses 114 = .ok (.getfield 7, 3) := by decide +kernel
theorem dX8_loses_117 : decode cX8_loses 117 = .ok (.iload 4, 2) := by decide +kernel
theorem dX8_loses_119 : decode cX8_loses 119 = .ok (.iconst 5, 1) := by decide +kernel
theorem dX8_loses_120 : decode cX8_loses 120 = .ok (.iadd, 1) := by decide +kernel
theorem dX8_loses_121 : decode cX8_loses 121 = .ok (.dup2, 1) := by decide +kernel
theorem dX8_loses_122 : decode cX8_loses 122 = .ok (.iaload, 1) := by decide +kernel
theorem dX8_loses_123 : decode cX8_loses 123 = .ok (.iconst 1, 1) := by decide +kernel
theorem dX8_loses_124 : decode cX8_loses 124 = .ok (.iadd, 1) := by decide +kernel
theorem dX8_loses_125 : decode cX8_loses 125 = .ok (.iastore, 1) := by decide +kernel
theorem dX8_loses_126 : decode cX8_loses 126 = .ok (.aload_n 0, 1) := by decide +kernel
theorem dX8_loses_127 : decode cX8_loses 127 = .ok (.iload_n 3, 1) := by decide +kernel
theorem dX8_loses_128 : decode cX8_loses 128 = .ok (.invokevirtual 96, 3) := by decide +kernel
theorem dX8_loses_131 : decode cX8_loses 131 = .ok (.return_, 1) := by decide +kernel
theorem dX8_areInLine_0 : decode cX8_areInLine 0 = .ok (.iload_n 0, 1) := by decide +kernel
theorem dX8_areInLine_1 : decode cX8_areInLine 1 = .ok (.iload_n 1, 1) := by decide +kernel
theorem dX8_areInLine_2 : decode cX8_areInLine 2 = .ok (.if_icmp .eq 29, 3) := by decide +kernel
theorem dX8_areInLine_5 : decode cX8_areInLine 5 = .ok (.iload_n 0, 1) := by decide +kernel
theorem dX8_areInLine_6 : decode cX8_areInLine 6 = .ok (.bipush 8, 2) := by decide +kernel
theorem dX8_areInLine_8 : decode cX8_areInLine 8 = .ok (.idiv, 1) := by decide +kernel
theorem dX8_areInLine_9 : decode cX8_areInLine 9 = .ok (.iload_n 1, 1) := by decide +kernel
theorem dX8_areInLine_10 : decode cX8_areInLine 10 = .ok (.bipush 8, 2) := by decide +kernel
theorem dX8_areInLine_12 : decode cX8_areInLine 12 = .ok (.idiv, 1) := by decide +kernel
theorem dX8_areInLine_13 : decode cX8_areInLine 13 = .ok (.if_icmp .eq 14, 3) := by decide +kernel
theorem dX8_areInLine_16 : decode cX8_areInLine 16 = .ok (.iload_n 0, 1) := by decide +kernel
theorem dX8_areInLine_17 : decode cX8_areInLine 17 = .ok (.bipush 8, 2) := by decide +kernel
theorem dX8_areInLine_19 : decode cX8_areInLine 19 = .ok (.irem, 1) := by decide +kernel
theorem dX8_areInLine_20 : decode cX8_areInLine 20 = .ok (.iload_n 1, 1) := by decide +kernel
theorem dX8_areInLine_21 : decode cX8_areInLine 21 = .ok (.bipush 8, 2) := by decide +kernel
theorem dX8_areInLine_23 : decode cX8_areInLine 23 = .ok (.irem, 1) := by decide +kernel
theorem dX8_areInLine_24 : decode cX8_areInLine 24 = .ok (.if_icmp .ne 7, 3) := by decide +kernel
theorem dX8_areInLine_27 : decode cX8_areInLine 27 = .ok (.iconst 1, 1) := by decide +kernel
theorem dX8_areInLine_28 : decode cX8_areInLine 28 = .ok (.goto 4, 3) := by decide +kernel
theorem dX8_areInLine_31 : decode cX8_areInLine 31 = .ok (.iconst 0, 1) := by decide +kernel
theorem dX8_areInLine_32 : decode cX8_areInLine 32 = .ok (.ireturn, 1) := by decide +kernel
theorem dX8_isWeak_0 : decode cX8_isWeak 0 = .ok (.aload_n 0, 1) := by decide +kernel
theorem dX8_isWeak_1 : decode cX8_isWeak 1 = .ok (.iload_n 1, 1) := by decide +kernel
theorem dX8_isWeak_2 : decode cX8_isWeak 2 = .ok (.iconst 0, 1) := by decide +kernel
theorem dX8_isWeak_3 : decode cX8_isWeak 3 = .ok (.invokevirtual 62, 3) := by decide +kernel
theorem dX8_isWeak_6 : decode cX8_isWeak 6 = .ok (.iconst 1, 1) := by decide +kernel
theorem dX8_isWeak_7 : decode cX8_isWeak 7 = .ok (.if_icmp .ne 21, 3) := by decide +kernel
theorem dX8_isWeak_10 : decode cX8_isWeak 10 = .ok (.aload_n 0, 1) := by decide +kernel
theorem dX8_isWeak_11 : decode cX8_isWeak 11 = .ok (.iload_n 1, 1) := by decide +kernel
theorem dX8_isWeak_12 : decode cX8_isWeak 12 = .ok (.iconst 1, 1) := by decide +kernel
theorem dX8_isWeak_13 : decode cX8_isWeak 13 = .ok (.invokevirtual 62, 3) := by decide +kernel
theorem dX8_isWeak_16 : decode cX8_isWeak 16 = .ok (.aload_n 0, 1) := by decide +kernel
theorem dX8_isWeak_17 : decode cX8_isWeak 17 = .ok (.iconst 5, 1) := by decide +kernel
theorem dX8_isWeak_18 : decode cX8_isWeak 18 = .ok (.invokevirtual 59, 3) := by decide +kernel
theorem dX8_isWeak_21 : decode cX8_isWeak 21 = .ok (.if_icmp .ge 7, 3) := by decide +kernel
theorem dX8_isWeak_24 : decode cX8_isWeak 24 = .ok (.iconst 1, 1) := by decide +kernel
theorem dX8_isWeak_25 : decode cX8_isWeak 25 = .ok (.goto 4, 3) := by decide +kernel
theorem dX8_isWeak_28 : decode cX8_isWeak 28 = .ok (.iconst 0, 1) := by decide +kernel
theorem dX8_isWeak_29 : decode cX8_isWeak 29 = .ok (.ireturn, 1) := by decide +kernel
theorem dX8_worn_0 : decode cX8_worn 0 = .ok (.aload_n 0, 1) := by decide +kernel
theorem dX8_worn_1 : decode cX8_worn 1 = .ok (.iload_n 1, 1) := by decide +kernel
theorem dX8_worn_2 : decode cX8_worn 2 = .ok (.iconst 1, 1) := by decide +kernel
theorem dX8_worn_3 : decode cX8_worn 3 = .ok (.invokevirtual 62, 3) := by decide +kernel
theorem dX8_worn_6 : decode cX8_worn 6 = .ok (.iconst 1, 1) := by decide +kernel
theorem dX8_worn_7 : decode cX8_worn 7 = .ok (.isub, 1) := by decide +kernel
theorem dX8_worn_8 : decode cX8_worn 8 = .ok (.aload_n 0, 1) := by decide +kernel
theorem dX8_worn_9 : decode cX8_worn 9 = .ok (.getfield 7, 3) := by decide +kernel
theorem dX8_worn_12 : decode cX8_worn 12 = .ok (.iconst 1, 1) := by decide +kernel
theorem dX8_worn_13 : decode cX8_worn 13 = .ok (.iaload, 1) := by decide +kernel
theorem dX8_worn_14 : decode cX8_worn 14 = .ok (.bipush 25, 2) := by decide +kernel
theorem dX8_worn_16 : decode cX8_worn 16 = .ok (.idiv, 1) := by decide +kernel
theorem dX8_worn_17 : decode cX8_worn 17 = .ok (.isub, 1) := by decide +kernel
theorem dX8_worn_18 : decode cX8_worn 18 = .ok (.invokestatic 100, 3) := by decide +kernel
theorem dX8_worn_21 : decode cX8_worn 21 = .ok (.ireturn, 1) := by decide +kernel
theorem dX8_heated_0 : decode cX8_heated 0 = .ok (.bipush 100, 2) := by decide +kernel
theorem dX8_heated_2 : decode cX8_heated 2 = .ok (.aload_n 0, 1) := by decide +kernel
theorem dX8_heated_3 : decode cX8_heated 3 = .ok (.getfield 7, 3) := by decide +kernel
theorem dX8_heated_6 : decode cX8_heated 6 = .ok (.iconst 1, 1) := by decide +kernel
theorem dX8_heated_7 : decode cX8_heated 7 = .ok (.iaload, 1) := by decide +kernel
theorem dX8_heated_8 : decode cX8_heated 8 = .ok (.iload_n 1, 1) := by decide +kernel
theorem dX8_heated_9 : decode cX8_heated 9 = .ok (.iadd, 1) := by decide +kernel
theorem dX8_heated_10 : decode cX8_heated 10 = .ok (.invokestatic 103, 3) := by decide +kernel
theorem dX8_heated_13 : decode cX8_heated 13 = .ok (.ireturn, 1) := by decide +kernel
theorem dX8_pulse_0 : decode cX8_pulse 0 = .ok (.aload_n 0, 1) := by decide +kernel
theorem dX8_pulse_1 : decode cX8_pulse 1 = .ok (.iload_n 1, 1) := by decide +kernel
theorem dX8_pulse_2 : decode cX8_pulse 2 = .ok (.iconst 1, 1) := by decide +kernel
theorem dX8_pulse_3 : decode cX8_pulse 3 = .ok (.aload_n 0, 1) := by decide +kernel
theorem dX8_pulse_4 : decode cX8_pulse 4 = .ok (.iload_n 1, 1) := by decide +kernel
theorem dX8_pulse_5 : decode cX8_pulse 5 = .ok (.invokevirtual 106, 3) := by decide +kernel
theorem dX8_pulse_8 : decode cX8_pulse 8 = .ok (.invokevirtual 34, 3) := by decide +kernel
theorem dX8_pulse_11 : decode cX8_pulse 11 = .ok (.iconst 0, 1) := by decide +kernel
theorem dX8_pulse_12 : decode cX8_pulse 12 = .ok (.istore_n 3, 1) := by decide +kernel
theorem dX8_pulse_13 : decode cX8_pulse 13 = .ok (.iload_n 3, 1) := by decide +kernel
theorem dX8_pulse_14 : decode cX8_pulse 14 = .ok (.bipush 64, 2) := by decide +kernel
theorem dX8_pulse_16 : decode cX8_pulse 16 = .ok (.if_icmp .ge 48, 3) := by decide +kernel
theorem dX8_pulse_19 : decode cX8_pulse 19 = .ok (.iload_n 1, 1) := by decide +kernel
theorem dX8_pulse_20 : decode cX8_pulse 20 = .ok (.iload_n 3, 1) := by decide +kernel
theorem dX8_pulse_21 : decode cX8_pulse 21 = .ok (.invokestatic 109, 3) := by decide +kernel
theorem dX8_pulse_24 : decode cX8_pulse 24 = .ok (.ifCond .eq 34, 3) := by decide +kernel
theorem dX8_pulse_27 : decode cX8_pulse 27 = .ok (.aload_n 0, 1) := by decide +kernel
theorem dX8_pulse_28 : decode cX8_pulse 28 = .ok (.iload_n 3, 1) := by decide +kernel
theorem dX8_pulse_29 : decode cX8_pulse 29 = .ok (.invokevirtual 113, 3) := by decide +kernel
theorem dX8_pulse_32 : decode cX8_pulse 32 = .ok (.ifCond .eq 26, 3) := by decide +kernel
theorem dX8_pulse_35 : decode cX8_pulse 35 = .ok (.aload_n 0, 1) := by decide +kernel
theorem dX8_pulse_36 : decode cX8_pulse 36 = .ok (.iload_n 3, 1) := by decide +kernel
theorem dX8_pulse_37 : decode cX8_pulse 37 = .ok (.iconst 0, 1) := by decide +kernel
theorem dX8_pulse_38 : decode cX8_pulse 38 = .ok (.iconst 0, 1) := by decide +kernel
theorem dX8_pulse_39 : decode cX8_pulse 39 = .ok (.invokevirtual 34, 3) := by decide +kernel
theorem dX8_pulse_42 : decode cX8_pulse 42 = .ok (.aload_n 0, 1) := by decide +kernel
theorem dX8_pulse_43 : decode cX8_pulse 43 = .ok (.getfield 7, 3) := by decide +kernel
theorem dX8_pulse_46 : decode cX8_pulse 46 = .ok (.bipush 9, 2) := by decide +kernel
theorem dX8_pulse_48 : decode cX8_pulse 48 = .ok (.dup2, 1) := by decide +kernel
theorem dX8_pulse_49 : decode cX8_pulse 49 = .ok (.iaload, 1) := by decide +kernel
theorem dX8_pulse_50 : decode cX8_pulse 50 = .ok (.iconst 1, 1) := by decide +kernel
theorem dX8_pulse_51 : decode cX8_pulse 51 = .ok (.iadd, 1) := by decide +kernel
theorem dX8_pulse_52 : decode cX8_pulse 52 = .ok (.iastore, 1) := by decide +kernel
theorem dX8_pulse_53 : decode cX8_pulse 53 = .ok (.aload_n 0, 1) := by decide +kernel
theorem dX8_pulse_54 : decode cX8_pulse 54 = .ok (.iload_n 3, 1) := by decide +kernel
theorem dX8_pulse_55 : decode cX8_pulse 55 = .ok (.invokevirtual 116, 3) := by decide +kernel
theorem dX8_pulse_58 : decode cX8_pulse 58 = .ok (.iinc 3 1, 3) := by decide +kernel
theorem dX8_pulse_61 : decode cX8_pulse 61 = .ok (.goto (-48), 3) := by decide +kernel
theorem dX8_pulse_64 : decode cX8_pulse 64 = .ok (.aload_n 0, 1) := by decide +kernel
theorem dX8_pulse_65 : decode cX8_pulse 65 = .ok (.getfield 7, 3) := by decide +kernel
theorem dX8_pulse_68 : decode cX8_pulse 68 = .ok (.iconst 1, 1) := by decide +kernel
theorem dX8_pulse_69 : decode cX8_pulse 69 = .ok (.aload_n 0, 1) := by decide +kernel
theorem dX8_pulse_70 : decode cX8_pulse 70 = .ok (.iload_n 2, 1) := by decide +kernel
theorem dX8_pulse_71 : decode cX8_pulse 71 = .ok (.invokevirtual 119, 3) := by decide +kernel
theorem dX8_pulse_74 : decode cX8_pulse 74 = .ok (.iastore, 1) := by decide +kernel
theorem dX8_pulse_75 : decode cX8_pulse 75 = .ok (.return_, 1) := by decide +kernel
theorem dX8_writes_0 : decode cX8_writes 0 = .ok (.aload_n 0, 1) := by decide +kernel
theorem dX8_writes_1 : decode cX8_writes 1 = .ok (.iload_n 1, 1) := by decide +kernel
theorem dX8_writes_2 : decode cX8_writes 2 = .ok (.aload_n 0, 1) := by decide +kernel
theorem dX8_writes_3 : decode cX8_writes 3 = .ok (.iconst 1, 1) := by decide +kernel
theorem dX8_writes_4 : decode cX8_writes 4 = .ok (.invokevirtual 59, 3) := by decide +kernel
theorem dX8_writes_7 : decode cX8_writes 7 = .ok (.invokevirtual 122, 3) := by decide +kernel
theorem dX8_writes_10 : decode cX8_writes 10 = .ok (.aload_n 0, 1) := by decide +kernel
theorem dX8_writes_11 : decode cX8_writes 11 = .ok (.iload_n 1, 1) := by decide +kernel
theorem dX8_writes_12 : decode cX8_writes 12 = .ok (.iconst 0, 1) := by decide +kernel
theorem dX8_writes_13 : decode cX8_writes 13 = .ok (.aload_n 0, 1) := by decide +kernel
theorem dX8_writes_14 : decode cX8_writes 14 = .ok (.iload_n 1, 1) := by decide +kernel
theorem dX8_writes_15 : decode cX8_writes 15 = .ok (.iconst 1, 1) := by decide +kernel
theorem dX8_writes_16 : decode cX8_writes 16 = .ok (.invokevirtual 62, 3) := by decide +kernel
theorem dX8_writes_19 : decode cX8_writes 19 = .ok (.aload_n 0, 1) := by decide +kernel
theorem dX8_writes_20 : decode cX8_writes 20 = .ok (.iconst 4, 1) := by decide +kernel
theorem dX8_writes_21 : decode cX8_writes 21 = .ok (.invokevirtual 59, 3) := by decide +kernel
theorem dX8_writes_24 : decode cX8_writes 24 = .ok (.if_icmp .ge 7, 3) := by decide +kernel
theorem dX8_writes_27 : decode cX8_writes 27 = .ok (.iconst 0, 1) := by decide +kernel
theorem dX8_writes_28 : decode cX8_writes 28 = .ok (.goto 4, 3) := by decide +kernel
theorem dX8_writes_31 : decode cX8_writes 31 = .ok (.iload_n 2, 1) := by decide +kernel
theorem dX8_writes_32 : decode cX8_writes 32 = .ok (.invokevirtual 34, 3) := by decide +kernel
theorem dX8_writes_35 : decode cX8_writes 35 = .ok (.aload_n 0, 1) := by decide +kernel
theorem dX8_writes_36 : decode cX8_writes 36 = .ok (.iload_n 1, 1) := by decide +kernel
theorem dX8_writes_37 : decode cX8_writes 37 = .ok (.invokevirtual 126, 3) := by decide +kernel
theorem dX8_writes_40 : decode cX8_writes 40 = .ok (.ifCond .eq 22, 3) := by decide +kernel
theorem dX8_writes_43 : decode cX8_writes 43 = .ok (.aload_n 0, 1) := by decide +kernel
theorem dX8_writes_44 : decode cX8_writes 44 = .ok (.iload_n 1, 1) := by decide +kernel
theorem dX8_writes_45 : decode cX8_writes 45 = .ok (.bipush 6, 2) := by decide +kernel
theorem dX8_writes_47 : decode cX8_writes 47 = .ok (.iconst 0, 1) := by decide +kernel
theorem dX8_writes_48 : decode cX8_writes 48 = .ok (.invokevirtual 34, 3) := by decide +kernel
theorem dX8_writes_51 : decode cX8_writes 51 = .ok (.aload_n 0, 1) := by decide +kernel
theorem dX8_writes_52 : decode cX8_writes 52 = .ok (.getfield 7, 3) := by decide +kernel
theorem dX8_writes_55 : decode cX8_writes 55 = .ok (.bipush 10, 2) := by decide +kernel
theorem dX8_writes_57 : decode cX8_writes 57 = .ok (.dup2, 1) := by decide +kernel
theorem dX8_writes_58 : decode cX8_writes 58 = .ok (.iaload, 1) := by decide +kernel
theorem dX8_writes_59 : decode cX8_writes 59 = .ok (.iconst 1, 1) := by decide +kernel
theorem dX8_writes_60 : decode cX8_writes 60 = .ok (.iadd, 1) := by decide +kernel
theorem dX8_writes_61 : decode cX8_writes 61 = .ok (.iastore, 1) := by decide +kernel
theorem dX8_writes_62 : decode cX8_writes 62 = .ok (.aload_n 0, 1) := by decide +kernel
theorem dX8_writes_63 : decode cX8_writes 63 = .ok (.iload_n 1, 1) := by decide +kernel
theorem dX8_writes_64 : decode cX8_writes 64 = .ok (.iconst 0, 1) := by decide +kernel
theorem dX8_writes_65 : decode cX8_writes 65 = .ok (.invokevirtual 62, 3) := by decide +kernel
theorem dX8_writes_68 : decode cX8_writes 68 = .ok (.ireturn, 1) := by decide +kernel
theorem dX8_write_0 : decode cX8_write 0 = .ok (.aload_n 0, 1) := by decide +kernel
theorem dX8_write_1 : decode cX8_write 1 = .ok (.iconst 0, 1) := by decide +kernel
theorem dX8_write_2 : decode cX8_write 2 = .ok (.putfield 38, 3) := by decide +kernel
theorem dX8_write_5 : decode cX8_write 5 = .ok (.iload_n 1, 1) := by decide +kernel
theorem dX8_write_6 : decode cX8_write 6 = .ok (.invokestatic 66, 3) := by decide +kernel
theorem dX8_write_9 : decode cX8_write 9 = .ok (.ifCond .ne 9, 3) := by decide +kernel
theorem dX8_write_12 : decode cX8_write 12 = .ok (.aload_n 0, 1) := by decide +kernel
theorem dX8_write_13 : decode cX8_write 13 = .ok (.iconst 1, 1) := by decide +kernel
theorem dX8_write_14 : decode cX8_write 14 = .ok (.invokevirtual 49, 3) := by decide +kernel
theorem dX8_write_17 : decode cX8_write 17 = .ok (.ireturn, 1) := by decide +kernel
theorem dX8_write_18 : decode cX8_write 18 = .ok (.aload_n 0, 1) := by decide +kernel
theorem dX8_write_19 : decode cX8_write 19 = .ok (.iload_n 1, 1) := by decide +kernel
theorem dX8_write_20 : decode cX8_write 20 = .ok (.invokevirtual 76, 3) := by decide +kernel
theorem dX8_write_23 : decode cX8_write 23 = .ok (.ifCond .ne 9, 3) := by decide +kernel
theorem dX8_write_26 : decode cX8_write 26 = .ok (.aload_n 0, 1) := by decide +kernel
theorem dX8_write_27 : decode cX8_write 27 = .ok (.iconst 2, 1) := by decide +kernel
theorem dX8_write_28 : decode cX8_write 28 = .ok (.invokevirtual 49, 3) := by decide +kernel
theorem dX8_write_31 : decode cX8_write 31 = .ok (.ireturn, 1) := by decide +kernel
theorem dX8_write_32 : decode cX8_write 32 = .ok (.aload_n 0, 1) := by decide +kernel
theorem dX8_write_33 : decode cX8_write 33 = .ok (.invokevirtual 53, 3) := by decide +kernel
theorem dX8_write_36 : decode cX8_write 36 = .ok (.aload_n 0, 1) := by decide +kernel
theorem dX8_write_37 : decode cX8_write 37 = .ok (.iload_n 1, 1) := by decide +kernel
theorem dX8_write_38 : decode cX8_write 38 = .ok (.iload_n 2, 1) := by decide +kernel
theorem dX8_write_39 : decode cX8_write 39 = .ok (.ifCond .eq 7, 3) := by decide +kernel
theorem dX8_write_42 : decode cX8_write 42 = .ok (.iconst 1, 1) := by decide +kernel
theorem dX8_write_43 : decode cX8_write 43 = .ok (.goto 4, 3) := by decide +kernel
theorem dX8_write_46 : decode cX8_write 46 = .ok (.iconst 0, 1) := by decide +kernel
theorem dX8_write_47 : decode cX8_write 47 = .ok (.invokevirtual 129, 3) := by decide +kernel
theorem dX8_write_50 : decode cX8_write 50 = .ok (.ireturn, 1) := by decide +kernel
theorem dX8_canRead_0 : decode cX8_canRead 0 = .ok (.aload_n 0, 1) := by decide +kernel
theorem dX8_canRead_1 : decode cX8_canRead 1 = .ok (.iload_n 1, 1) := by decide +kernel
theorem dX8_canRead_2 : decode cX8_canRead 2 = .ok (.invokevirtual 76, 3) := by decide +kernel
theorem dX8_canRead_5 : decode cX8_canRead 5 = .ok (.ifCond .eq 15, 3) := by decide +kernel
theorem dX8_canRead_8 : decode cX8_canRead 8 = .ok (.aload_n 0, 1) := by decide +kernel
theorem dX8_canRead_9 : decode cX8_canRead 9 = .ok (.iload_n 1, 1) := by decide +kernel
theorem dX8_canRead_10 : decode cX8_canRead 10 = .ok (.invokevirtual 126, 3) := by decide +kernel
theorem dX8_canRead_13 : decode cX8_canRead 13 = .ok (.ifCond .ne 7, 3) := by decide +kernel
theorem dX8_canRead_16 : decode cX8_canRead 16 = .ok (.iconst 1, 1) := by decide +kernel
theorem dX8_canRead_17 : decode cX8_canRead 17 = .ok (.goto 4, 3) := by decide +kernel
theorem dX8_canRead_20 : decode cX8_canRead 20 = .ok (.iconst 0, 1) := by decide +kernel
theorem dX8_canRead_21 : decode cX8_canRead 21 = .ok (.ireturn, 1) := by decide +kernel
theorem dX8_reads_0 : decode cX8_reads 0 = .ok (.aload_n 0, 1) := by decide +kernel
theorem dX8_reads_1 : decode cX8_reads 1 = .ok (.iload_n 1, 1) := by decide +kernel
theorem dX8_reads_2 : decode cX8_reads 2 = .ok (.aload_n 0, 1) := by decide +kernel
theorem dX8_reads_3 : decode cX8_reads 3 = .ok (.iconst 2, 1) := by decide +kernel
theorem dX8_reads_4 : decode cX8_reads 4 = .ok (.invokevirtual 59, 3) := by decide +kernel
theorem dX8_reads_7 : decode cX8_reads 7 = .ok (.invokevirtual 122, 3) := by decide +kernel
theorem dX8_reads_10 : decode cX8_reads 10 = .ok (.aload_n 0, 1) := by decide +kernel
theorem dX8_reads_11 : decode cX8_reads 11 = .ok (.getfield 7, 3) := by decide +kernel
theorem dX8_reads_14 : decode cX8_reads 14 = .ok (.iconst 4, 1) := by decide +kernel
theorem dX8_reads_15 : decode cX8_reads 15 = .ok (.dup2, 1) := by decide +kernel
theorem dX8_reads_16 : decode cX8_reads 16 = .ok (.iaload, 1) := by decide +kernel
theorem dX8_reads_17 : decode cX8_reads 17 = .ok (.iconst 1, 1) := by decide +kernel
theorem dX8_reads_18 : decode cX8_reads 18 = .ok (.iadd, 1) := by decide +kernel
theorem dX8_reads_19 : decode cX8_reads 19 = .ok (.iastore, 1) := by decide +kernel
theorem dX8_reads_20 : decode cX8_reads 20 = .ok (.aload_n 0, 1) := by decide +kernel
theorem dX8_reads_21 : decode cX8_reads 21 = .ok (.iload_n 1, 1) := by decide +kernel
theorem dX8_reads_22 : decode cX8_reads 22 = .ok (.iconst 0, 1) := by decide +kernel
theorem dX8_reads_23 : decode cX8_reads 23 = .ok (.invokevirtual 62, 3) := by decide +kernel
theorem dX8_reads_26 : decode cX8_reads 26 = .ok (.istore_n 2, 1) := by decide +kernel
theorem dX8_reads_27 : decode cX8_reads 27 = .ok (.iload_n 2, 1) := by decide +kernel
theorem dX8_reads_28 : decode cX8_reads 28 = .ok (.iconst 1, 1) := by decide +kernel
theorem dX8_reads_29 : decode cX8_reads 29 = .ok (.if_icmp .ne 66, 3) := by decide +kernel
theorem dX8_reads_32 : decode cX8_reads 32 = .ok (.aload_n 0, 1) := by decide +kernel
theorem dX8_reads_33 : decode cX8_reads 33 = .ok (.iload_n 1, 1) := by decide +kernel
theorem dX8_reads_34 : decode cX8_reads 34 = .ok (.iconst 0, 1) := by decide +kernel
theorem dX8_reads_35 : decode cX8_reads 35 = .ok (.iconst 0, 1) := by decide +kernel
theorem dX8_reads_36 : decode cX8_reads 36 = .ok (.invokevirtual 34, 3) := by decide +kernel
theorem dX8_reads_39 : decode cX8_reads 39 = .ok (.aload_n 0, 1) := by decide +kernel
theorem dX8_reads_40 : decode cX8_reads 40 = .ok (.iload_n 1, 1) := by decide +kernel
theorem dX8_reads_41 : decode cX8_reads 41 = .ok (.bipush 6, 2) := by decide +kernel
theorem dX8_reads_43 : decode cX8_reads 43 = .ok (.aload_n 0, 1) := by decide +kernel
theorem dX8_reads_44 : decode cX8_reads 44 = .ok (.getfield 7, 3) := by decide +kernel
theorem dX8_reads_47 : decode cX8_reads 47 = .ok (.iconst 0, 1) := by decide +kernel
theorem dX8_reads_48 : decode cX8_reads 48 = .ok (.iaload, 1) := by decide +kernel
theorem dX8_reads_49 : decode cX8_reads 49 = .ok (.aload_n 0, 1) := by decide +kernel
theorem dX8_reads_50 : decode cX8_reads 50 = .ok (.iconst 3, 1) := by decide +kernel
theorem dX8_reads_51 : decode cX8_reads 51 = .ok (.invokevirtual 59, 3) := by decide +kernel
theorem dX8_reads_54 : decode cX8_reads 54 = .ok (.iadd, 1) := by decide +kernel
theorem dX8_reads_55 : decode cX8_reads 55 = .ok (.iconst 1, 1) := by decide +kernel
theorem dX8_reads_56 : decode cX8_reads 56 = .ok (.iadd, 1) := by decide +kernel
theorem dX8_reads_57 : decode cX8_reads 57 = .ok (.invokevirtual 34, 3) := by decide +kernel
theorem dX8_reads_60 : decode cX8_reads 60 = .ok (.aload_n 0, 1) := by decide +kernel
theorem dX8_reads_61 : decode cX8_reads 61 = .ok (.iload_n 1, 1) := by decide +kernel
theorem dX8_reads_62 : decode cX8_reads 62 = .ok (.bipush 7, 2) := by decide +kernel
theorem dX8_reads_64 : decode cX8_reads 64 = .ok (.aload_n 0, 1) := by decide +kernel
theorem dX8_reads_65 : decode cX8_reads 65 = .ok (.getfield 7, 3) := by decide +kernel
theorem dX8_reads_68 : decode cX8_reads 68 = .ok (.bipush 14, 2) := by decide +kernel
theorem dX8_reads_70 : decode cX8_reads 70 = .ok (.iaload, 1) := by decide +kernel
theorem dX8_reads_71 : decode cX8_reads 71 = .ok (.invokevirtual 34, 3) := by decide +kernel
theorem dX8_reads_74 : decode cX8_reads 74 = .ok (.aload_n 0, 1) := by decide +kernel
theorem dX8_reads_75 : decode cX8_reads 75 = .ok (.getfield 7, 3) := by decide +kernel
theorem dX8_reads_78 : decode cX8_reads 78 = .ok (.bipush 14, 2) := by decide +kernel
theorem dX8_reads_80 : decode cX8_reads 80 = .ok (.dup2, 1) := by decide +kernel
theorem dX8_reads_81 : decode cX8_reads 81 = .ok (.iaload, 1) := by decide +kernel
theorem dX8_reads_82 : decode cX8_reads 82 = .ok (.iconst 1, 1) := by decide +kernel
theorem dX8_reads_83 : decode cX8_reads 83 = .ok (.iadd, 1) := by decide +kernel
theorem dX8_reads_84 : decode cX8_reads 84 = .ok (.iastore, 1) := by decide +kernel
theorem dX8_reads_85 : decode cX8_reads 85 = .ok (.aload_n 0, 1) := by decide +kernel
theorem dX8_reads_86 : decode cX8_reads 86 = .ok (.getfield 7, 3) := by decide +kernel
theorem dX8_reads_89 : decode cX8_reads 89 = .ok (.iconst 5, 1) := by decide +kernel
theorem dX8_reads_90 : decode cX8_reads 90 = .ok (.dup2, 1) := by decide +kernel
theorem dX8_reads_91 : decode cX8_reads 91 = .ok (.iaload, 1) := by decide +kernel
theorem dX8_reads_92 : decode cX8_reads 92 = .ok (.iconst 1, 1) := by decide +kernel
theorem dX8_reads_93 : decode cX8_reads 93 = .ok (.iadd, 1) := by decide +kernel
theorem dX8_reads_94 : decode cX8_reads 94 = .ok (.iastore, 1) := by decide +kernel
theorem dX8_reads_95 : decode cX8_reads 95 = .ok (.iload_n 2, 1) := by decide +kernel
theorem dX8_reads_96 : decode cX8_reads 96 = .ok (.ireturn, 1) := by decide +kernel
theorem dX8_read_0 : decode cX8_read 0 = .ok (.aload_n 0, 1) := by decide +kernel
theorem dX8_read_1 : decode cX8_read 1 = .ok (.iconst 0, 1) := by decide +kernel
theorem dX8_read_2 : decode cX8_read 2 = .ok (.putfield 38, 3) := by decide +kernel
theorem dX8_read_5 : decode cX8_read 5 = .ok (.iload_n 1, 1) := by decide +kernel
theorem dX8_read_6 : decode cX8_read 6 = .ok (.invokestatic 66, 3) := by decide +kernel
theorem dX8_read_9 : decode cX8_read 9 = .ok (.ifCond .ne 9, 3) := by decide +kernel
theorem dX8_read_12 : decode cX8_read 12 = .ok (.aload_n 0, 1) := by decide +kernel
theorem dX8_read_13 : decode cX8_read 13 = .ok (.iconst 1, 1) := by decide +kernel
theorem dX8_read_14 : decode cX8_read 14 = .ok (.invokevirtual 49, 3) := by decide +kernel
theorem dX8_read_17 : decode cX8_read 17 = .ok (.ireturn, 1) := by decide +kernel
theorem dX8_read_18 : decode cX8_read 18 = .ok (.aload_n 0, 1) := by decide +kernel
theorem dX8_read_19 : decode cX8_read 19 = .ok (.iload_n 1, 1) := by decide +kernel
theorem dX8_read_20 : decode cX8_read 20 = .ok (.invokevirtual 132, 3) := by decide +kernel
theorem dX8_read_23 : decode cX8_read 23 = .ok (.ifCond .ne 9, 3) := by decide +kernel
theorem dX8_read_26 : decode cX8_read 26 = .ok (.aload_n 0, 1) := by decide +kernel
theorem dX8_read_27 : decode cX8_read 27 = .ok (.iconst 2, 1) := by decide +kernel
theorem dX8_read_28 : decode cX8_read 28 = .ok (.invokevirtual 49, 3) := by decide +kernel
theorem dX8_read_31 : decode cX8_read 31 = .ok (.ireturn, 1) := by decide +kernel
theorem dX8_read_32 : decode cX8_read 32 = .ok (.aload_n 0, 1) := by decide +kernel
theorem dX8_read_33 : decode cX8_read 33 = .ok (.invokevirtual 53, 3) := by decide +kernel
theorem dX8_read_36 : decode cX8_read 36 = .ok (.aload_n 0, 1) := by decide +kernel
theorem dX8_read_37 : decode cX8_read 37 = .ok (.iload_n 1, 1) := by decide +kernel
theorem dX8_read_38 : decode cX8_read 38 = .ok (.invokevirtual 135, 3) := by decide +kernel
theorem dX8_read_41 : decode cX8_read 41 = .ok (.ireturn, 1) := by decide +kernel
theorem dX8_comesAhead_0 : decode cX8_comesAhead 0 = .ok (.aload_n 0, 1) := by decide +kernel
theorem dX8_comesAhead_1 : decode cX8_comesAhead 1 = .ok (.iload_n 1, 1) := by decide +kernel
theorem dX8_comesAhead_2 : decode cX8_comesAhead 2 = .ok (.bipush 6, 2) := by decide +kernel
theorem dX8_comesAhead_4 : decode cX8_comesAhead 4 = .ok (.invokevirtual 62, 3) := by decide +kernel
theorem dX8_comesAhead_7 : decode cX8_comesAhead 7 = .ok (.aload_n 0, 1) := by decide +kernel
theorem dX8_comesAhead_8 : decode cX8_comesAhead 8 = .ok (.iload_n 2, 1) := by decide +kernel
theorem dX8_comesAhead_9 : decode cX8_comesAhead 9 = .ok (.bipush 6, 2) := by decide +kernel
theorem dX8_comesAhead_11 : decode cX8_comesAhead 11 = .ok (.invokevirtual 62, 3) := by decide +kernel
theorem dX8_comesAhead_14 : decode cX8_comesAhead 14 = .ok (.if_icmp .lt 37, 3) := by decide +kernel
theorem dX8_comesAhead_17 : decode cX8_comesAhead 17 = .ok (.aload_n 0, 1) := by decide +kernel
theorem dX8_comesAhead_18 : decode cX8_comesAhead 18 = .ok (.iload_n 1, 1) := by decide +kernel
theorem dX8_comesAhead_19 : decode cX8_comesAhead 19 = .ok (.bipush 6, 2) := by decide +kernel
theorem dX8_comesAhead_21 : decode cX8_comesAhead 21 = .ok (.invokevirtual 62, 3) := by decide +kernel
theorem dX8_comesAhead_24 : decode cX8_comesAhead 24 = .ok (.aload_n 0, 1) := by decide +kernel
theorem dX8_comesAhead_25 : decode cX8_comesAhead 25 = .ok (.iload_n 2, 1) := by decide +kernel
theorem dX8_comesAhead_26 : decode cX8_comesAhead 26 = .ok (.bipush 6, 2) := by decide +kernel
theorem dX8_comesAhead_28 : decode cX8_comesAhead 28 = .ok (.invokevirtual 62, 3) := by decide +kernel
theorem dX8_comesAhead_31 : decode cX8_comesAhead 31 = .ok (.if_icmp .ne 24, 3) := by decide +kernel
theorem dX8_comesAhead_34 : decode cX8_comesAhead 34 = .ok (.aload_n 0, 1) := by decide +kernel
theorem dX8_comesAhead_35 : decode cX8_comesAhead 35 = .ok (.iload_n 1, 1) := by decide +kernel
theorem dX8_comesAhead_36 : decode cX8_comesAhead 36 = .ok (.bipush 7, 2) := by decide +kernel
theorem dX8_comesAhead_38 : decode cX8_comesAhead 38 = .ok (.invokevirtual 62, 3) := by decide +kernel
theorem dX8_comesAhead_41 : decode cX8_comesAhead 41 = .ok (.aload_n 0, 1) := by decide +kernel
theorem dX8_comesAhead_42 : decode cX8_comesAhead 42 = .ok (.iload_n 2, 1) := by decide +kernel
theorem dX8_comesAhead_43 : decode cX8_comesAhead 43 = .ok (.bipush 7, 2) := by decide +kernel
theorem dX8_comesAhead_45 : decode cX8_comesAhead 45 = .ok (.invokevirtual 62, 3) := by decide +kernel
theorem dX8_comesAhead_48 : decode cX8_comesAhead 48 = .ok (.if_icmp .ge 7, 3) := by decide +kernel
theorem dX8_comesAhead_51 : decode cX8_comesAhead 51 = .ok (.iconst 1, 1) := by decide +kernel
theorem dX8_comesAhead_52 : decode cX8_comesAhead 52 = .ok (.goto 4, 3) := by decide +kernel
theorem dX8_comesAhead_55 : decode cX8_comesAhead 55 = .ok (.iconst 0, 1) := by decide +kernel
theorem dX8_comesAhead_56 : decode cX8_comesAhead 56 = .ok (.ireturn, 1) := by decide +kernel
theorem dX8_layOwed_0 : decode cX8_layOwed 0 = .ok (.iconst 0, 1) := by decide +kernel
theorem dX8_layOwed_1 : decode cX8_layOwed 1 = .ok (.istore_n 1, 1) := by decide +kernel
theorem dX8_layOwed_2 : decode cX8_layOwed 2 = .ok (.iconst 0, 1) := by decide +kernel
theorem dX8_layOwed_3 : decode cX8_layOwed 3 = .ok (.istore_n 2, 1) := by decide +kernel
theorem dX8_layOwed_4 : decode cX8_layOwed 4 = .ok (.iload_n 2, 1) := by decide +kernel
theorem dX8_layOwed_5 : decode cX8_layOwed 5 = .ok (.bipush 64, 2) := by decide +kernel
theorem dX8_layOwed_7 : decode cX8_layOwed 7 = .ok (.if_icmp .ge 69, 3) := by decide +kernel
theorem dX8_layOwed_10 : decode cX8_layOwed 10 = .ok (.aload_n 0, 1) := by decide +kernel
theorem dX8_layOwed_11 : decode cX8_layOwed 11 = .ok (.iload_n 2, 1) := by decide +kernel
theorem dX8_layOwed_12 : decode cX8_layOwed 12 = .ok (.invokevirtual 126, 3) := by decide +kernel
theorem dX8_layOwed_15 : decode cX8_layOwed 15 = .ok (.ifCond .eq 55, 3) := by decide +kernel
theorem dX8_layOwed_18 : decode cX8_layOwed 18 = .ok (.iload_n 1, 1) := by decide +kernel
theorem dX8_layOwed_19 : decode cX8_layOwed 19 = .ok (.istore_n 3, 1) := by decide +kernel
theorem dX8_layOwed_20 : decode cX8_layOwed 20 = .ok (.iload_n 3, 1) := by decide +kernel
theorem dX8_layOwed_21 : decode cX8_layOwed 21 = .ok (.ifCond .le 39, 3) := by decide +kernel
theorem dX8_layOwed_24 : decode cX8_layOwed 24 = .ok (.aload_n 0, 1) := by decide +kernel
theorem dX8_layOwed_25 : decode cX8_layOwed 25 = .ok (.iload_n 2, 1) := by decide +kernel
theorem dX8_layOwed_26 : decode cX8_layOwed 26 = .ok (.aload_n 0, 1) := by decide +kernel
theorem dX8_layOwed_27 : decode cX8_layOwed 27 = .ok (.getfield 31, 3) := by decide +kernel
theorem dX8_layOwed_30 : decode cX8_layOwed 30 = .ok (.iload_n 3, 1) := by decide +kernel
theorem dX8_layOwed_31 : decode cX8_layOwed 31 = .ok (.iconst 1, 1) := by decide +kernel
theorem dX8_layOwed_32 : decode cX8_layOwed 32 = .ok (.isub, 1) := by decide +kernel
theorem dX8_layOwed_33 : decode cX8_layOwed 33 = .ok (.iaload, 1) := by decide +kernel
theorem dX8_layOwed_34 : decode cX8_layOwed 34 = .ok (.invokevirtual 138, 3) := by decide +kernel
theorem dX8_layOwed_37 : decode cX8_layOwed 37 = .ok (.ifCond .eq 23, 3) := by decide +kernel
theorem dX8_layOwed_40 : decode cX8_layOwed 40 = .ok (.aload_n 0, 1) := by decide +kernel
theorem dX8_layOwed_41 : decode cX8_layOwed 41 = .ok (.getfield 31, 3) := by decide +kernel
theorem dX8_layOwed_44 : decode cX8_layOwed 44 = .ok (.iload_n 3, 1) := by decide +kernel
theorem dX8_layOwed_45 : decode cX8_layOwed 45 = .ok (.aload_n 0, 1) := by decide +kernel
theorem dX8_layOwed_46 : decode cX8_layOwed 46 = .ok (.getfield 31, 3) := by decide +kernel
theorem dX8_layOwed_49 : decode cX8_layOwed 49 = .ok (.iload_n 3, 1) := by decide +kernel
theorem dX8_layOwed_50 : decode cX8_layOwed 50 = .ok (.iconst 1, 1) := by decide +kernel
theorem dX8_layOwed_51 : decode cX8_layOwed 51 = .ok (.isub, 1) := by decide +kernel
theorem dX8_layOwed_52 : decode cX8_layOwed 52 = .ok (.iaload, 1) := by decide +kernel
theorem dX8_layOwed_53 : decode cX8_layOwed 53 = .ok (.iastore, 1) := by decide +kernel
theorem dX8_layOwed_54 : decode cX8_layOwed 54 = .ok (.iinc 3 (-1), 3) := by decide +kernel
theorem dX8_layOwed_57 : decode cX8_layOwed 57 = .ok (.goto (-37), 3) := by decide +kernel
theorem dX8_layOwed_60 : decode cX8_layOwed 60 = .ok (.aload_n 0, 1) := by decide +kernel
theorem dX8_layOwed_61 : decode cX8_layOwed 61 = .ok (.getfield 31, 3) := by decide +kernel
theorem dX8_layOwed_64 : decode cX8_layOwed 64 = .ok (.iload_n 3, 1) := by decide +kernel
theorem dX8_layOwed_65 : decode cX8_layOwed 65 = .ok (.iload_n 2, 1) := by decide +kernel
theorem dX8_layOwed_66 : decode cX8_layOwed 66 = .ok (.iastore, 1) := by decide +kernel
theorem dX8_layOwed_67 : decode cX8_layOwed 67 = .ok (.iinc 1 1, 3) := by decide +kernel
theorem dX8_layOwed_70 : decode cX8_layOwed 70 = .ok (.iinc 2 1, 3) := by decide +kernel
theorem dX8_layOwed_73 : decode cX8_layOwed 73 = .ok (.goto (-69), 3) := by decide +kernel
theorem dX8_layOwed_76 : decode cX8_layOwed 76 = .ok (.iload_n 1, 1) := by decide +kernel
theorem dX8_layOwed_77 : decode cX8_layOwed 77 = .ok (.ireturn, 1) := by decide +kernel
theorem dX8_owedMany_0 : decode cX8_owedMany 0 = .ok (.iconst 0, 1) := by decide +kernel
theorem dX8_owedMany_1 : decode cX8_owedMany 1 = .ok (.istore_n 1, 1) := by decide +kernel
theorem dX8_owedMany_2 : decode cX8_owedMany 2 = .ok (.iconst 0, 1) := by decide +kernel
theorem dX8_owedMany_3 : decode cX8_owedMany 3 = .ok (.istore_n 2, 1) := by decide +kernel
theorem dX8_owedMany_4 : decode cX8_owedMany 4 = .ok (.iload_n 2, 1) := by decide +kernel
theorem dX8_owedMany_5 : decode cX8_owedMany 5 = .ok (.bipush 64, 2) := by decide +kernel
theorem dX8_owedMany_7 : decode cX8_owedMany 7 = .ok (.if_icmp .ge 25, 3) := by decide +kernel
theorem dX8_owedMany_10 : decode cX8_owedMany 10 = .ok (.iload_n 1, 1) := by decide +kernel
theorem dX8_owedMany_11 : decode cX8_owedMany 11 = .ok (.aload_n 0, 1) := by decide +kernel
theorem dX8_owedMany_12 : decode cX8_owedMany 12 = .ok (.iload_n 2, 1) := by decide +kernel
theorem dX8_owedMany_13 : decode cX8_owedMany 13 = .ok (.invokevirtual 126, 3) := by decide +kernel
theorem dX8_owedMany_16 : decode cX8_owedMany 16 = .ok (.ifCond .eq 7, 3) := by decide +kernel
theorem dX8_owedMany_19 : decode cX8_owedMany 19 = .ok (.iconst 1, 1) := by decide +kernel
theorem dX8_owedMany_20 : decode cX8_owedMany 20 = .ok (.goto 4, 3) := by decide +kernel
theorem dX8_owedMany_23 : decode cX8_owedMany 23 = .ok (.iconst 0, 1) := by decide +kernel
theorem dX8_owedMany_24 : decode cX8_owedMany 24 = .ok (.iadd, 1) := by decide +kernel
theorem dX8_owedMany_25 : decode cX8_owedMany 25 = .ok (.istore_n 1, 1) := by decide +kernel
theorem dX8_owedMany_26 : decode cX8_owedMany 26 = .ok (.iinc 2 1, 3) := by decide +kernel
theorem dX8_owedMany_29 : decode cX8_owedMany 29 = .ok (.goto (-25), 3) := by decide +kernel
theorem dX8_owedMany_32 : decode cX8_owedMany 32 = .ok (.iload_n 1, 1) := by decide +kernel
theorem dX8_owedMany_33 : decode cX8_owedMany 33 = .ok (.ireturn, 1) := by decide +kernel
theorem dX8_writesBack_0 : decode cX8_writesBack 0 = .ok (.aload_n 0, 1) := by decide +kernel
theorem dX8_writesBack_1 : decode cX8_writesBack 1 = .ok (.invokevirtual 141, 3) := by decide +kernel
theorem dX8_writesBack_4 : decode cX8_writesBack 4 = .ok (.pop, 1) := by decide +kernel
theorem dX8_writesBack_5 : decode cX8_writesBack 5 = .ok (.aload_n 0, 1) := by decide +kernel
theorem dX8_writesBack_6 : decode cX8_writesBack 6 = .ok (.getfield 31, 3) := by decide +kernel
theorem dX8_writesBack_9 : decode cX8_writesBack 9 = .ok (.iconst 0, 1) := by decide +kernel
theorem dX8_writesBack_10 : decode cX8_writesBack 10 = .ok (.iaload, 1) := by decide +kernel
theorem dX8_writesBack_11 : decode cX8_writesBack 11 = .ok (.istore_n 1, 1) := by decide +kernel
theorem dX8_writesBack_12 : decode cX8_writesBack 12 = .ok (.aload_n 0, 1) := by decide +kernel
theorem dX8_writesBack_13 : decode cX8_writesBack 13 = .ok (.iload_n 1, 1) := by decide +kernel
theorem dX8_writesBack_14 : decode cX8_writesBack 14 = .ok (.bipush 6, 2) := by decide +kernel
theorem dX8_writesBack_16 : decode cX8_writesBack 16 = .ok (.iconst 0, 1) := by decide +kernel
theorem dX8_writesBack_17 : decode cX8_writesBack 17 = .ok (.invokevirtual 34, 3) := by decide +kernel
theorem dX8_writesBack_20 : decode cX8_writesBack 20 = .ok (.aload_n 0, 1) := by decide +kernel
theorem dX8_writesBack_21 : decode cX8_writesBack 21 = .ok (.iload_n 1, 1) := by decide +kernel
theorem dX8_writesBack_22 : decode cX8_writesBack 22 = .ok (.aload_n 0, 1) := by decide +kernel
theorem dX8_writesBack_23 : decode cX8_writesBack 23 = .ok (.iconst 1, 1) := by decide +kernel
theorem dX8_writesBack_24 : decode cX8_writesBack 24 = .ok (.invokevirtual 59, 3) := by decide +kernel
theorem dX8_writesBack_27 : decode cX8_writesBack 27 = .ok (.invokevirtual 122, 3) := by decide +kernel
theorem dX8_writesBack_30 : decode cX8_writesBack 30 = .ok (.aload_n 0, 1) := by decide +kernel
theorem dX8_writesBack_31 : decode cX8_writesBack 31 = .ok (.iload_n 1, 1) := by decide +kernel
theorem dX8_writesBack_32 : decode cX8_writesBack 32 = .ok (.iconst 1, 1) := by decide +kernel
theorem dX8_writesBack_33 : decode cX8_writesBack 33 = .ok (.invokevirtual 62, 3) := by decide +kernel
theorem dX8_writesBack_36 : decode cX8_writesBack 36 = .ok (.aload_n 0, 1) := by decide +kernel
theorem dX8_writesBack_37 : decode cX8_writesBack 37 = .ok (.iconst 4, 1) := by decide +kernel
theorem dX8_writesBack_38 : decode cX8_writesBack 38 = .ok (.invokevirtual 59, 3) := by decide +kernel
theorem dX8_writesBack_41 : decode cX8_writesBack 41 = .ok (.if_icmp .lt 24, 3) := by decide +kernel
theorem dX8_writesBack_44 : decode cX8_writesBack 44 = .ok (.aload_n 0, 1) := by decide +kernel
theorem dX8_writesBack_45 : decode cX8_writesBack 45 = .ok (.iload_n 1, 1) := by decide +kernel
theorem dX8_writesBack_46 : decode cX8_writesBack 46 = .ok (.iconst 0, 1) := by decide +kernel
theorem dX8_writesBack_47 : decode cX8_writesBack 47 = .ok (.iconst 1, 1) := by decide +kernel
theorem dX8_writesBack_48 : decode cX8_writesBack 48 = .ok (.invokevirtual 34, 3) := by decide +kernel
theorem dX8_writesBack_51 : decode cX8_writesBack 51 = .ok (.aload_n 0, 1) := by decide +kernel
theorem dX8_writesBack_52 : decode cX8_writesBack 52 = .ok (.getfield 7, 3) := by decide +kernel
theorem dX8_writesBack_55 : decode cX8_writesBack 55 = .ok (.bipush 6, 2) := by decide +kernel
theorem dX8_writesBack_57 : decode cX8_writesBack 57 = .ok (.dup2, 1) := by decide +kernel
theorem dX8_writesBack_58 : decode cX8_writesBack 58 = .ok (.iaload, 1) := by decide +kernel
theorem dX8_writesBack_59 : decode cX8_writesBack 59 = .ok (.iconst 1, 1) := by decide +kernel
theorem dX8_writesBack_60 : decode cX8_writesBack 60 = .ok (.iadd, 1) := by decide +kernel
theorem dX8_writesBack_61 : decode cX8_writesBack 61 = .ok (.iastore, 1) := by decide +kernel
theorem dX8_writesBack_62 : decode cX8_writesBack 62 = .ok (.goto 19, 3) := by decide +kernel
theorem dX8_writesBack_65 : decode cX8_writesBack 65 = .ok (.aload_n 0, 1) := by decide +kernel
theorem dX8_writesBack_66 : decode cX8_writesBack 66 = .ok (.getfield 7, 3) := by decide +kernel
theorem dX8_writesBack_69 : decode cX8_writesBack 69 = .ok (.bipush 7, 2) := by decide +kernel
theorem dX8_writesBack_71 : decode cX8_writesBack 71 = .ok (.dup2, 1) := by decide +kernel
theorem dX8_writesBack_72 : decode cX8_writesBack 72 = .ok (.iaload, 1) := by decide +kernel
theorem dX8_writesBack_73 : decode cX8_writesBack 73 = .ok (.iconst 1, 1) := by decide +kernel
theorem dX8_writesBack_74 : decode cX8_writesBack 74 = .ok (.iadd, 1) := by decide +kernel
theorem dX8_writesBack_75 : decode cX8_writesBack 75 = .ok (.iastore, 1) := by decide +kernel
theorem dX8_writesBack_76 : decode cX8_writesBack 76 = .ok (.aload_n 0, 1) := by decide +kernel
theorem dX8_writesBack_77 : decode cX8_writesBack 77 = .ok (.iload_n 1, 1) := by decide +kernel
theorem dX8_writesBack_78 : decode cX8_writesBack 78 = .ok (.invokevirtual 116, 3) := by decide +kernel
theorem dX8_writesBack_81 : decode cX8_writesBack 81 = .ok (.iload_n 1, 1) := by decide +kernel
theorem dX8_writesBack_82 : decode cX8_writesBack 82 = .ok (.ireturn, 1) := by decide +kernel
theorem dX8_writeBack_0 : decode cX8_writeBack 0 = .ok (.aload_n 0, 1) := by decide +kernel
theorem dX8_writeBack_1 : decode cX8_writeBack 1 = .ok (.iconst 0, 1) := by decide +kernel
theorem dX8_writeBack_2 : decode cX8_writeBack 2 = .ok (.putfield 38, 3) := by decide +kernel
theorem dX8_writeBack_5 : decode cX8_writeBack 5 = .ok (.aload_n 0, 1) := by decide +kernel
theorem dX8_writeBack_6 : decode cX8_writeBack 6 = .ok (.invokevirtual 145, 3) := by decide +kernel
theorem dX8_writeBack_9 : decode cX8_writeBack 9 = .ok (.ifCond .ne 9, 3) := by decide +kernel
theorem dX8_writeBack_12 : decode cX8_writeBack 12 = .ok (.aload_n 0, 1) := by decide +kernel
theorem dX8_writeBack_13 : decode cX8_writeBack 13 = .ok (.iconst 1, 1) := by decide +kernel
theorem dX8_writeBack_14 : decode cX8_writeBack 14 = .ok (.invokevirtual 49, 3) := by decide +kernel
theorem dX8_writeBack_17 : decode cX8_writeBack 17 = .ok (.ireturn, 1) := by decide +kernel
theorem dX8_writeBack_18 : decode cX8_writeBack 18 = .ok (.aload_n 0, 1) := by decide +kernel
theorem dX8_writeBack_19 : decode cX8_writeBack 19 = .ok (.invokevirtual 53, 3) := by decide +kernel
theorem dX8_writeBack_22 : decode cX8_writeBack 22 = .ok (.aload_n 0, 1) := by decide +kernel
theorem dX8_writeBack_23 : decode cX8_writeBack 23 = .ok (.invokevirtual 148, 3) := by decide +kernel
theorem dX8_writeBack_26 : decode cX8_writeBack 26 = .ok (.ireturn, 1) := by decide +kernel
theorem dX8_endPolicies_0 : decode cX8_endPolicies 0 = .ok (.iconst 0, 1) := by decide +kernel
theorem dX8_endPolicies_1 : decode cX8_endPolicies 1 = .ok (.istore_n 1, 1) := by decide +kernel
theorem dX8_endPolicies_2 : decode cX8_endPolicies 2 = .ok (.iload_n 1, 1) := by decide +kernel
theorem dX8_endPolicies_3 : decode cX8_endPolicies 3 = .ok (.bipush 64, 2) := by decide +kernel
theorem dX8_endPolicies_5 : decode cX8_endPolicies 5 = .ok (.if_icmp .ge 57, 3) := by decide +kernel
theorem dX8_endPolicies_8 : decode cX8_endPolicies 8 = .ok (.aload_n 0, 1) := by decide +kernel
theorem dX8_endPolicies_9 : decode cX8_endPolicies 9 = .ok (.iload_n 1, 1) := by decide +kernel
theorem dX8_endPolicies_10 : decode cX8_endPolicies 10 = .ok (.iconst 4, 1) := by decide +kernel
theorem dX8_endPolicies_11 : decode cX8_endPolicies 11 = .ok (.invokevirtual 62, 3) := by decide +kernel
theorem dX8_endPolicies_14 : decode cX8_endPolicies 14 = .ok (.ifCond .le 42, 3) := by decide +kernel
theorem dX8_endPolicies_17 : decode cX8_endPolicies 17 = .ok (.aload_n 0, 1) := by decide +kernel
theorem dX8_endPolicies_18 : decode cX8_endPolicies 18 = .ok (.iload_n 1, 1) := by decide +kernel
theorem dX8_endPolicies_19 : decode cX8_endPolicies 19 = .ok (.iconst 5, 1) := by decide +kernel
theorem dX8_endPolicies_20 : decode cX8_endPolicies 20 = .ok (.aload_n 0, 1) := by decide +kernel
theorem dX8_endPolicies_21 : decode cX8_endPolicies 21 = .ok (.iload_n 1, 1) := by decide +kernel
theorem dX8_endPolicies_22 : decode cX8_endPolicies 22 = .ok (.iconst 5, 1) := by decide +kernel
theorem dX8_endPolicies_23 : decode cX8_endPolicies 23 = .ok (.invokevirtual 62, 3) := by decide +kernel
theorem dX8_endPolicies_26 : decode cX8_endPolicies 26 = .ok (.iconst 1, 1) := by decide +kernel
theorem dX8_endPolicies_27 : decode cX8_endPolicies 27 = .ok (.isub, 1) := by decide +kernel
theorem dX8_endPolicies_28 : decode cX8_endPolicies 28 = .ok (.invokevirtual 34, 3) := by decide +kernel
theorem dX8_endPolicies_31 : decode cX8_endPolicies 31 = .ok (.aload_n 0, 1) := by decide +kernel
theorem dX8_endPolicies_32 : decode cX8_endPolicies 32 = .ok (.iload_n 1, 1) := by decide +kernel
theorem dX8_endPolicies_33 : decode cX8_endPolicies 33 = .ok (.iconst 4, 1) := by decide +kernel
theorem dX8_endPolicies_34 : decode cX8_endPolicies 34 = .ok (.aload_n 0, 1) := by decide +kernel
theorem dX8_endPolicies_35 : decode cX8_endPolicies 35 = .ok (.iload_n 1, 1) := by decide +kernel
theorem dX8_endPolicies_36 : decode cX8_endPolicies 36 = .ok (.iconst 5, 1) := by decide +kernel
theorem dX8_endPolicies_37 : decode cX8_endPolicies 37 = .ok (.invokevirtual 62, 3) := by decide +kernel
theorem dX8_endPolicies_40 : decode cX8_endPolicies 40 = .ok (.ifCond .ne 7, 3) := by decide +kernel
theorem dX8_endPolicies_43 : decode cX8_endPolicies 43 = .ok (.iconst 0, 1) := by decide +kernel
theorem dX8_endPolicies_44 : decode cX8_endPolicies 44 = .ok (.goto 9, 3) := by decide +kernel
theorem dX8_endPolicies_47 : decode cX8_endPolicies 47 = .ok (.aload_n 0, 1) := by decide +kernel
theorem dX8_endPolicies_48 : decode cX8_endPolicies 48 = .ok (.iload_n 1, 1) := by decide +kernel
theorem dX8_endPolicies_49 : decode cX8_endPolicies 49 = .ok (.iconst 4, 1) := by decide +kernel
theorem dX8_endPolicies_50 : decode cX8_endPolicies 50 = .ok (.invokevirtual 62, 3) := by decide +kernel
theorem dX8_endPolicies_53 : decode cX8_endPolicies 53 = .ok (.invokevirtual 34, 3) := by decide +kernel
theorem dX8_endPolicies_56 : decode cX8_endPolicies 56 = .ok (.iinc 1 1, 3) := by decide +kernel
theorem dX8_endPolicies_59 : decode cX8_endPolicies 59 = .ok (.goto (-57), 3) := by decide +kernel
theorem dX8_endPolicies_62 : decode cX8_endPolicies 62 = .ok (.return_, 1) := by decide +kernel
theorem dX8_endLeases_0 : decode cX8_endLeases 0 = .ok (.iconst 0, 1) := by decide +kernel
theorem dX8_endLeases_1 : decode cX8_endLeases 1 = .ok (.istore_n 1, 1) := by decide +kernel
theorem dX8_endLeases_2 : decode cX8_endLeases 2 = .ok (.iload_n 1, 1) := by decide +kernel
theorem dX8_endLeases_3 : decode cX8_endLeases 3 = .ok (.bipush 64, 2) := by decide +kernel
theorem dX8_endLeases_5 : decode cX8_endLeases 5 = .ok (.if_icmp .ge 78, 3) := by decide +kernel
theorem dX8_endLeases_8 : decode cX8_endLeases 8 = .ok (.aload_n 0, 1) := by decide +kernel
theorem dX8_endLeases_9 : decode cX8_endLeases 9 = .ok (.iload_n 1, 1) := by decide +kernel
theorem dX8_endLeases_10 : decode cX8_endLeases 10 = .ok (.invokevirtual 76, 3) := by decide +kernel
theorem dX8_endLeases_13 : decode cX8_endLeases 13 = .ok (.ifCond .eq 64, 3) := by decide +kernel
theorem dX8_endLeases_16 : decode cX8_endLeases 16 = .ok (.aload_n 0, 1) := by decide +kernel
theorem dX8_endLeases_17 : decode cX8_endLeases 17 = .ok (.iload_n 1, 1) := by decide +kernel
theorem dX8_endLeases_18 : decode cX8_endLeases 18 = .ok (.iconst 3, 1) := by decide +kernel
theorem dX8_endLeases_19 : decode cX8_endLeases 19 = .ok (.aload_n 0, 1) := by decide +kernel
theorem dX8_endLeases_20 : decode cX8_endLeases 20 = .ok (.iload_n 1, 1) := by decide +kernel
theorem dX8_endLeases_21 : decode cX8_endLeases 21 = .ok (.iconst 3, 1) := by decide +kernel
theorem dX8_endLeases_22 : decode cX8_endLeases 22 = .ok (.invokevirtual 62, 3) := by decide +kernel
theorem dX8_endLeases_25 : decode cX8_endLeases 25 = .ok (.iconst 1, 1) := by decide +kernel
theorem dX8_endLeases_26 : decode cX8_endLeases 26 = .ok (.isub, 1) := by decide +kernel
theorem dX8_endLeases_27 : decode cX8_endLeases 27 = .ok (.invokevirtual 34, 3) := by decide +kernel
theorem dX8_endLeases_30 : decode cX8_endLeases 30 = .ok (.aload_n 0, 1) := by decide +kernel
theorem dX8_endLeases_31 : decode cX8_endLeases 31 = .ok (.iload_n 1, 1) := by decide +kernel
theorem dX8_endLeases_32 : decode cX8_endLeases 32 = .ok (.iconst 3, 1) := by decide +kernel
theorem dX8_endLeases_33 : decode cX8_endLeases 33 = .ok (.invokevirtual 62, 3) := by decide +kernel
theorem dX8_endLeases_36 : decode cX8_endLeases 36 = .ok (.ifCond .ne 41, 3) := by decide +kernel
theorem dX8_endLeases_39 : decode cX8_endLeases 39 = .ok (.aload_n 0, 1) := by decide +kernel
theorem dX8_endLeases_40 : decode cX8_endLeases 40 = .ok (.iload_n 1, 1) := by decide +kernel
theorem dX8_endLeases_41 : decode cX8_endLeases 41 = .ok (.iconst 2, 1) := by decide +kernel
theorem dX8_endLeases_42 : decode cX8_endLeases 42 = .ok (.iconst 0, 1) := by decide +kernel
theorem dX8_endLeases_43 : decode cX8_endLeases 43 = .ok (.invokevirtual 34, 3) := by decide +kernel
theorem dX8_endLeases_46 : decode cX8_endLeases 46 = .ok (.aload_n 0, 1) := by decide +kernel
theorem dX8_endLeases_47 : decode cX8_endLeases 47 = .ok (.getfield 7, 3) := by decide +kernel
theorem dX8_endLeases_50 : decode cX8_endLeases 50 = .ok (.bipush 11, 2) := by decide +kernel
theorem dX8_endLeases_52 : decode cX8_endLeases 52 = .ok (.dup2, 1) := by decide +kernel
theorem dX8_endLeases_53 : decode cX8_endLeases 53 = .ok (.iaload, 1) := by decide +kernel
theorem dX8_endLeases_54 : decode cX8_endLeases 54 = .ok (.aload_n 0, 1) := by decide +kernel
theorem dX8_endLeases_55 : decode cX8_endLeases 55 = .ok (.iload_n 1, 1) := by decide +kernel
theorem dX8_endLeases_56 : decode cX8_endLeases 56 = .ok (.invokevirtual 126, 3) := by decide +kernel
theorem dX8_endLeases_59 : decode cX8_endLeases 59 = .ok (.ifCond .eq 7, 3) := by decide +kernel
theorem dX8_endLeases_62 : decode cX8_endLeases 62 = .ok (.iconst 1, 1) := by decide +kernel
theorem dX8_endLeases_63 : decode cX8_endLeases 63 = .ok (.goto 4, 3) := by decide +kernel
theorem dX8_endLeases_66 : decode cX8_endLeases 66 = .ok (.iconst 0, 1) := by decide +kernel
theorem dX8_endLeases_67 : decode cX8_endLeases 67 = .ok (.iadd, 1) := by decide +kernel
theorem dX8_endLeases_68 : decode cX8_endLeases 68 = .ok (.iastore, 1) := by decide +kernel
theorem dX8_endLeases_69 : decode cX8_endLeases 69 = .ok (.aload_n 0, 1) := by decide +kernel
theorem dX8_endLeases_70 : decode cX8_endLeases 70 = .ok (.iload_n 1, 1) := by decide +kernel
theorem dX8_endLeases_71 : decode cX8_endLeases 71 = .ok (.bipush 6, 2) := by decide +kernel
theorem dX8_endLeases_73 : decode cX8_endLeases 73 = .ok (.iconst 0, 1) := by decide +kernel
theorem dX8_endLeases_74 : decode cX8_endLeases 74 = .ok (.invokevirtual 34, 3) := by decide +kernel
theorem dX8_endLeases_77 : decode cX8_endLeases 77 = .ok (.iinc 1 1, 3) := by decide +kernel
theorem dX8_endLeases_80 : decode cX8_endLeases 80 = .ok (.goto (-78), 3) := by decide +kernel
theorem dX8_endLeases_83 : decode cX8_endLeases 83 = .ok (.return_, 1) := by decide +kernel
theorem dX8_tick_0 : decode cX8_tick 0 = .ok (.aload_n 0, 1) := by decide +kernel
theorem dX8_tick_1 : decode cX8_tick 1 = .ok (.getfield 7, 3) := by decide +kernel
theorem dX8_tick_4 : decode cX8_tick 4 = .ok (.iconst 0, 1) := by decide +kernel
theorem dX8_tick_5 : decode cX8_tick 5 = .ok (.dup2, 1) := by decide +kernel
theorem dX8_tick_6 : decode cX8_tick 6 = .ok (.iaload, 1) := by decide +kernel
theorem dX8_tick_7 : decode cX8_tick 7 = .ok (.iconst 1, 1) := by decide +kernel
theorem dX8_tick_8 : decode cX8_tick 8 = .ok (.iadd, 1) := by decide +kernel
theorem dX8_tick_9 : decode cX8_tick 9 = .ok (.iastore, 1) := by decide +kernel
theorem dX8_tick_10 : decode cX8_tick 10 = .ok (.aload_n 0, 1) := by decide +kernel
theorem dX8_tick_11 : decode cX8_tick 11 = .ok (.getfield 7, 3) := by decide +kernel
theorem dX8_tick_14 : decode cX8_tick 14 = .ok (.iconst 1, 1) := by decide +kernel
theorem dX8_tick_15 : decode cX8_tick 15 = .ok (.aload_n 0, 1) := by decide +kernel
theorem dX8_tick_16 : decode cX8_tick 16 = .ok (.getfield 7, 3) := by decide +kernel
theorem dX8_tick_19 : decode cX8_tick 19 = .ok (.iconst 1, 1) := by decide +kernel
theorem dX8_tick_20 : decode cX8_tick 20 = .ok (.iaload, 1) := by decide +kernel
theorem dX8_tick_21 : decode cX8_tick 21 = .ok (.aload_n 0, 1) := by decide +kernel
theorem dX8_tick_22 : decode cX8_tick 22 = .ok (.bipush 6, 2) := by decide +kernel
theorem dX8_tick_24 : decode cX8_tick 24 = .ok (.invokevirtual 59, 3) := by decide +kernel
theorem dX8_tick_27 : decode cX8_tick 27 = .ok (.isub, 1) := by decide +kernel
theorem dX8_tick_28 : decode cX8_tick 28 = .ok (.invokestatic 100, 3) := by decide +kernel
theorem dX8_tick_31 : decode cX8_tick 31 = .ok (.iastore, 1) := by decide +kernel
theorem dX8_tick_32 : decode cX8_tick 32 = .ok (.aload_n 0, 1) := by decide +kernel
theorem dX8_tick_33 : decode cX8_tick 33 = .ok (.invokevirtual 141, 3) := by decide +kernel
theorem dX8_tick_36 : decode cX8_tick 36 = .ok (.istore_n 1, 1) := by decide +kernel
theorem dX8_tick_37 : decode cX8_tick 37 = .ok (.iconst 0, 1) := by decide +kernel
theorem dX8_tick_38 : decode cX8_tick 38 = .ok (.istore_n 2, 1) := by decide +kernel
theorem dX8_tick_39 : decode cX8_tick 39 = .ok (.iload_n 2, 1) := by decide +kernel
theorem dX8_tick_40 : decode cX8_tick 40 = .ok (.iload_n 1, 1) := by decide +kernel
theorem dX8_tick_41 : decode cX8_tick 41 = .ok (.if_icmp .ge 58, 3) := by decide +kernel
theorem dX8_tick_44 : decode cX8_tick 44 = .ok (.aload_n 0, 1) := by decide +kernel
theorem dX8_tick_45 : decode cX8_tick 45 = .ok (.getfield 31, 3) := by decide +kernel
theorem dX8_tick_48 : decode cX8_tick 48 = .ok (.iload_n 2, 1) := by decide +kernel
theorem dX8_tick_49 : decode cX8_tick 49 = .ok (.iaload, 1) := by decide +kernel
theorem dX8_tick_50 : decode cX8_tick 50 = .ok (.istore_n 3, 1) := by decide +kernel
theorem dX8_tick_51 : decode cX8_tick 51 = .ok (.aload_n 0, 1) := by decide +kernel
theorem dX8_tick_52 : decode cX8_tick 52 = .ok (.iload_n 3, 1) := by decide +kernel
theorem dX8_tick_53 : decode cX8_tick 53 = .ok (.bipush 6, 2) := by decide +kernel
theorem dX8_tick_55 : decode cX8_tick 55 = .ok (.invokevirtual 62, 3) := by decide +kernel
theorem dX8_tick_58 : decode cX8_tick 58 = .ok (.iconst 1, 1) := by decide +kernel
theorem dX8_tick_59 : decode cX8_tick 59 = .ok (.isub, 1) := by decide +kernel
theorem dX8_tick_60 : decode cX8_tick 60 = .ok (.aload_n 0, 1) := by decide +kernel
theorem dX8_tick_61 : decode cX8_tick 61 = .ok (.getfield 7, 3) := by decide +kernel
theorem dX8_tick_64 : decode cX8_tick 64 = .ok (.iconst 0, 1) := by decide +kernel
theorem dX8_tick_65 : decode cX8_tick 65 = .ok (.iaload, 1) := by decide +kernel
theorem dX8_tick_66 : decode cX8_tick 66 = .ok (.if_icmp .ge 27, 3) := by decide +kernel
theorem dX8_tick_69 : decode cX8_tick 69 = .ok (.aload_n 0, 1) := by decide +kernel
theorem dX8_tick_70 : decode cX8_tick 70 = .ok (.iload_n 3, 1) := by decide +kernel
theorem dX8_tick_71 : decode cX8_tick 71 = .ok (.bipush 6, 2) := by decide +kernel
theorem dX8_tick_73 : decode cX8_tick 73 = .ok (.iconst 0, 1) := by decide +kernel
theorem dX8_tick_74 : decode cX8_tick 74 = .ok (.invokevirtual 34, 3) := by decide +kernel
theorem dX8_tick_77 : decode cX8_tick 77 = .ok (.aload_n 0, 1) := by decide +kernel
theorem dX8_tick_78 : decode cX8_tick 78 = .ok (.getfield 7, 3) := by decide +kernel
theorem dX8_tick_81 : decode cX8_tick 81 = .ok (.bipush 8, 2) := by decide +kernel
theorem dX8_tick_83 : decode cX8_tick 83 = .ok (.dup2, 1) := by decide +kernel
theorem dX8_tick_84 : decode cX8_tick 84 = .ok (.iaload, 1) := by decide +kernel
theorem dX8_tick_85 : decode cX8_tick 85 = .ok (.iconst 1, 1) := by decide +kernel
theorem dX8_tick_86 : decode cX8_tick 86 = .ok (.iadd, 1) := by decide +kernel
theorem dX8_tick_87 : decode cX8_tick 87 = .ok (.iastore, 1) := by decide +kernel
theorem dX8_tick_88 : decode cX8_tick 88 = .ok (.aload_n 0, 1) := by decide +kernel
theorem dX8_tick_89 : decode cX8_tick 89 = .ok (.iload_n 3, 1) := by decide +kernel
theorem dX8_tick_90 : decode cX8_tick 90 = .ok (.invokevirtual 116, 3) := by decide +kernel
theorem dX8_tick_93 : decode cX8_tick 93 = .ok (.iinc 2 1, 3) := by decide +kernel
theorem dX8_tick_96 : decode cX8_tick 96 = .ok (.goto (-57), 3) := by decide +kernel
theorem dX8_tick_99 : decode cX8_tick 99 = .ok (.aload_n 0, 1) := by decide +kernel
theorem dX8_tick_100 : decode cX8_tick 100 = .ok (.invokevirtual 151, 3) := by decide +kernel
theorem dX8_tick_103 : decode cX8_tick 103 = .ok (.aload_n 0, 1) := by decide +kernel
theorem dX8_tick_104 : decode cX8_tick 104 = .ok (.invokevirtual 154, 3) := by decide +kernel
theorem dX8_tick_107 : decode cX8_tick 107 = .ok (.return_, 1) := by decide +kernel
theorem dX8_pass_0 : decode cX8_pass 0 = .ok (.aload_n 0, 1) := by decide +kernel
theorem dX8_pass_1 : decode cX8_pass 1 = .ok (.iconst 0, 1) := by decide +kernel
theorem dX8_pass_2 : decode cX8_pass 2 = .ok (.putfield 38, 3) := by decide +kernel
theorem dX8_pass_5 : decode cX8_pass 5 = .ok (.iload_n 1, 1) := by decide +kernel
theorem dX8_pass_6 : decode cX8_pass 6 = .ok (.iconst 1, 1) := by decide +kernel
theorem dX8_pass_7 : decode cX8_pass 7 = .ok (.bipush 100, 2) := by decide +kernel
theorem dX8_pass_9 : decode cX8_pass 9 = .ok (.invokestatic 42, 3) := by decide +kernel
theorem dX8_pass_12 : decode cX8_pass 12 = .ok (.ifCond .ne 9, 3) := by decide +kernel
theorem dX8_pass_15 : decode cX8_pass 15 = .ok (.aload_n 0, 1) := by decide +kernel
theorem dX8_pass_16 : decode cX8_pass 16 = .ok (.iconst 1, 1) := by decide +kernel
theorem dX8_pass_17 : decode cX8_pass 17 = .ok (.invokevirtual 49, 3) := by decide +kernel
theorem dX8_pass_20 : decode cX8_pass 20 = .ok (.ireturn, 1) := by decide +kernel
theorem dX8_pass_21 : decode cX8_pass 21 = .ok (.aload_n 0, 1) := by decide +kernel
theorem dX8_pass_22 : decode cX8_pass 22 = .ok (.getfield 7, 3) := by decide +kernel
theorem dX8_pass_25 : decode cX8_pass 25 = .ok (.iconst 0, 1) := by decide +kernel
theorem dX8_pass_26 : decode cX8_pass 26 = .ok (.iaload, 1) := by decide +kernel
theorem dX8_pass_27 : decode cX8_pass 27 = .ok (.iload_n 1, 1) := by decide +kernel
theorem dX8_pass_28 : decode cX8_pass 28 = .ok (.iadd, 1) := by decide +kernel
theorem dX8_pass_29 : decode cX8_pass 29 = .ok (.sipush 10000, 3) := by decide +kernel
theorem dX8_pass_32 : decode cX8_pass 32 = .ok (.if_icmp .le 9, 3) := by decide +kernel
theorem dX8_pass_35 : decode cX8_pass 35 = .ok (.aload_n 0, 1) := by decide +kernel
theorem dX8_pass_36 : decode cX8_pass 36 = .ok (.iconst 2, 1) := by decide +kernel
theorem dX8_pass_37 : decode cX8_pass 37 = .ok (.invokevirtual 49, 3) := by decide +kernel
theorem dX8_pass_40 : decode cX8_pass 40 = .ok (.ireturn, 1) := by decide +kernel
theorem dX8_pass_41 : decode cX8_pass 41 = .ok (.aload_n 0, 1) := by decide +kernel
theorem dX8_pass_42 : decode cX8_pass 42 = .ok (.invokevirtual 53, 3) := by decide +kernel
theorem dX8_pass_45 : decode cX8_pass 45 = .ok (.iconst 0, 1) := by decide +kernel
theorem dX8_pass_46 : decode cX8_pass 46 = .ok (.istore_n 2, 1) := by decide +kernel
theorem dX8_pass_47 : decode cX8_pass 47 = .ok (.iload_n 2, 1) := by decide +kernel
theorem dX8_pass_48 : decode cX8_pass 48 = .ok (.iload_n 1, 1) := by decide +kernel
theorem dX8_pass_49 : decode cX8_pass 49 = .ok (.if_icmp .ge 13, 3) := by decide +kernel
theorem dX8_pass_52 : decode cX8_pass 52 = .ok (.aload_n 0, 1) := by decide +kernel
theorem dX8_pass_53 : decode cX8_pass 53 = .ok (.invokevirtual 157, 3) := by decide +kernel
theorem dX8_pass_56 : decode cX8_pass 56 = .ok (.iinc 2 1, 3) := by decide +kernel
theorem dX8_pass_59 : decode cX8_pass 59 = .ok (.goto (-12), 3) := by decide +kernel
theorem dX8_pass_62 : decode cX8_pass 62 = .ok (.aload_n 0, 1) := by decide +kernel
theorem dX8_pass_63 : decode cX8_pass 63 = .ok (.getfield 7, 3) := by decide +kernel
theorem dX8_pass_66 : decode cX8_pass 66 = .ok (.iconst 1, 1) := by decide +kernel
theorem dX8_pass_67 : decode cX8_pass 67 = .ok (.iaload, 1) := by decide +kernel
theorem dX8_pass_68 : decode cX8_pass 68 = .ok (.ireturn, 1) := by decide +kernel
theorem dX8_append_0 : decode cX8_append 0 = .ok (.aload_n 0, 1) := by decide +kernel
theorem dX8_append_1 : decode cX8_append 1 = .ok (.iconst 0, 1) := by decide +kernel
theorem dX8_append_2 : decode cX8_append 2 = .ok (.putfield 38, 3) := by decide +kernel
theorem dX8_append_5 : decode cX8_append 5 = .ok (.iload_n 1, 1) := by decide +kernel
theorem dX8_append_6 : decode cX8_append 6 = .ok (.bipush 33, 2) := by decide +kernel
theorem dX8_append_8 : decode cX8_append 8 = .ok (.bipush 126, 2) := by decide +kernel
theorem dX8_append_10 : decode cX8_append 10 = .ok (.invokestatic 42, 3) := by decide +kernel
theorem dX8_append_13 : decode cX8_append 13 = .ok (.ifCond .ne 9, 3) := by decide +kernel
theorem dX8_append_16 : decode cX8_append 16 = .ok (.aload_n 0, 1) := by decide +kernel
theorem dX8_append_17 : decode cX8_append 17 = .ok (.iconst 1, 1) := by decide +kernel
theorem dX8_append_18 : decode cX8_append 18 = .ok (.invokevirtual 49, 3) := by decide +kernel
theorem dX8_append_21 : decode cX8_append 21 = .ok (.ireturn, 1) := by decide +kernel
theorem dX8_append_22 : decode cX8_append 22 = .ok (.aload_n 0, 1) := by decide +kernel
theorem dX8_append_23 : decode cX8_append 23 = .ok (.getfield 160, 3) := by decide +kernel
theorem dX8_append_26 : decode cX8_append 26 = .ok (.bipush 60, 2) := by decide +kernel
theorem dX8_append_28 : decode cX8_append 28 = .ok (.if_icmp .ne 9, 3) := by decide +kernel
theorem dX8_append_31 : decode cX8_append 31 = .ok (.aload_n 0, 1) := by decide +kernel
theorem dX8_append_32 : decode cX8_append 32 = .ok (.iconst 2, 1) := by decide +kernel
theorem dX8_append_33 : decode cX8_append 33 = .ok (.invokevirtual 49, 3) := by decide +kernel
theorem dX8_append_36 : decode cX8_append 36 = .ok (.ireturn, 1) := by decide +kernel
theorem dX8_append_37 : decode cX8_append 37 = .ok (.aload_n 0, 1) := by decide +kernel
theorem dX8_append_38 : decode cX8_append 38 = .ok (.getfield 19, 3) := by decide +kernel
theorem dX8_append_41 : decode cX8_append 41 = .ok (.aload_n 0, 1) := by decide +kernel
theorem dX8_append_42 : decode cX8_append 42 = .ok (.getfield 160, 3) := by decide +kernel
theorem dX8_append_45 : decode cX8_append 45 = .ok (.iload_n 1, 1) := by decide +kernel
theorem dX8_append_46 : decode cX8_append 46 = .ok (.iastore, 1) := by decide +kernel
theorem dX8_append_47 : decode cX8_append 47 = .ok (.aload_n 0, 1) := by decide +kernel
theorem dX8_append_48 : decode cX8_append 48 = .ok (.dup, 1) := by decide +kernel
theorem dX8_append_49 : decode cX8_append 49 = .ok (.getfield 160, 3) := by decide +kernel
theorem dX8_append_52 : decode cX8_append 52 = .ok (.iconst 1, 1) := by decide +kernel
theorem dX8_append_53 : decode cX8_append 53 = .ok (.iadd, 1) := by decide +kernel
theorem dX8_append_54 : decode cX8_append 54 = .ok (.putfield 160, 3) := by decide +kernel
theorem dX8_append_57 : decode cX8_append 57 = .ok (.aload_n 0, 1) := by decide +kernel
theorem dX8_append_58 : decode cX8_append 58 = .ok (.getfield 160, 3) := by decide +kernel
theorem dX8_append_61 : decode cX8_append 61 = .ok (.ireturn, 1) := by decide +kernel
theorem dX8_clearBuffer_0 : decode cX8_clearBuffer 0 = .ok (.aload_n 0, 1) := by decide +kernel
theorem dX8_clearBuffer_1 : decode cX8_clearBuffer 1 = .ok (.iconst 0, 1) := by decide +kernel
theorem dX8_clearBuffer_2 : decode cX8_clearBuffer 2 = .ok (.putfield 38, 3) := by decide +kernel
theorem dX8_clearBuffer_5 : decode cX8_clearBuffer 5 = .ok (.aload_n 0, 1) := by decide +kernel
theorem dX8_clearBuffer_6 : decode cX8_clearBuffer 6 = .ok (.getfield 160, 3) := by decide +kernel
theorem dX8_clearBuffer_9 : decode cX8_clearBuffer 9 = .ok (.istore_n 1, 1) := by decide +kernel
theorem dX8_clearBuffer_10 : decode cX8_clearBuffer 10 = .ok (.aload_n 0, 1) := by decide +kernel
theorem dX8_clearBuffer_11 : decode cX8_clearBuffer 11 = .ok (.iconst 0, 1) := by decide +kernel
theorem dX8_clearBuffer_12 : decode cX8_clearBuffer 12 = .ok (.putfield 160, 3) := by decide +kernel
theorem dX8_clearBuffer_15 : decode cX8_clearBuffer 15 = .ok (.iload_n 1, 1) := by decide +kernel
theorem dX8_clearBuffer_16 : decode cX8_clearBuffer 16 = .ok (.ireturn, 1) := by decide +kernel
theorem dX8_goes_0 : decode cX8_goes 0 = .ok (.aload_n 0, 1) := by decide +kernel
theorem dX8_goes_1 : decode cX8_goes 1 = .ok (.iload_n 1, 1) := by decide +kernel
theorem dX8_goes_2 : decode cX8_goes 2 = .ok (.ifCond .eq 7, 3) := by decide +kernel
theorem dX8_goes_5 : decode cX8_goes 5 = .ok (.iload_n 2, 1) := by decide +kernel
theorem dX8_goes_6 : decode cX8_goes 6 = .ok (.goto 7, 3) := by decide +kernel
theorem dX8_goes_9 : decode cX8_goes 9 = .ok (.aload_n 0, 1) := by decide +kernel
theorem dX8_goes_10 : decode cX8_goes 10 = .ok (.getfield 163, 3) := by decide +kernel
theorem dX8_goes_13 : decode cX8_goes 13 = .ok (.putfield 163, 3) := by decide +kernel
theorem dX8_goes_16 : decode cX8_goes 16 = .ok (.iload_n 1, 1) := by decide +kernel
theorem dX8_goes_17 : decode cX8_goes 17 = .ok (.ireturn, 1) := by decide +kernel
theorem dX8_ends_0 : decode cX8_ends 0 = .ok (.aload_n 0, 1) := by decide +kernel
theorem dX8_ends_1 : decode cX8_ends 1 = .ok (.dup, 1) := by decide +kernel
theorem dX8_ends_2 : decode cX8_ends 2 = .ok (.getfield 166, 3) := by decide +kernel
theorem dX8_ends_5 : decode cX8_ends 5 = .ok (.iload_n 1, 1) := by decide +kernel
theorem dX8_ends_6 : decode cX8_ends 6 = .ok (.ifCond .eq 7, 3) := by decide +kernel
theorem dX8_ends_9 : decode cX8_ends 9 = .ok (.iconst 1, 1) := by decide +kernel
theorem dX8_ends_10 : decode cX8_ends 10 = .ok (.goto 4, 3) := by decide +kernel
theorem dX8_ends_13 : decode cX8_ends 13 = .ok (.iconst 0, 1) := by decide +kernel
theorem dX8_ends_14 : decode cX8_ends 14 = .ok (.iadd, 1) := by decide +kernel
theorem dX8_ends_15 : decode cX8_ends 15 = .ok (.putfield 166, 3) := by decide +kernel
theorem dX8_ends_18 : decode cX8_ends 18 = .ok (.aload_n 0, 1) := by decide +kernel
theorem dX8_ends_19 : decode cX8_ends 19 = .ok (.iload_n 1, 1) := by decide +kernel
theorem dX8_ends_20 : decode cX8_ends 20 = .ok (.bipush 20, 2) := by decide +kernel
theorem dX8_ends_22 : decode cX8_ends 22 = .ok (.invokevirtual 169, 3) := by decide +kernel
theorem dX8_ends_25 : decode cX8_ends 25 = .ok (.ireturn, 1) := by decide +kernel
theorem dX8_begins_0 : decode cX8_begins 0 = .ok (.aload_n 0, 1) := by decide +kernel
theorem dX8_begins_1 : decode cX8_begins 1 = .ok (.getfield 25, 3) := by decide +kernel
theorem dX8_begins_4 : decode cX8_begins 4 = .ok (.aload_n 0, 1) := by decide +kernel
theorem dX8_begins_5 : decode cX8_begins 5 = .ok (.getfield 166, 3) := by decide +kernel
theorem dX8_begins_8 : decode cX8_begins 8 = .ok (.iconst 0, 1) := by decide +kernel
theorem dX8_begins_9 : decode cX8_begins 9 = .ok (.iastore, 1) := by decide +kernel
theorem dX8_begins_10 : decode cX8_begins 10 = .ok (.aload_n 0, 1) := by decide +kernel
theorem dX8_begins_11 : decode cX8_begins 11 = .ok (.getfield 28, 3) := by decide +kernel
theorem dX8_begins_14 : decode cX8_begins 14 = .ok (.aload_n 0, 1) := by decide +kernel
theorem dX8_begins_15 : decode cX8_begins 15 = .ok (.getfield 166, 3) := by decide +kernel
theorem dX8_begins_18 : decode cX8_begins 18 = .ok (.iconst 0, 1) := by decide +kernel
theorem dX8_begins_19 : decode cX8_begins 19 = .ok (.iastore, 1) := by decide +kernel
theorem dX8_begins_20 : decode cX8_begins 20 = .ok (.iload_n 1, 1) := by decide +kernel
theorem dX8_begins_21 : decode cX8_begins 21 = .ok (.lookupswitch 86 #[(114, 35), (116, 69), (119, 52)], 35) := by decide +kernel
theorem dX8_begins_56 : decode cX8_begins 56 = .ok (.aload_n 0, 1) := by decide +kernel
theorem dX8_begins_57 : decode cX8_begins 57 = .ok (.getfield 22, 3) := by decide +kernel
theorem dX8_begins_60 : decode cX8_begins 60 = .ok (.aload_n 0, 1) := by decide +kernel
theorem dX8_begins_61 : decode cX8_begins 61 = .ok (.getfield 166, 3) := by decide +kernel
theorem dX8_begins_64 : decode cX8_begins 64 = .ok (.iconst 0, 1) := by decide +kernel
theorem dX8_begins_65 : decode cX8_begins 65 = .ok (.iastore, 1) := by decide +kernel
theorem dX8_begins_66 : decode cX8_begins 66 = .ok (.aload_n 0, 1) := by decide +kernel
theorem dX8_begins_67 : decode cX8_begins 67 = .ok (.iconst 1, 1) := by decide +kernel
theorem dX8_begins_68 : decode cX8_begins 68 = .ok (.iconst 1, 1) := by decide +kernel
theorem dX8_begins_69 : decode cX8_begins 69 = .ok (.invokevirtual 169, 3) := by decide +kernel
theorem dX8_begins_72 : decode cX8_begins 72 = .ok (.ireturn, 1) := by decide +kernel
theorem dX8_begins_73 : decode cX8_begins 73 = .ok (.aload_n 0, 1) := by decide +kernel
theorem dX8_begins_74 : decode cX8_begins 74 = .ok (.getfield 22, 3) := by decide +kernel
theorem dX8_begins_77 : decode cX8_begins 77 = .ok (.aload_n 0, 1) := by decide +kernel
theorem dX8_begins_78 : decode cX8_begins 78 = .ok (.getfield 166, 3) := by decide +kernel
theorem dX8_begins_81 : decode cX8_begins 81 = .ok (.iconst 1, 1) := by decide +kernel
theorem dX8_begins_82 : decode cX8_begins 82 = .ok (.iastore, 1) := by decide +kernel
theorem dX8_begins_83 : decode cX8_begins 83 = .ok (.aload_n 0, 1) := by decide +kernel
theorem dX8_begins_84 : decode cX8_begins 84 = .ok (.iconst 1, 1) := by decide +kernel
theorem dX8_begins_85 : decode cX8_begins 85 = .ok (.iconst 1, 1) := by decide +kernel
theorem dX8_begins_86 : decode cX8_begins 86 = .ok (.invokevirtual 169, 3) := by decide +kernel
theorem dX8_begins_89 : decode cX8_begins 89 = .ok (.ireturn, 1) := by decide +kernel
theorem dX8_begins_90 : decode cX8_begins 90 = .ok (.aload_n 0, 1) := by decide +kernel
theorem dX8_begins_91 : decode cX8_begins 91 = .ok (.getfield 22, 3) := by decide +kernel
theorem dX8_begins_94 : decode cX8_begins 94 = .ok (.aload_n 0, 1) := by decide +kernel
theorem dX8_begins_95 : decode cX8_begins 95 = .ok (.getfield 166, 3) := by decide +kernel
theorem dX8_begins_98 : decode cX8_begins 98 = .ok (.iconst 3, 1) := by decide +kernel
theorem dX8_begins_99 : decode cX8_begins 99 = .ok (.iastore, 1) := by decide +kernel
theorem dX8_begins_100 : decode cX8_begins 100 = .ok (.aload_n 0, 1) := by decide +kernel
theorem dX8_begins_101 : decode cX8_begins 101 = .ok (.iconst 1, 1) := by decide +kernel
theorem dX8_begins_102 : decode cX8_begins 102 = .ok (.iconst 5, 1) := by decide +kernel
theorem dX8_begins_103 : decode cX8_begins 103 = .ok (.invokevirtual 169, 3) := by decide +kernel
theorem dX8_begins_106 : decode cX8_begins 106 = .ok (.ireturn, 1) := by decide +kernel
theorem dX8_begins_107 : decode cX8_begins 107 = .ok (.aload_n 0, 1) := by decide +kernel
theorem dX8_begins_108 : decode cX8_begins 108 = .ok (.getfield 22, 3) := by decide +kernel
theorem dX8_begins_111 : decode cX8_begins 111 = .ok (.aload_n 0, 1) := by decide +kernel
theorem dX8_begins_112 : decode cX8_begins 112 = .ok (.getfield 166, 3) := by decide +kernel
theorem dX8_begins_115 : decode cX8_begins 115 = .ok (.iconst 2, 1) := by decide +kernel
theorem dX8_begins_116 : decode cX8_begins 116 = .ok (.iastore, 1) := by decide +kernel
theorem dX8_begins_117 : decode cX8_begins 117 = .ok (.aload_n 0, 1) := by decide +kernel
theorem dX8_begins_118 : decode cX8_begins 118 = .ok (.iload_n 1, 1) := by decide +kernel
theorem dX8_begins_119 : decode cX8_begins 119 = .ok (.bipush 98, 2) := by decide +kernel
theorem dX8_begins_121 : decode cX8_begins 121 = .ok (.if_icmp .ne 7, 3) := by decide +kernel
theorem dX8_begins_124 : decode cX8_begins 124 = .ok (.iconst 1, 1) := by decide +kernel
theorem dX8_begins_125 : decode cX8_begins 125 = .ok (.goto 4, 3) := by decide +kernel
theorem dX8_begins_128 : decode cX8_begins 128 = .ok (.iconst 0, 1) := by decide +kernel
theorem dX8_begins_129 : decode cX8_begins 129 = .ok (.invokevirtual 173, 3) := by decide +kernel
theorem dX8_begins_132 : decode cX8_begins 132 = .ok (.ireturn, 1) := by decide +kernel
theorem dX8_takes_0 : decode cX8_takes 0 = .ok (.iload_n 1, 1) := by decide +kernel
theorem dX8_takes_1 : decode cX8_takes 1 = .ok (.bipush 48, 2) := by decide +kernel
theorem dX8_takes_3 : decode cX8_takes 3 = .ok (.isub, 1) := by decide +kernel
theorem dX8_takes_4 : decode cX8_takes 4 = .ok (.istore_n 2, 1) := by decide +kernel
theorem dX8_takes_5 : decode cX8_takes 5 = .ok (.aload_n 0, 1) := by decide +kernel
theorem dX8_takes_6 : decode cX8_takes 6 = .ok (.getfield 163, 3) := by decide +kernel
theorem dX8_takes_9 : decode cX8_takes 9 = .ok (.tableswitch 197 0 5 #[39, 45, 71, 137, 154, 175], 39) := by decide +kernel
theorem dX8_takes_48 : decode cX8_takes 48 = .ok (.aload_n 0, 1) := by decide +kernel
theorem dX8_takes_49 : decode cX8_takes 49 = .ok (.iload_n 1, 1) := by decide +kernel
theorem dX8_takes_50 : decode cX8_takes 50 = .ok (.invokevirtual 177, 3) := by decide +kernel
theorem dX8_takes_53 : decode cX8_takes 53 = .ok (.ireturn, 1) := by decide +kernel
theorem dX8_takes_54 : decode cX8_takes 54 = .ok (.aload_n 0, 1) := by decide +kernel
theorem dX8_takes_55 : decode cX8_takes 55 = .ok (.getfield 25, 3) := by decide +kernel
theorem dX8_takes_58 : decode cX8_takes 58 = .ok (.aload_n 0, 1) := by decide +kernel
theorem dX8_takes_59 : decode cX8_takes 59 = .ok (.getfield 166, 3) := by decide +kernel
theorem dX8_takes_62 : decode cX8_takes 62 = .ok (.bipush 8, 2) := by decide +kernel
theorem dX8_takes_64 : decode cX8_takes 64 = .ok (.iload_n 2, 1) := by decide +kernel
theorem dX8_takes_65 : decode cX8_takes 65 = .ok (.imul, 1) := by decide +kernel
theorem dX8_takes_66 : decode cX8_takes 66 = .ok (.iastore, 1) := by decide +kernel
theorem dX8_takes_67 : decode cX8_takes 67 = .ok (.aload_n 0, 1) := by decide +kernel
theorem dX8_takes_68 : decode cX8_takes 68 = .ok (.iload_n 2, 1) := by decide +kernel
theorem dX8_takes_69 : decode cX8_takes 69 = .ok (.iconst 0, 1) := by decide +kernel
theorem dX8_takes_70 : decode cX8_takes 70 = .ok (.bipush 7, 2) := by decide +kernel
theorem dX8_takes_72 : decode cX8_takes 72 = .ok (.invokestatic 42, 3) := by decide +kernel
theorem dX8_takes_75 : decode cX8_takes 75 = .ok (.iconst 2, 1) := by decide +kernel
theorem dX8_takes_76 : decode cX8_takes 76 = .ok (.invokevirtual 169, 3) := by decide +kernel
theorem dX8_takes_79 : decode cX8_takes 79 = .ok (.ireturn, 1) := by decide +kernel
theorem dX8_takes_80 : decode cX8_takes 80 = .ok (.aload_n 0, 1) := by decide +kernel
theorem dX8_takes_81 : decode cX8_takes 81 = .ok (.getfield 25, 3) := by decide +kernel
theorem dX8_takes_84 : decode cX8_takes 84 = .ok (.aload_n 0, 1) := by decide +kernel
theorem dX8_takes_85 : decode cX8_takes 85 = .ok (.getfield 166, 3) := by decide +kernel
theorem dX8_takes_88 : decode cX8_takes 88 = .ok (.dup2, 1) := by decide +kernel
theorem dX8_takes_89 : decode cX8_takes 89 = .ok (.iaload, 1) := by decide +kernel
theorem dX8_takes_90 : decode cX8_takes 90 = .ok (.iload_n 2, 1) := by decide +kernel
theorem dX8_takes_91 : decode cX8_takes 91 = .ok (.iconst 0, 1) := by decide +kernel
theorem dX8_takes_92 : decode cX8_takes 92 = .ok (.bipush 7, 2) := by decide +kernel
theorem dX8_takes_94 : decode cX8_takes 94 = .ok (.invokestatic 42, 3) := by decide +kernel
theorem dX8_takes_97 : decode cX8_takes 97 = .ok (.ifCond .eq 7, 3) := by decide +kernel
theorem dX8_takes_100 : decode cX8_takes 100 = .ok (.iload_n 2, 1) := by decide +kernel
theorem dX8_takes_101 : decode cX8_takes 101 = .ok (.goto 4, 3) := by decide +kernel
theorem dX8_takes_104 : decode cX8_takes 104 = .ok (.iconst 0, 1) := by decide +kernel
theorem dX8_takes_105 : decode cX8_takes 105 = .ok (.iadd, 1) := by decide +kernel
theorem dX8_takes_106 : decode cX8_takes 106 = .ok (.iastore, 1) := by decide +kernel
theorem dX8_takes_107 : decode cX8_takes 107 = .ok (.aload_n 0, 1) := by decide +kernel
theorem dX8_takes_108 : decode cX8_takes 108 = .ok (.getfield 22, 3) := by decide +kernel
theorem dX8_takes_111 : decode cX8_takes 111 = .ok (.aload_n 0, 1) := by decide +kernel
theorem dX8_takes_112 : decode cX8_takes 112 = .ok (.getfield 166, 3) := by decide +kernel
theorem dX8_takes_115 : decode cX8_takes 115 = .ok (.iaload, 1) := by decide +kernel
theorem dX8_takes_116 : decode cX8_takes 116 = .ok (.ifCond .ne 17, 3) := by decide +kernel
theorem dX8_takes_119 : decode cX8_takes 119 = .ok (.aload_n 0, 1) := by decide +kernel
theorem dX8_takes_120 : decode cX8_takes 120 = .ok (.iload_n 2, 1) := by decide +kernel
theorem dX8_takes_121 : decode cX8_takes 121 = .ok (.iconst 0, 1) := by decide +kernel
theorem dX8_takes_122 : decode cX8_takes 122 = .ok (.bipush 7, 2) := by decide +kernel
theorem dX8_takes_124 : decode cX8_takes 124 = .ok (.invokestatic 42, 3) := by decide +kernel
theorem dX8_takes_127 : decode cX8_takes 127 = .ok (.invokevirtual 173, 3) := by decide +kernel
theorem dX8_takes_130 : decode cX8_takes 130 = .ok (.goto 15, 3) := by decide +kernel
theorem dX8_takes_133 : decode cX8_takes 133 = .ok (.aload_n 0, 1) := by decide +kernel
theorem dX8_takes_134 : decode cX8_takes 134 = .ok (.iload_n 2, 1) := by decide +kernel
theorem dX8_takes_135 : decode cX8_takes 135 = .ok (.iconst 0, 1) := by decide +kernel
theorem dX8_takes_136 : decode cX8_takes 136 = .ok (.bipush 7, 2) := by decide +kernel
theorem dX8_takes_138 : decode cX8_takes 138 = .ok (.invokestatic 42, 3) := by decide +kernel
theorem dX8_takes_141 : decode cX8_takes 141 = .ok (.iconst 3, 1) := by decide +kernel
theorem dX8_takes_142 : decode cX8_takes 142 = .ok (.invokevirtual 169, 3) := by decide +kernel
theorem dX8_takes_145 : decode cX8_takes 145 = .ok (.ireturn, 1) := by decide +kernel
theorem dX8_takes_146 : decode cX8_takes 146 = .ok (.aload_n 0, 1) := by decide +kernel
theorem dX8_takes_147 : decode cX8_takes 147 = .ok (.iload_n 1, 1) := by decide +kernel
theorem dX8_takes_148 : decode cX8_takes 148 = .ok (.bipush 61, 2) := by decide +kernel
theorem dX8_takes_150 : decode cX8_takes 150 = .ok (.if_icmp .ne 7, 3) := by decide +kernel
theorem dX8_takes_153 : decode cX8_takes 153 = .ok (.iconst 1, 1) := by decide +kernel
theorem dX8_takes_154 : decode cX8_takes 154 = .ok (.goto 4, 3) := by decide +kernel
theorem dX8_takes_157 : decode cX8_takes 157 = .ok (.iconst 0, 1) := by decide +kernel
theorem dX8_takes_158 : decode cX8_takes 158 = .ok (.iconst 4, 1) := by decide +kernel
theorem dX8_takes_159 : decode cX8_takes 159 = .ok (.invokevirtual 169, 3) := by decide +kernel
theorem dX8_takes_162 : decode cX8_takes 162 = .ok (.ireturn, 1) := by decide +kernel
theorem dX8_takes_163 : decode cX8_takes 163 = .ok (.aload_n 0, 1) := by decide +kernel
theorem dX8_takes_164 : decode cX8_takes 164 = .ok (.getfield 28, 3) := by decide +kernel
theorem dX8_takes_167 : decode cX8_takes 167 = .ok (.aload_n 0, 1) := by decide +kernel
theorem dX8_takes_168 : decode cX8_takes 168 = .ok (.getfield 166, 3) := by decide +kernel
theorem dX8_takes_171 : decode cX8_takes 171 = .ok (.iload_n 2, 1) := by decide +kernel
theorem dX8_takes_172 : decode cX8_takes 172 = .ok (.iastore, 1) := by decide +kernel
theorem dX8_takes_173 : decode cX8_takes 173 = .ok (.aload_n 0, 1) := by decide +kernel
theorem dX8_takes_174 : decode cX8_takes 174 = .ok (.iload_n 2, 1) := by decide +kernel
theorem dX8_takes_175 : decode cX8_takes 175 = .ok (.iconst 0, 1) := by decide +kernel
theorem dX8_takes_176 : decode cX8_takes 176 = .ok (.iconst 1, 1) := by decide +kernel
theorem dX8_takes_177 : decode cX8_takes 177 = .ok (.invokestatic 42, 3) := by decide +kernel
theorem dX8_takes_180 : decode cX8_takes 180 = .ok (.invokevirtual 173, 3) := by decide +kernel
theorem dX8_takes_183 : decode cX8_takes 183 = .ok (.ireturn, 1) := by decide +kernel
theorem dX8_takes_184 : decode cX8_takes 184 = .ok (.aload_n 0, 1) := by decide +kernel
theorem dX8_takes_185 : decode cX8_takes 185 = .ok (.getfield 28, 3) := by decide +kernel
theorem dX8_takes_188 : decode cX8_takes 188 = .ok (.aload_n 0, 1) := by decide +kernel
theorem dX8_takes_189 : decode cX8_takes 189 = .ok (.getfield 166, 3) := by decide +kernel
theorem dX8_takes_192 : decode cX8_takes 192 = .ok (.iload_n 2, 1) := by decide +kernel
theorem dX8_takes_193 : decode cX8_takes 193 = .ok (.iastore, 1) := by decide +kernel
theorem dX8_takes_194 : decode cX8_takes 194 = .ok (.aload_n 0, 1) := by decide +kernel
theorem dX8_takes_195 : decode cX8_takes 195 = .ok (.iload_n 2, 1) := by decide +kernel
theorem dX8_takes_196 : decode cX8_takes 196 = .ok (.iconst 1, 1) := by decide +kernel
theorem dX8_takes_197 : decode cX8_takes 197 = .ok (.bipush 9, 2) := by decide +kernel
theorem dX8_takes_199 : decode cX8_takes 199 = .ok (.invokestatic 42, 3) := by decide +kernel
theorem dX8_takes_202 : decode cX8_takes 202 = .ok (.invokevirtual 173, 3) := by decide +kernel
theorem dX8_takes_205 : decode cX8_takes 205 = .ok (.ireturn, 1) := by decide +kernel
theorem dX8_takes_206 : decode cX8_takes 206 = .ok (.aload_n 0, 1) := by decide +kernel
theorem dX8_takes_207 : decode cX8_takes 207 = .ok (.iload_n 1, 1) := by decide +kernel
theorem dX8_takes_208 : decode cX8_takes 208 = .ok (.bipush 59, 2) := by decide +kernel
theorem dX8_takes_210 : decode cX8_takes 210 = .ok (.if_icmp .ne 7, 3) := by decide +kernel
theorem dX8_takes_213 : decode cX8_takes 213 = .ok (.iconst 1, 1) := by decide +kernel
theorem dX8_takes_214 : decode cX8_takes 214 = .ok (.goto 4, 3) := by decide +kernel
theorem dX8_takes_217 : decode cX8_takes 217 = .ok (.iconst 0, 1) := by decide +kernel
theorem dX8_takes_218 : decode cX8_takes 218 = .ok (.iconst 0, 1) := by decide +kernel
theorem dX8_takes_219 : decode cX8_takes 219 = .ok (.invokevirtual 169, 3) := by decide +kernel
theorem dX8_takes_222 : decode cX8_takes 222 = .ok (.ireturn, 1) := by decide +kernel
theorem dX8_scan_0 : decode cX8_scan 0 = .ok (.aload_n 0, 1) := by decide +kernel
theorem dX8_scan_1 : decode cX8_scan 1 = .ok (.iconst 0, 1) := by decide +kernel
theorem dX8_scan_2 : decode cX8_scan 2 = .ok (.putfield 163, 3) := by decide +kernel
theorem dX8_scan_5 : decode cX8_scan 5 = .ok (.aload_n 0, 1) := by decide +kernel
theorem dX8_scan_6 : decode cX8_scan 6 = .ok (.iconst 0, 1) := by decide +kernel
theorem dX8_scan_7 : decode cX8_scan 7 = .ok (.putfield 166, 3) := by decide +kernel
theorem dX8_scan_10 : decode cX8_scan 10 = .ok (.iconst 0, 1) := by decide +kernel
theorem dX8_scan_11 : decode cX8_scan 11 = .ok (.istore_n 1, 1) := by decide +kernel
theorem dX8_scan_12 : decode cX8_scan 12 = .ok (.iload_n 1, 1) := by decide +kernel
theorem dX8_scan_13 : decode cX8_scan 13 = .ok (.aload_n 0, 1) := by decide +kernel
theorem dX8_scan_14 : decode cX8_scan 14 = .ok (.getfield 160, 3) := by decide +kernel
theorem dX8_scan_17 : decode cX8_scan 17 = .ok (.if_icmp .ge 22, 3) := by decide +kernel
theorem dX8_scan_20 : decode cX8_scan 20 = .ok (.aload_n 0, 1) := by decide +kernel
theorem dX8_scan_21 : decode cX8_scan 21 = .ok (.aload_n 0, 1) := by decide +kernel
theorem dX8_scan_22 : decode cX8_scan 22 = .ok (.getfield 19, 3) := by decide +kernel
theorem dX8_scan_25 : decode cX8_scan 25 = .ok (.iload_n 1, 1) := by decide +kernel
theorem dX8_scan_26 : decode cX8_scan 26 = .ok (.iaload, 1) := by decide +kernel
theorem dX8_scan_27 : decode cX8_scan 27 = .ok (.invokevirtual 180, 3) := by decide +kernel
theorem dX8_scan_30 : decode cX8_scan 30 = .ok (.ifCond .eq 9, 3) := by decide +kernel
theorem dX8_scan_33 : decode cX8_scan 33 = .ok (.iinc 1 1, 3) := by decide +kernel
theorem dX8_scan_36 : decode cX8_scan 36 = .ok (.goto (-24), 3) := by decide +kernel
theorem dX8_scan_39 : decode cX8_scan 39 = .ok (.iload_n 1, 1) := by decide +kernel
theorem dX8_scan_40 : decode cX8_scan 40 = .ok (.ireturn, 1) := by decide +kernel
theorem dX8_firstError_0 : decode cX8_firstError 0 = .ok (.aload_n 0, 1) := by decide +kernel
theorem dX8_firstError_1 : decode cX8_firstError 1 = .ok (.iconst 0, 1) := by decide +kernel
theorem dX8_firstError_2 : decode cX8_firstError 2 = .ok (.putfield 38, 3) := by decide +kernel
theorem dX8_firstError_5 : decode cX8_firstError 5 = .ok (.aload_n 0, 1) := by decide +kernel
theorem dX8_firstError_6 : decode cX8_firstError 6 = .ok (.invokevirtual 183, 3) := by decide +kernel
theorem dX8_firstError_9 : decode cX8_firstError 9 = .ok (.ireturn, 1) := by decide +kernel
theorem dX8_mayDo_0 : decode cX8_mayDo 0 = .ok (.aload_n 0, 1) := by decide +kernel
theorem dX8_mayDo_1 : decode cX8_mayDo 1 = .ok (.aload_n 0, 1) := by decide +kernel
theorem dX8_mayDo_2 : decode cX8_mayDo 2 = .ok (.getfield 25, 3) := by decide +kernel
theorem dX8_mayDo_5 : decode cX8_mayDo 5 = .ok (.iload_n 1, 1) := by decide +kernel
theorem dX8_mayDo_6 : decode cX8_mayDo 6 = .ok (.iaload, 1) := by decide +kernel
theorem dX8_mayDo_7 : decode cX8_mayDo 7 = .ok (.iconst 2, 1) := by decide +kernel
theorem dX8_mayDo_8 : decode cX8_mayDo 8 = .ok (.invokevirtual 62, 3) := by decide +kernel
theorem dX8_mayDo_11 : decode cX8_mayDo 11 = .ok (.iload_n 2, 1) := by decide +kernel
theorem dX8_mayDo_12 : decode cX8_mayDo 12 = .ok (.iconst 1, 1) := by decide +kernel
theorem dX8_mayDo_13 : decode cX8_mayDo 13 = .ok (.iadd, 1) := by decide +kernel
theorem dX8_mayDo_14 : decode cX8_mayDo 14 = .ok (.if_icmp .ne 7, 3) := by decide +kernel
theorem dX8_mayDo_17 : decode cX8_mayDo 17 = .ok (.iconst 1, 1) := by decide +kernel
theorem dX8_mayDo_18 : decode cX8_mayDo 18 = .ok (.goto 4, 3) := by decide +kernel
theorem dX8_mayDo_21 : decode cX8_mayDo 21 = .ok (.iconst 0, 1) := by decide +kernel
theorem dX8_mayDo_22 : decode cX8_mayDo 22 = .ok (.istore_n 3, 1) := by decide +kernel
theorem dX8_mayDo_23 : decode cX8_mayDo 23 = .ok (.aload_n 0, 1) := by decide +kernel
theorem dX8_mayDo_24 : decode cX8_mayDo 24 = .ok (.getfield 22, 3) := by decide +kernel
theorem dX8_mayDo_27 : decode cX8_mayDo 27 = .ok (.iload_n 1, 1) := by decide +kernel
theorem dX8_mayDo_28 : decode cX8_mayDo 28 = .ok (.iaload, 1) := by decide +kernel
theorem dX8_mayDo_29 : decode cX8_mayDo 29 = .ok (.tableswitch 65 0 2 #[27, 50, 52], 27) := by decide +kernel
theorem dX8_mayDo_56 : decode cX8_mayDo 56 = .ok (.iload_n 3, 1) := by decide +kernel
theorem dX8_mayDo_57 : decode cX8_mayDo 57 = .ok (.ifCond .eq 20, 3) := by decide +kernel
theorem dX8_mayDo_60 : decode cX8_mayDo 60 = .ok (.aload_n 0, 1) := by decide +kernel
theorem dX8_mayDo_61 : decode cX8_mayDo 61 = .ok (.aload_n 0, 1) := by decide +kernel
theorem dX8_mayDo_62 : decode cX8_mayDo 62 = .ok (.getfield 25, 3) := by decide +kernel
theorem dX8_mayDo_65 : decode cX8_mayDo 65 = .ok (.iload_n 1, 1) := by decide +kernel
theorem dX8_mayDo_66 : decode cX8_mayDo 66 = .ok (.iaload, 1) := by decide +kernel
theorem dX8_mayDo_67 : decode cX8_mayDo 67 = .ok (.invokevirtual 132, 3) := by decide +kernel
theorem dX8_mayDo_70 : decode cX8_mayDo 70 = .ok (.ifCond .eq 7, 3) := by decide +kernel
theorem dX8_mayDo_73 : decode cX8_mayDo 73 = .ok (.iconst 1, 1) := by decide +kernel
theorem dX8_mayDo_74 : decode cX8_mayDo 74 = .ok (.goto 4, 3) := by decide +kernel
theorem dX8_mayDo_77 : decode cX8_mayDo 77 = .ok (.iconst 0, 1) := by decide +kernel
theorem dX8_mayDo_78 : decode cX8_mayDo 78 = .ok (.ireturn, 1) := by decide +kernel
theorem dX8_mayDo_79 : decode cX8_mayDo 79 = .ok (.iload_n 3, 1) := by decide +kernel
theorem dX8_mayDo_80 : decode cX8_mayDo 80 = .ok (.ireturn, 1) := by decide +kernel
theorem dX8_mayDo_81 : decode cX8_mayDo 81 = .ok (.aload_n 0, 1) := by decide +kernel
theorem dX8_mayDo_82 : decode cX8_mayDo 82 = .ok (.invokevirtual 145, 3) := by decide +kernel
theorem dX8_mayDo_85 : decode cX8_mayDo 85 = .ok (.ifCond .le 7, 3) := by decide +kernel
theorem dX8_mayDo_88 : decode cX8_mayDo 88 = .ok (.iconst 1, 1) := by decide +kernel
theorem dX8_mayDo_89 : decode cX8_mayDo 89 = .ok (.goto 4, 3) := by decide +kernel
theorem dX8_mayDo_92 : decode cX8_mayDo 92 = .ok (.iconst 0, 1) := by decide +kernel
theorem dX8_mayDo_93 : decode cX8_mayDo 93 = .ok (.ireturn, 1) := by decide +kernel
theorem dX8_mayDo_94 : decode cX8_mayDo 94 = .ok (.aload_n 0, 1) := by decide +kernel
theorem dX8_mayDo_95 : decode cX8_mayDo 95 = .ok (.getfield 7, 3) := by decide +kernel
theorem dX8_mayDo_98 : decode cX8_mayDo 98 = .ok (.iconst 0, 1) := by decide +kernel
theorem dX8_mayDo_99 : decode cX8_mayDo 99 = .ok (.iaload, 1) := by decide +kernel
theorem dX8_mayDo_100 : decode cX8_mayDo 100 = .ok (.aload_n 0, 1) := by decide +kernel
theorem dX8_mayDo_101 : decode cX8_mayDo 101 = .ok (.getfield 28, 3) := by decide +kernel
theorem dX8_mayDo_104 : decode cX8_mayDo 104 = .ok (.iload_n 1, 1) := by decide +kernel
theorem dX8_mayDo_105 : decode cX8_mayDo 105 = .ok (.iaload, 1) := by decide +kernel
theorem dX8_mayDo_106 : decode cX8_mayDo 106 = .ok (.iadd, 1) := by decide +kernel
theorem dX8_mayDo_107 : decode cX8_mayDo 107 = .ok (.sipush 10000, 3) := by decide +kernel
theorem dX8_mayDo_110 : decode cX8_mayDo 110 = .ok (.if_icmp .gt 7, 3) := by decide +kernel
theorem dX8_mayDo_113 : decode cX8_mayDo 113 = .ok (.iconst 1, 1) := by decide +kernel
theorem dX8_mayDo_114 : decode cX8_mayDo 114 = .ok (.goto 4, 3) := by decide +kernel
theorem dX8_mayDo_117 : decode cX8_mayDo 117 = .ok (.iconst 0, 1) := by decide +kernel
theorem dX8_mayDo_118 : decode cX8_mayDo 118 = .ok (.ireturn, 1) := by decide +kernel
theorem dX8_does_0 : decode cX8_does 0 = .ok (.aload_n 0, 1) := by decide +kernel
theorem dX8_does_1 : decode cX8_does 1 = .ok (.getfield 22, 3) := by decide +kernel
theorem dX8_does_4 : decode cX8_does 4 = .ok (.iload_n 1, 1) := by decide +kernel
theorem dX8_does_5 : decode cX8_does 5 = .ok (.iaload, 1) := by decide +kernel
theorem dX8_does_6 : decode cX8_does 6 = .ok (.ifCond .ne 17, 3) := by decide +kernel
theorem dX8_does_9 : decode cX8_does 9 = .ok (.aload_n 0, 1) := by decide +kernel
theorem dX8_does_10 : decode cX8_does 10 = .ok (.aload_n 0, 1) := by decide +kernel
theorem dX8_does_11 : decode cX8_does 11 = .ok (.getfield 25, 3) := by decide +kernel
theorem dX8_does_14 : decode cX8_does 14 = .ok (.iload_n 1, 1) := by decide +kernel
theorem dX8_does_15 : decode cX8_does 15 = .ok (.iaload, 1) := by decide +kernel
theorem dX8_does_16 : decode cX8_does 16 = .ok (.invokevirtual 135, 3) := by decide +kernel
theorem dX8_does_19 : decode cX8_does 19 = .ok (.pop, 1) := by decide +kernel
theorem dX8_does_20 : decode cX8_does 20 = .ok (.goto 73, 3) := by decide +kernel
theorem dX8_does_23 : decode cX8_does 23 = .ok (.aload_n 0, 1) := by decide +kernel
theorem dX8_does_24 : decode cX8_does 24 = .ok (.getfield 22, 3) := by decide +kernel
theorem dX8_does_27 : decode cX8_does 27 = .ok (.iload_n 1, 1) := by decide +kernel
theorem dX8_does_28 : decode cX8_does 28 = .ok (.iaload, 1) := by decide +kernel
theorem dX8_does_29 : decode cX8_does 29 = .ok (.iconst 1, 1) := by decide +kernel
theorem dX8_does_30 : decode cX8_does 30 = .ok (.if_icmp .ne 23, 3) := by decide +kernel
theorem dX8_does_33 : decode cX8_does 33 = .ok (.aload_n 0, 1) := by decide +kernel
theorem dX8_does_34 : decode cX8_does 34 = .ok (.aload_n 0, 1) := by decide +kernel
theorem dX8_does_35 : decode cX8_does 35 = .ok (.getfield 25, 3) := by decide +kernel
theorem dX8_does_38 : decode cX8_does 38 = .ok (.iload_n 1, 1) := by decide +kernel
theorem dX8_does_39 : decode cX8_does 39 = .ok (.iaload, 1) := by decide +kernel
theorem dX8_does_40 : decode cX8_does 40 = .ok (.aload_n 0, 1) := by decide +kernel
theorem dX8_does_41 : decode cX8_does 41 = .ok (.getfield 28, 3) := by decide +kernel
theorem dX8_does_44 : decode cX8_does 44 = .ok (.iload_n 1, 1) := by decide +kernel
theorem dX8_does_45 : decode cX8_does 45 = .ok (.iaload, 1) := by decide +kernel
theorem dX8_does_46 : decode cX8_does 46 = .ok (.invokevirtual 129, 3) := by decide +kernel
theorem dX8_does_49 : decode cX8_does 49 = .ok (.pop, 1) := by decide +kernel
theorem dX8_does_50 : decode cX8_does 50 = .ok (.goto 43, 3) := by decide +kernel
theorem dX8_does_53 : decode cX8_does 53 = .ok (.aload_n 0, 1) := by decide +kernel
theorem dX8_does_54 : decode cX8_does 54 = .ok (.getfield 22, 3) := by decide +kernel
theorem dX8_does_57 : decode cX8_does 57 = .ok (.iload_n 1, 1) := by decide +kernel
theorem dX8_does_58 : decode cX8_does 58 = .ok (.iaload, 1) := by decide +kernel
theorem dX8_does_59 : decode cX8_does 59 = .ok (.iconst 2, 1) := by decide +kernel
theorem dX8_does_60 : decode cX8_does 60 = .ok (.if_icmp .ne 11, 3) := by decide +kernel
theorem dX8_does_63 : decode cX8_does 63 = .ok (.aload_n 0, 1) := by decide +kernel
theorem dX8_does_64 : decode cX8_does 64 = .ok (.invokevirtual 148, 3) := by decide +kernel
theorem dX8_does_67 : decode cX8_does 67 = .ok (.pop, 1) := by decide +kernel
theorem dX8_does_68 : decode cX8_does 68 = .ok (.goto 25, 3) := by decide +kernel
theorem dX8_does_71 : decode cX8_does 71 = .ok (.iconst 0, 1) := by decide +kernel
theorem dX8_does_72 : decode cX8_does 72 = .ok (.istore_n 2, 1) := by decide +kernel
theorem dX8_does_73 : decode cX8_does 73 = .ok (.iload_n 2, 1) := by decide +kernel
theorem dX8_does_74 : decode cX8_does 74 = .ok (.aload_n 0, 1) := by decide +kernel
theorem dX8_does_75 : decode cX8_does 75 = .ok (.getfield 28, 3) := by decide +kernel
theorem dX8_does_78 : decode cX8_does 78 = .ok (.iload_n 1, 1) := by decide +kernel
theorem dX8_does_79 : decode cX8_does 79 = .ok (.iaload, 1) := by decide +kernel
theorem dX8_does_80 : decode cX8_does 80 = .ok (.if_icmp .ge 13, 3) := by decide +kernel
theorem dX8_does_83 : decode cX8_does 83 = .ok (.aload_n 0, 1) := by decide +kernel
theorem dX8_does_84 : decode cX8_does 84 = .ok (.invokevirtual 157, 3) := by decide +kernel
theorem dX8_does_87 : decode cX8_does 87 = .ok (.iinc 2 1, 3) := by decide +kernel
theorem dX8_does_90 : decode cX8_does 90 = .ok (.goto (-17), 3) := by decide +kernel
theorem dX8_does_93 : decode cX8_does 93 = .ok (.return_, 1) := by decide +kernel
theorem dX8_run_0 : decode cX8_run 0 = .ok (.aload_n 0, 1) := by decide +kernel
theorem dX8_run_1 : decode cX8_run 1 = .ok (.iconst 0, 1) := by decide +kernel
theorem dX8_run_2 : decode cX8_run 2 = .ok (.putfield 38, 3) := by decide +kernel
theorem dX8_run_5 : decode cX8_run 5 = .ok (.aload_n 0, 1) := by decide +kernel
theorem dX8_run_6 : decode cX8_run 6 = .ok (.iload_n 1, 1) := by decide +kernel
theorem dX8_run_7 : decode cX8_run 7 = .ok (.invokevirtual 70, 3) := by decide +kernel
theorem dX8_run_10 : decode cX8_run 10 = .ok (.ifCond .ne 9, 3) := by decide +kernel
theorem dX8_run_13 : decode cX8_run 13 = .ok (.aload_n 0, 1) := by decide +kernel
theorem dX8_run_14 : decode cX8_run 14 = .ok (.iconst 1, 1) := by decide +kernel
theorem dX8_run_15 : decode cX8_run 15 = .ok (.invokevirtual 49, 3) := by decide +kernel
theorem dX8_run_18 : decode cX8_run 18 = .ok (.ireturn, 1) := by decide +kernel
theorem dX8_run_19 : decode cX8_run 19 = .ok (.aload_n 0, 1) := by decide +kernel
theorem dX8_run_20 : decode cX8_run 20 = .ok (.invokevirtual 183, 3) := by decide +kernel
theorem dX8_run_23 : decode cX8_run 23 = .ok (.aload_n 0, 1) := by decide +kernel
theorem dX8_run_24 : decode cX8_run 24 = .ok (.getfield 160, 3) := by decide +kernel
theorem dX8_run_27 : decode cX8_run 27 = .ok (.if_icmp .lt 12, 3) := by decide +kernel
theorem dX8_run_30 : decode cX8_run 30 = .ok (.aload_n 0, 1) := by decide +kernel
theorem dX8_run_31 : decode cX8_run 31 = .ok (.getfield 163, 3) := by decide +kernel
theorem dX8_run_34 : decode cX8_run 34 = .ok (.bipush 20, 2) := by decide +kernel
theorem dX8_run_36 : decode cX8_run 36 = .ok (.if_icmp .eq 9, 3) := by decide +kernel
theorem dX8_run_39 : decode cX8_run 39 = .ok (.aload_n 0, 1) := by decide +kernel
theorem dX8_run_40 : decode cX8_run 40 = .ok (.iconst 2, 1) := by decide +kernel
theorem dX8_run_41 : decode cX8_run 41 = .ok (.invokevirtual 49, 3) := by decide +kernel
theorem dX8_run_44 : decode cX8_run 44 = .ok (.ireturn, 1) := by decide +kernel
theorem dX8_run_45 : decode cX8_run 45 = .ok (.aload_n 0, 1) := by decide +kernel
theorem dX8_run_46 : decode cX8_run 46 = .ok (.invokevirtual 53, 3) := by decide +kernel
theorem dX8_run_49 : decode cX8_run 49 = .ok (.iconst 0, 1) := by decide +kernel
theorem dX8_run_50 : decode cX8_run 50 = .ok (.istore_n 2, 1) := by decide +kernel
theorem dX8_run_51 : decode cX8_run 51 = .ok (.iload_n 2, 1) := by decide +kernel
theorem dX8_run_52 : decode cX8_run 52 = .ok (.aload_n 0, 1) := by decide +kernel
theorem dX8_run_53 : decode cX8_run 53 = .ok (.getfield 166, 3) := by decide +kernel
theorem dX8_run_56 : decode cX8_run 56 = .ok (.if_icmp .ge 23, 3) := by decide +kernel
theorem dX8_run_59 : decode cX8_run 59 = .ok (.aload_n 0, 1) := by decide +kernel
theorem dX8_run_60 : decode cX8_run 60 = .ok (.iload_n 2, 1) := by decide +kernel
theorem dX8_run_61 : decode cX8_run 61 = .ok (.iload_n 1, 1) := by decide +kernel
theorem dX8_run_62 : decode cX8_run 62 = .ok (.invokevirtual 186, 3) := by decide +kernel
theorem dX8_run_65 : decode cX8_run 65 = .ok (.ifCond .eq 14, 3) := by decide +kernel
theorem dX8_run_68 : decode cX8_run 68 = .ok (.aload_n 0, 1) := by decide +kernel
theorem dX8_run_69 : decode cX8_run 69 = .ok (.iload_n 2, 1) := by decide +kernel
theorem dX8_run_70 : decode cX8_run 70 = .ok (.invokevirtual 189, 3) := by decide +kernel
theorem dX8_run_73 : decode cX8_run 73 = .ok (.iinc 2 1, 3) := by decide +kernel
theorem dX8_run_76 : decode cX8_run 76 = .ok (.goto (-25), 3) := by decide +kernel
theorem dX8_run_79 : decode cX8_run 79 = .ok (.aload_n 0, 1) := by decide +kernel
theorem dX8_run_80 : decode cX8_run 80 = .ok (.iconst 0, 1) := by decide +kernel
theorem dX8_run_81 : decode cX8_run 81 = .ok (.putfield 160, 3) := by decide +kernel
theorem dX8_run_84 : decode cX8_run 84 = .ok (.iload_n 2, 1) := by decide +kernel
theorem dX8_run_85 : decode cX8_run 85 = .ok (.ireturn, 1) := by decide +kernel
theorem dX8_undo_0 : decode cX8_undo 0 = .ok (.aload_n 0, 1) := by decide +kernel
theorem dX8_undo_1 : decode cX8_undo 1 = .ok (.iconst 0, 1) := by decide +kernel
theorem dX8_undo_2 : decode cX8_undo 2 = .ok (.putfield 38, 3) := by decide +kernel
theorem dX8_undo_5 : decode cX8_undo 5 = .ok (.aload_n 0, 1) := by decide +kernel
theorem dX8_undo_6 : decode cX8_undo 6 = .ok (.getfield 46, 3) := by decide +kernel
theorem dX8_undo_9 : decode cX8_undo 9 = .ok (.ifCond .ne 9, 3) := by decide +kernel
theorem dX8_undo_12 : decode cX8_undo 12 = .ok (.aload_n 0, 1) := by decide +kernel
theorem dX8_undo_13 : decode cX8_undo 13 = .ok (.iconst 1, 1) := by decide +kernel
theorem dX8_undo_14 : decode cX8_undo 14 = .ok (.invokevirtual 49, 3) := by decide +kernel
theorem dX8_undo_17 : decode cX8_undo 17 = .ok (.ireturn, 1) := by decide +kernel
theorem dX8_undo_18 : decode cX8_undo 18 = .ok (.aload_n 0, 1) := by decide +kernel
theorem dX8_undo_19 : decode cX8_undo 19 = .ok (.dup, 1) := by decide +kernel
theorem dX8_undo_20 : decode cX8_undo 20 = .ok (.getfield 46, 3) := by decide +kernel
theorem dX8_undo_23 : decode cX8_undo 23 = .ok (.iconst 1, 1) := by decide +kernel
theorem dX8_undo_24 : decode cX8_undo 24 = .ok (.isub, 1) := by decide +kernel
theorem dX8_undo_25 : decode cX8_undo 25 = .ok (.putfield 46, 3) := by decide +kernel
theorem dX8_undo_28 : decode cX8_undo 28 = .ok (.iconst 0, 1) := by decide +kernel
theorem dX8_undo_29 : decode cX8_undo 29 = .ok (.istore_n 1, 1) := by decide +kernel
theorem dX8_undo_30 : decode cX8_undo 30 = .ok (.iload_n 1, 1) := by decide +kernel
theorem dX8_undo_31 : decode cX8_undo 31 = .ok (.sipush 2195, 3) := by decide +kernel
theorem dX8_undo_34 : decode cX8_undo 34 = .ok (.if_icmp .ge 30, 3) := by decide +kernel
theorem dX8_undo_37 : decode cX8_undo 37 = .ok (.aload_n 0, 1) := by decide +kernel
theorem dX8_undo_38 : decode cX8_undo 38 = .ok (.getfield 7, 3) := by decide +kernel
theorem dX8_undo_41 : decode cX8_undo 41 = .ok (.iload_n 1, 1) := by decide +kernel
theorem dX8_undo_42 : decode cX8_undo 42 = .ok (.aload_n 0, 1) := by decide +kernel
theorem dX8_undo_43 : decode cX8_undo 43 = .ok (.getfield 16, 3) := by decide +kernel
theorem dX8_undo_46 : decode cX8_undo 46 = .ok (.sipush 2195, 3) := by decide +kernel
theorem dX8_undo_49 : decode cX8_undo 49 = .ok (.aload_n 0, 1) := by decide +kernel
theorem dX8_undo_50 : decode cX8_undo 50 = .ok (.getfield 46, 3) := by decide +kernel
theorem dX8_undo_53 : decode cX8_undo 53 = .ok (.imul, 1) := by decide +kernel
theorem dX8_undo_54 : decode cX8_undo 54 = .ok (.iload_n 1, 1) := by decide +kernel
theorem dX8_undo_55 : decode cX8_undo 55 = .ok (.iadd, 1) := by decide +kernel
theorem dX8_undo_56 : decode cX8_undo 56 = .ok (.iaload, 1) := by decide +kernel
theorem dX8_undo_57 : decode cX8_undo 57 = .ok (.iastore, 1) := by decide +kernel
theorem dX8_undo_58 : decode cX8_undo 58 = .ok (.iinc 1 1, 3) := by decide +kernel
theorem dX8_undo_61 : decode cX8_undo 61 = .ok (.goto (-31), 3) := by decide +kernel
theorem dX8_undo_64 : decode cX8_undo 64 = .ok (.aload_n 0, 1) := by decide +kernel
theorem dX8_undo_65 : decode cX8_undo 65 = .ok (.getfield 46, 3) := by decide +kernel
theorem dX8_undo_68 : decode cX8_undo 68 = .ok (.ireturn, 1) := by decide +kernel
theorem dX8_coreNow_0 : decode cX8_coreNow 0 = .ok (.iload_n 2, 1) := by decide +kernel
theorem dX8_coreNow_1 : decode cX8_coreNow 1 = .ok (.tableswitch 129 0 8 #[51, 51, 58, 67, 86, 95, 115, 129, 51], 51) := by decide +kernel
theorem dX8_coreNow_52 : decode cX8_coreNow 52 = .ok (.aload_n 0, 1) := by decide +kernel
theorem dX8_coreNow_53 : decode cX8_coreNow 53 = .ok (.iload_n 1, 1) := by decide +kernel
theorem dX8_coreNow_54 : decode cX8_coreNow 54 = .ok (.iload_n 2, 1) := by decide +kernel
theorem dX8_coreNow_55 : decode cX8_coreNow 55 = .ok (.invokevirtual 62, 3) := by decide +kernel
theorem dX8_coreNow_58 : decode cX8_coreNow 58 = .ok (.ireturn, 1) := by decide +kernel
theorem dX8_coreNow_59 : decode cX8_coreNow 59 = .ok (.aload_n 0, 1) := by decide +kernel
theorem dX8_coreNow_60 : decode cX8_coreNow 60 = .ok (.iload_n 1, 1) := by decide +kernel
theorem dX8_coreNow_61 : decode cX8_coreNow 61 = .ok (.iconst 2, 1) := by decide +kernel
theorem dX8_coreNow_62 : decode cX8_coreNow 62 = .ok (.invokevirtual 62, 3) := by decide +kernel
theorem dX8_coreNow_65 : decode cX8_coreNow 65 = .ok (.iconst 1, 1) := by decide +kernel
theorem dX8_coreNow_66 : decode cX8_coreNow 66 = .ok (.isub, 1) := by decide +kernel
theorem dX8_coreNow_67 : decode cX8_coreNow 67 = .ok (.ireturn, 1) := by decide +kernel
theorem dX8_coreNow_68 : decode cX8_coreNow 68 = .ok (.aload_n 0, 1) := by decide +kernel
theorem dX8_coreNow_69 : decode cX8_coreNow 69 = .ok (.iload_n 1, 1) := by decide +kernel
theorem dX8_coreNow_70 : decode cX8_coreNow 70 = .ok (.invokevirtual 76, 3) := by decide +kernel
theorem dX8_coreNow_73 : decode cX8_coreNow 73 = .ok (.ifCond .eq 12, 3) := by decide +kernel
theorem dX8_coreNow_76 : decode cX8_coreNow 76 = .ok (.aload_n 0, 1) := by decide +kernel
theorem dX8_coreNow_77 : decode cX8_coreNow 77 = .ok (.iload_n 1, 1) := by decide +kernel
theorem dX8_coreNow_78 : decode cX8_coreNow 78 = .ok (.iconst 3, 1) := by decide +kernel
theorem dX8_coreNow_79 : decode cX8_coreNow 79 = .ok (.invokevirtual 62, 3) := by decide +kernel
theorem dX8_coreNow_82 : decode cX8_coreNow 82 = .ok (.goto 4, 3) := by decide +kernel
theorem dX8_coreNow_85 : decode cX8_coreNow 85 = .ok (.iconst 0, 1) := by decide +kernel
theorem dX8_coreNow_86 : decode cX8_coreNow 86 = .ok (.ireturn, 1) := by decide +kernel
theorem dX8_coreNow_87 : decode cX8_coreNow 87 = .ok (.aload_n 0, 1) := by decide +kernel
theorem dX8_coreNow_88 : decode cX8_coreNow 88 = .ok (.iload_n 1, 1) := by decide +kernel
theorem dX8_coreNow_89 : decode cX8_coreNow 89 = .ok (.iconst 4, 1) := by decide +kernel
theorem dX8_coreNow_90 : decode cX8_coreNow 90 = .ok (.invokevirtual 62, 3) := by decide +kernel
theorem dX8_coreNow_93 : decode cX8_coreNow 93 = .ok (.iconst 1, 1) := by decide +kernel
theorem dX8_coreNow_94 : decode cX8_coreNow 94 = .ok (.isub, 1) := by decide +kernel
theorem dX8_coreNow_95 : decode cX8_coreNow 95 = .ok (.ireturn, 1) := by decide +kernel
theorem dX8_coreNow_96 : decode cX8_coreNow 96 = .ok (.aload_n 0, 1) := by decide +kernel
theorem dX8_coreNow_97 : decode cX8_coreNow 97 = .ok (.iload_n 1, 1) := by decide +kernel
theorem dX8_coreNow_98 : decode cX8_coreNow 98 = .ok (.iconst 4, 1) := by decide +kernel
theorem dX8_coreNow_99 : decode cX8_coreNow 99 = .ok (.invokevirtual 62, 3) := by decide +kernel
theorem dX8_coreNow_102 : decode cX8_coreNow 102 = .ok (.ifCond .le 12, 3) := by decide +kernel
theorem dX8_coreNow_105 : decode cX8_coreNow 105 = .ok (.aload_n 0, 1) := by decide +kernel
theorem dX8_coreNow_106 : decode cX8_coreNow 106 = .ok (.iload_n 1, 1) := by decide +kernel
theorem dX8_coreNow_107 : decode cX8_coreNow 107 = .ok (.iconst 5, 1) := by decide +kernel
theorem dX8_coreNow_108 : decode cX8_coreNow 108 = .ok (.invokevirtual 62, 3) := by decide +kernel
theorem dX8_coreNow_111 : decode cX8_coreNow 111 = .ok (.goto 4, 3) := by decide +kernel
theorem dX8_coreNow_114 : decode cX8_coreNow 114 = .ok (.iconst 0, 1) := by decide +kernel
theorem dX8_coreNow_115 : decode cX8_coreNow 115 = .ok (.ireturn, 1) := by decide +kernel
theorem dX8_coreNow_116 : decode cX8_coreNow 116 = .ok (.aload_n 0, 1) := by decide +kernel
theorem dX8_coreNow_117 : decode cX8_coreNow 117 = .ok (.iload_n 1, 1) := by decide +kernel
theorem dX8_coreNow_118 : decode cX8_coreNow 118 = .ok (.invokevirtual 126, 3) := by decide +kernel
theorem dX8_coreNow_121 : decode cX8_coreNow 121 = .ok (.ifCond .eq 7, 3) := by decide +kernel
theorem dX8_coreNow_124 : decode cX8_coreNow 124 = .ok (.iconst 1, 1) := by decide +kernel
theorem dX8_coreNow_125 : decode cX8_coreNow 125 = .ok (.goto 4, 3) := by decide +kernel
theorem dX8_coreNow_128 : decode cX8_coreNow 128 = .ok (.iconst 0, 1) := by decide +kernel
theorem dX8_coreNow_129 : decode cX8_coreNow 129 = .ok (.ireturn, 1) := by decide +kernel
theorem dX8_coreNow_130 : decode cX8_coreNow 130 = .ok (.aload_n 0, 1) := by decide +kernel
theorem dX8_coreNow_131 : decode cX8_coreNow 131 = .ok (.iload_n 1, 1) := by decide +kernel
theorem dX8_coreNow_132 : decode cX8_coreNow 132 = .ok (.bipush 6, 2) := by decide +kernel
theorem dX8_coreNow_134 : decode cX8_coreNow 134 = .ok (.invokevirtual 62, 3) := by decide +kernel
theorem dX8_coreNow_137 : decode cX8_coreNow 137 = .ok (.iconst 1, 1) := by decide +kernel
theorem dX8_coreNow_138 : decode cX8_coreNow 138 = .ok (.isub, 1) := by decide +kernel
theorem dX8_coreNow_139 : decode cX8_coreNow 139 = .ok (.ireturn, 1) := by decide +kernel
theorem dX8_core_0 : decode cX8_core 0 = .ok (.aload_n 0, 1) := by decide +kernel
theorem dX8_core_1 : decode cX8_core 1 = .ok (.iconst 0, 1) := by decide +kernel
theorem dX8_core_2 : decode cX8_core 2 = .ok (.putfield 38, 3) := by decide +kernel
theorem dX8_core_5 : decode cX8_core 5 = .ok (.iload_n 1, 1) := by decide +kernel
theorem dX8_core_6 : decode cX8_core 6 = .ok (.invokestatic 66, 3) := by decide +kernel
theorem dX8_core_9 : decode cX8_core 9 = .ok (.ifCond .ne 9, 3) := by decide +kernel
theorem dX8_core_12 : decode cX8_core 12 = .ok (.aload_n 0, 1) := by decide +kernel
theorem dX8_core_13 : decode cX8_core 13 = .ok (.iconst 1, 1) := by decide +kernel
theorem dX8_core_14 : decode cX8_core 14 = .ok (.invokevirtual 49, 3) := by decide +kernel
theorem dX8_core_17 : decode cX8_core 17 = .ok (.ireturn, 1) := by decide +kernel
theorem dX8_core_18 : decode cX8_core 18 = .ok (.iload_n 2, 1) := by decide +kernel
theorem dX8_core_19 : decode cX8_core 19 = .ok (.iconst 0, 1) := by decide +kernel
theorem dX8_core_20 : decode cX8_core 20 = .ok (.bipush 8, 2) := by decide +kernel
theorem dX8_core_22 : decode cX8_core 22 = .ok (.invokestatic 42, 3) := by decide +kernel
theorem dX8_core_25 : decode cX8_core 25 = .ok (.ifCond .eq 12, 3) := by decide +kernel
theorem dX8_core_28 : decode cX8_core 28 = .ok (.aload_n 0, 1) := by decide +kernel
theorem dX8_core_29 : decode cX8_core 29 = .ok (.iload_n 1, 1) := by decide +kernel
theorem dX8_core_30 : decode cX8_core 30 = .ok (.iload_n 2, 1) := by decide +kernel
theorem dX8_core_31 : decode cX8_core 31 = .ok (.invokevirtual 192, 3) := by decide +kernel
theorem dX8_core_34 : decode cX8_core 34 = .ok (.goto 8, 3) := by decide +kernel
theorem dX8_core_37 : decode cX8_core 37 = .ok (.aload_n 0, 1) := by decide +kernel
theorem dX8_core_38 : decode cX8_core 38 = .ok (.iconst 2, 1) := by decide +kernel
theorem dX8_core_39 : decode cX8_core 39 = .ok (.invokevirtual 49, 3) := by decide +kernel
theorem dX8_core_42 : decode cX8_core 42 = .ok (.ireturn, 1) := by decide +kernel
theorem dX8_coresOf_0 : decode cX8_coresOf 0 = .ok (.iconst 0, 1) := by decide +kernel
theorem dX8_coresOf_1 : decode cX8_coresOf 1 = .ok (.istore_n 3, 1) := by decide +kernel
theorem dX8_coresOf_2 : decode cX8_coresOf 2 = .ok (.iconst 0, 1) := by decide +kernel
theorem dX8_coresOf_3 : decode cX8_coresOf 3 = .ok (.istore 4, 2) := by decide +kernel
theorem dX8_coresOf_5 : decode cX8_coresOf 5 = .ok (.iload 4, 2) := by decide +kernel
theorem dX8_coresOf_7 : decode cX8_coresOf 7 = .ok (.bipush 64, 2) := by decide +kernel
theorem dX8_coresOf_9 : decode cX8_coresOf 9 = .ok (.if_icmp .ge 44, 3) := by decide +kernel
theorem dX8_coresOf_12 : decode cX8_coresOf 12 = .ok (.iload_n 3, 1) := by decide +kernel
theorem dX8_coresOf_13 : decode cX8_coresOf 13 = .ok (.aload_n 0, 1) := by decide +kernel
theorem dX8_coresOf_14 : decode cX8_coresOf 14 = .ok (.iload 4, 2) := by decide +kernel
theorem dX8_coresOf_16 : decode cX8_coresOf 16 = .ok (.iconst 2, 1) := by decide +kernel
theorem dX8_coresOf_17 : decode cX8_coresOf 17 = .ok (.invokevirtual 62, 3) := by decide +kernel
theorem dX8_coresOf_20 : decode cX8_coresOf 20 = .ok (.iload_n 1, 1) := by decide +kernel
theorem dX8_coresOf_21 : decode cX8_coresOf 21 = .ok (.iconst 1, 1) := by decide +kernel
theorem dX8_coresOf_22 : decode cX8_coresOf 22 = .ok (.iadd, 1) := by decide +kernel
theorem dX8_coresOf_23 : decode cX8_coresOf 23 = .ok (.if_icmp .ne 21, 3) := by decide +kernel
theorem dX8_coresOf_26 : decode cX8_coresOf 26 = .ok (.iload_n 2, 1) := by decide +kernel
theorem dX8_coresOf_27 : decode cX8_coresOf 27 = .ok (.ifCond .eq 13, 3) := by decide +kernel
theorem dX8_coresOf_30 : decode cX8_coresOf 30 = .ok (.aload_n 0, 1) := by decide +kernel
theorem dX8_coresOf_31 : decode cX8_coresOf 31 = .ok (.iload 4, 2) := by decide +kernel
theorem dX8_coresOf_33 : decode cX8_coresOf 33 = .ok (.iconst 4, 1) := by decide +kernel
theorem dX8_coresOf_34 : decode cX8_coresOf 34 = .ok (.invokevirtual 62, 3) := by decide +kernel
theorem dX8_coresOf_37 : decode cX8_coresOf 37 = .ok (.ifCond .le 7, 3) := by decide +kernel
theorem dX8_coresOf_40 : decode cX8_coresOf 40 = .ok (.iconst 1, 1) := by decide +kernel
theorem dX8_coresOf_41 : decode cX8_coresOf 41 = .ok (.goto 4, 3) := by decide +kernel
theorem dX8_coresOf_44 : decode cX8_coresOf 44 = .ok (.iconst 0, 1) := by decide +kernel
theorem dX8_coresOf_45 : decode cX8_coresOf 45 = .ok (.iadd, 1) := by decide +kernel
theorem dX8_coresOf_46 : decode cX8_coresOf 46 = .ok (.istore_n 3, 1) := by decide +kernel
theorem dX8_coresOf_47 : decode cX8_coresOf 47 = .ok (.iinc 4 1, 3) := by decide +kernel
theorem dX8_coresOf_50 : decode cX8_coresOf 50 = .ok (.goto (-45), 3) := by decide +kernel
theorem dX8_coresOf_53 : decode cX8_coresOf 53 = .ok (.iload_n 3, 1) := by decide +kernel
theorem dX8_coresOf_54 : decode cX8_coresOf 54 = .ok (.ireturn, 1) := by decide +kernel
theorem dX8_waitsOf_0 : decode cX8_waitsOf 0 = .ok (.iconst 0, 1) := by decide +kernel
theorem dX8_waitsOf_1 : decode cX8_waitsOf 1 = .ok (.istore_n 2, 1) := by decide +kernel
theorem dX8_waitsOf_2 : decode cX8_waitsOf 2 = .ok (.iconst 0, 1) := by decide +kernel
theorem dX8_waitsOf_3 : decode cX8_waitsOf 3 = .ok (.istore_n 3, 1) := by decide +kernel
theorem dX8_waitsOf_4 : decode cX8_waitsOf 4 = .ok (.iload_n 3, 1) := by decide +kernel
theorem dX8_waitsOf_5 : decode cX8_waitsOf 5 = .ok (.aload_n 0, 1) := by decide +kernel
theorem dX8_waitsOf_6 : decode cX8_waitsOf 6 = .ok (.getfield 7, 3) := by decide +kernel
theorem dX8_waitsOf_9 : decode cX8_waitsOf 9 = .ok (.iconst 3, 1) := by decide +kernel
theorem dX8_waitsOf_10 : decode cX8_waitsOf 10 = .ok (.iaload, 1) := by decide +kernel
theorem dX8_waitsOf_11 : decode cX8_waitsOf 11 = .ok (.if_icmp .ge 58, 3) := by decide +kernel
theorem dX8_waitsOf_14 : decode cX8_waitsOf 14 = .ok (.iconst 0, 1) := by decide +kernel
theorem dX8_waitsOf_15 : decode cX8_waitsOf 15 = .ok (.istore 4, 2) := by decide +kernel
theorem dX8_waitsOf_17 : decode cX8_waitsOf 17 = .ok (.iload 4, 2) := by decide +kernel
theorem dX8_waitsOf_19 : decode cX8_waitsOf 19 = .ok (.aload_n 0, 1) := by decide +kernel
theorem dX8_waitsOf_20 : decode cX8_waitsOf 20 = .ok (.iload_n 3, 1) := by decide +kernel
theorem dX8_waitsOf_21 : decode cX8_waitsOf 21 = .ok (.iconst 5, 1) := by decide +kernel
theorem dX8_waitsOf_22 : decode cX8_waitsOf 22 = .ok (.invokevirtual 82, 3) := by decide +kernel
theorem dX8_waitsOf_25 : decode cX8_waitsOf 25 = .ok (.if_icmp .ge 38, 3) := by decide +kernel
theorem dX8_waitsOf_28 : decode cX8_waitsOf 28 = .ok (.iload_n 2, 1) := by decide +kernel
theorem dX8_waitsOf_29 : decode cX8_waitsOf 29 = .ok (.aload_n 0, 1) := by decide +kernel
theorem dX8_waitsOf_30 : decode cX8_waitsOf 30 = .ok (.getfield 7, 3) := by decide +kernel
theorem dX8_waitsOf_33 : decode cX8_waitsOf 33 = .ok (.sipush 635, 3) := by decide +kernel
theorem dX8_waitsOf_36 : decode cX8_waitsOf 36 = .ok (.sipush 520, 3) := by decide +kernel
theorem dX8_waitsOf_39 : decode cX8_waitsOf 39 = .ok (.iload_n 3, 1) := by decide +kernel
theorem dX8_waitsOf_40 : decode cX8_waitsOf 40 = .ok (.imul, 1) := by decide +kernel
theorem dX8_waitsOf_41 : decode cX8_waitsOf 41 = .ok (.iadd, 1) := by decide +kernel
theorem dX8_waitsOf_42 : decode cX8_waitsOf 42 = .ok (.iload 4, 2) := by decide +kernel
theorem dX8_waitsOf_44 : decode cX8_waitsOf 44 = .ok (.iadd, 1) := by decide +kernel
theorem dX8_waitsOf_45 : decode cX8_waitsOf 45 = .ok (.iaload, 1) := by decide +kernel
theorem dX8_waitsOf_46 : decode cX8_waitsOf 46 = .ok (.iload_n 1, 1) := by decide +kernel
theorem dX8_waitsOf_47 : decode cX8_waitsOf 47 = .ok (.if_icmp .ne 7, 3) := by decide +kernel
theorem dX8_waitsOf_50 : decode cX8_waitsOf 50 = .ok (.iconst 1, 1) := by decide +kernel
theorem dX8_waitsOf_51 : decode cX8_waitsOf 51 = .ok (.goto 4, 3) := by decide +kernel
theorem dX8_waitsOf_54 : decode cX8_waitsOf 54 = .ok (.iconst 0, 1) := by decide +kernel
theorem dX8_waitsOf_55 : decode cX8_waitsOf 55 = .ok (.iadd, 1) := by decide +kernel
theorem dX8_waitsOf_56 : decode cX8_waitsOf 56 = .ok (.istore_n 2, 1) := by decide +kernel
theorem dX8_waitsOf_57 : decode cX8_waitsOf 57 = .ok (.iinc 4 1, 3) := by decide +kernel
theorem dX8_waitsOf_60 : decode cX8_waitsOf 60 = .ok (.goto (-43), 3) := by decide +kernel
theorem dX8_waitsOf_63 : decode cX8_waitsOf 63 = .ok (.iinc 3 1, 3) := by decide +kernel
theorem dX8_waitsOf_66 : decode cX8_waitsOf 66 = .ok (.goto (-62), 3) := by decide +kernel
theorem dX8_waitsOf_69 : decode cX8_waitsOf 69 = .ok (.iload_n 2, 1) := by decide +kernel
theorem dX8_waitsOf_70 : decode cX8_waitsOf 70 = .ok (.ireturn, 1) := by decide +kernel
theorem dX8_tenantNow_0 : decode cX8_tenantNow 0 = .ok (.iload_n 2, 1) := by decide +kernel
theorem dX8_tenantNow_1 : decode cX8_tenantNow 1 = .ok (.tableswitch 70 0 4 #[35, 42, 49, 56, 63], 35) := by decide +kernel
theorem dX8_tenantNow_36 : decode cX8_tenantNow 36 = .ok (.aload_n 0, 1) := by decide +kernel
theorem dX8_tenantNow_37 : decode cX8_tenantNow 37 = .ok (.iload_n 1, 1) := by decide +kernel
theorem dX8_tenantNow_38 : decode cX8_tenantNow 38 = .ok (.iconst 0, 1) := by decide +kernel
theorem dX8_tenantNow_39 : decode cX8_tenantNow 39 = .ok (.invokevirtual 79, 3) := by decide +kernel
theorem dX8_tenantNow_42 : decode cX8_tenantNow 42 = .ok (.ireturn, 1) := by decide +kernel
theorem dX8_tenantNow_43 : decode cX8_tenantNow 43 = .ok (.aload_n 0, 1) := by decide +kernel
theorem dX8_tenantNow_44 : decode cX8_tenantNow 44 = .ok (.iload_n 1, 1) := by decide +kernel
theorem dX8_tenantNow_45 : decode cX8_tenantNow 45 = .ok (.iconst 0, 1) := by decide +kernel
theorem dX8_tenantNow_46 : decode cX8_tenantNow 46 = .ok (.invokevirtual 195, 3) := by decide +kernel
theorem dX8_tenantNow_49 : decode cX8_tenantNow 49 = .ok (.ireturn, 1) := by decide +kernel
theorem dX8_tenantNow_50 : decode cX8_tenantNow 50 = .ok (.aload_n 0, 1) := by decide +kernel
theorem dX8_tenantNow_51 : decode cX8_tenantNow 51 = .ok (.iload_n 1, 1) := by decide +kernel
theorem dX8_tenantNow_52 : decode cX8_tenantNow 52 = .ok (.iconst 1, 1) := by decide +kernel
theorem dX8_tenantNow_53 : decode cX8_tenantNow 53 = .ok (.invokevirtual 195, 3) := by decide +kernel
theorem dX8_tenantNow_56 : decode cX8_tenantNow 56 = .ok (.ireturn, 1) := by decide +kernel
theorem dX8_tenantNow_57 : decode cX8_tenantNow 57 = .ok (.aload_n 0, 1) := by decide +kernel
theorem dX8_tenantNow_58 : decode cX8_tenantNow 58 = .ok (.iload_n 1, 1) := by decide +kernel
theorem dX8_tenantNow_59 : decode cX8_tenantNow 59 = .ok (.iconst 1, 1) := by decide +kernel
theorem dX8_tenantNow_60 : decode cX8_tenantNow 60 = .ok (.invokevirtual 79, 3) := by decide +kernel
theorem dX8_tenantNow_63 : decode cX8_tenantNow 63 = .ok (.ireturn, 1) := by decide +kernel
theorem dX8_tenantNow_64 : decode cX8_tenantNow 64 = .ok (.aload_n 0, 1) := by decide +kernel
theorem dX8_tenantNow_65 : decode cX8_tenantNow 65 = .ok (.iload_n 1, 1) := by decide +kernel
theorem dX8_tenantNow_66 : decode cX8_tenantNow 66 = .ok (.iconst 2, 1) := by decide +kernel
theorem dX8_tenantNow_67 : decode cX8_tenantNow 67 = .ok (.invokevirtual 79, 3) := by decide +kernel
theorem dX8_tenantNow_70 : decode cX8_tenantNow 70 = .ok (.ireturn, 1) := by decide +kernel
theorem dX8_tenantNow_71 : decode cX8_tenantNow 71 = .ok (.aload_n 0, 1) := by decide +kernel
theorem dX8_tenantNow_72 : decode cX8_tenantNow 72 = .ok (.iload_n 1, 1) := by decide +kernel
theorem dX8_tenantNow_73 : decode cX8_tenantNow 73 = .ok (.invokevirtual 199, 3) := by decide +kernel
theorem dX8_tenantNow_76 : decode cX8_tenantNow 76 = .ok (.ireturn, 1) := by decide +kernel
theorem dX8_tenant_0 : decode cX8_tenant 0 = .ok (.aload_n 0, 1) := by decide +kernel
theorem dX8_tenant_1 : decode cX8_tenant 1 = .ok (.iconst 0, 1) := by decide +kernel
theorem dX8_tenant_2 : decode cX8_tenant 2 = .ok (.putfield 38, 3) := by decide +kernel
theorem dX8_tenant_5 : decode cX8_tenant 5 = .ok (.aload_n 0, 1) := by decide +kernel
theorem dX8_tenant_6 : decode cX8_tenant 6 = .ok (.iload_n 1, 1) := by decide +kernel
theorem dX8_tenant_7 : decode cX8_tenant 7 = .ok (.invokevirtual 70, 3) := by decide +kernel
theorem dX8_tenant_10 : decode cX8_tenant 10 = .ok (.ifCond .ne 9, 3) := by decide +kernel
theorem dX8_tenant_13 : decode cX8_tenant 13 = .ok (.aload_n 0, 1) := by decide +kernel
theorem dX8_tenant_14 : decode cX8_tenant 14 = .ok (.iconst 1, 1) := by decide +kernel
theorem dX8_tenant_15 : decode cX8_tenant 15 = .ok (.invokevirtual 49, 3) := by decide +kernel
theorem dX8_tenant_18 : decode cX8_tenant 18 = .ok (.ireturn, 1) := by decide +kernel
theorem dX8_tenant_19 : decode cX8_tenant 19 = .ok (.iload_n 2, 1) := by decide +kernel
theorem dX8_tenant_20 : decode cX8_tenant 20 = .ok (.iconst 0, 1) := by decide +kernel
theorem dX8_tenant_21 : decode cX8_tenant 21 = .ok (.iconst 5, 1) := by decide +kernel
theorem dX8_tenant_22 : decode cX8_tenant 22 = .ok (.invokestatic 42, 3) := by decide +kernel
theorem dX8_tenant_25 : decode cX8_tenant 25 = .ok (.ifCond .eq 12, 3) := by decide +kernel
theorem dX8_tenant_28 : decode cX8_tenant 28 = .ok (.aload_n 0, 1) := by decide +kernel
theorem dX8_tenant_29 : decode cX8_tenant 29 = .ok (.iload_n 1, 1) := by decide +kernel
theorem dX8_tenant_30 : decode cX8_tenant 30 = .ok (.iload_n 2, 1) := by decide +kernel
theorem dX8_tenant_31 : decode cX8_tenant 31 = .ok (.invokevirtual 202, 3) := by decide +kernel
theorem dX8_tenant_34 : decode cX8_tenant 34 = .ok (.goto 8, 3) := by decide +kernel
theorem dX8_tenant_37 : decode cX8_tenant 37 = .ok (.aload_n 0, 1) := by decide +kernel
theorem dX8_tenant_38 : decode cX8_tenant 38 = .ok (.iconst 2, 1) := by decide +kernel
theorem dX8_tenant_39 : decode cX8_tenant 39 = .ok (.invokevirtual 49, 3) := by decide +kernel
theorem dX8_tenant_42 : decode cX8_tenant 42 = .ok (.ireturn, 1) := by decide +kernel
theorem dX8_policiesOf_0 : decode cX8_policiesOf 0 = .ok (.iconst 0, 1) := by decide +kernel
theorem dX8_policiesOf_1 : decode cX8_policiesOf 1 = .ok (.istore_n 2, 1) := by decide +kernel
theorem dX8_policiesOf_2 : decode cX8_policiesOf 2 = .ok (.iconst 0, 1) := by decide +kernel
theorem dX8_policiesOf_3 : decode cX8_policiesOf 3 = .ok (.istore_n 3, 1) := by decide +kernel
theorem dX8_policiesOf_4 : decode cX8_policiesOf 4 = .ok (.iload_n 3, 1) := by decide +kernel
theorem dX8_policiesOf_5 : decode cX8_policiesOf 5 = .ok (.bipush 64, 2) := by decide +kernel
theorem dX8_policiesOf_7 : decode cX8_policiesOf 7 = .ok (.if_icmp .ge 29, 3) := by decide +kernel
theorem dX8_policiesOf_10 : decode cX8_policiesOf 10 = .ok (.iload_n 2, 1) := by decide +kernel
theorem dX8_policiesOf_11 : decode cX8_policiesOf 11 = .ok (.aload_n 0, 1) := by decide +kernel
theorem dX8_policiesOf_12 : decode cX8_policiesOf 12 = .ok (.iload_n 3, 1) := by decide +kernel
theorem dX8_policiesOf_13 : decode cX8_policiesOf 13 = .ok (.iconst 4, 1) := by decide +kernel
theorem dX8_policiesOf_14 : decode cX8_policiesOf 14 = .ok (.invokevirtual 62, 3) := by decide +kernel
theorem dX8_policiesOf_17 : decode cX8_policiesOf 17 = .ok (.iload_n 1, 1) := by decide +kernel
theorem dX8_policiesOf_18 : decode cX8_policiesOf 18 = .ok (.iconst 1, 1) := by decide +kernel
theorem dX8_policiesOf_19 : decode cX8_policiesOf 19 = .ok (.iadd, 1) := by decide +kernel
theorem dX8_policiesOf_20 : decode cX8_policiesOf 20 = .ok (.if_icmp .ne 7, 3) := by decide +kernel
theorem dX8_policiesOf_23 : decode cX8_policiesOf 23 = .ok (.iconst 1, 1) := by decide +kernel
theorem dX8_policiesOf_24 : decode cX8_policiesOf 24 = .ok (.goto 4, 3) := by decide +kernel
theorem dX8_policiesOf_27 : decode cX8_policiesOf 27 = .ok (.iconst 0, 1) := by decide +kernel
theorem dX8_policiesOf_28 : decode cX8_policiesOf 28 = .ok (.iadd, 1) := by decide +kernel
theorem dX8_policiesOf_29 : decode cX8_policiesOf 29 = .ok (.istore_n 2, 1) := by decide +kernel
theorem dX8_policiesOf_30 : decode cX8_policiesOf 30 = .ok (.iinc 3 1, 3) := by decide +kernel
theorem dX8_policiesOf_33 : decode cX8_policiesOf 33 = .ok (.goto (-29), 3) := by decide +kernel
theorem dX8_policiesOf_36 : decode cX8_policiesOf 36 = .ok (.iload_n 2, 1) := by decide +kernel
theorem dX8_policiesOf_37 : decode cX8_policiesOf 37 = .ok (.ireturn, 1) := by decide +kernel
theorem dX8_insurerNow_0 : decode cX8_insurerNow 0 = .ok (.iload_n 2, 1) := by decide +kernel
theorem dX8_insurerNow_1 : decode cX8_insurerNow 1 = .ok (.tableswitch 66 0 5 #[39, 39, 39, 46, 52, 59], 39) := by decide +kernel
theorem dX8_insurerNow_40 : decode cX8_insurerNow 40 = .ok (.aload_n 0, 1) := by decide +kernel
theorem dX8_insurerNow_41 : decode cX8_insurerNow 41 = .ok (.iload_n 1, 1) := by decide +kernel
theorem dX8_insurerNow_42 : decode cX8_insurerNow 42 = .ok (.iload_n 2, 1) := by decide +kernel
theorem dX8_insurerNow_43 : decode cX8_insurerNow 43 = .ok (.invokevirtual 82, 3) := by decide +kernel
theorem dX8_insurerNow_46 : decode cX8_insurerNow 46 = .ok (.ireturn, 1) := by decide +kernel
theorem dX8_insurerNow_47 : decode cX8_insurerNow 47 = .ok (.aload_n 0, 1) := by decide +kernel
theorem dX8_insurerNow_48 : decode cX8_insurerNow 48 = .ok (.iload_n 1, 1) := by decide +kernel
theorem dX8_insurerNow_49 : decode cX8_insurerNow 49 = .ok (.invokevirtual 205, 3) := by decide +kernel
theorem dX8_insurerNow_52 : decode cX8_insurerNow 52 = .ok (.ireturn, 1) := by decide +kernel
theorem dX8_insurerNow_53 : decode cX8_insurerNow 53 = .ok (.aload_n 0, 1) := by decide +kernel
theorem dX8_insurerNow_54 : decode cX8_insurerNow 54 = .ok (.iload_n 1, 1) := by decide +kernel
theorem dX8_insurerNow_55 : decode cX8_insurerNow 55 = .ok (.iconst 3, 1) := by decide +kernel
theorem dX8_insurerNow_56 : decode cX8_insurerNow 56 = .ok (.invokevirtual 82, 3) := by decide +kernel
theorem dX8_insurerNow_59 : decode cX8_insurerNow 59 = .ok (.ireturn, 1) := by decide +kernel
theorem dX8_insurerNow_60 : decode cX8_insurerNow 60 = .ok (.aload_n 0, 1) := by decide +kernel
theorem dX8_insurerNow_61 : decode cX8_insurerNow 61 = .ok (.iload_n 1, 1) := by decide +kernel
theorem dX8_insurerNow_62 : decode cX8_insurerNow 62 = .ok (.iconst 5, 1) := by decide +kernel
theorem dX8_insurerNow_63 : decode cX8_insurerNow 63 = .ok (.invokevirtual 82, 3) := by decide +kernel
theorem dX8_insurerNow_66 : decode cX8_insurerNow 66 = .ok (.ireturn, 1) := by decide +kernel
theorem dX8_insurerNow_67 : decode cX8_insurerNow 67 = .ok (.aload_n 0, 1) := by decide +kernel
theorem dX8_insurerNow_68 : decode cX8_insurerNow 68 = .ok (.iload_n 1, 1) := by decide +kernel
theorem dX8_insurerNow_69 : decode cX8_insurerNow 69 = .ok (.iconst 4, 1) := by decide +kernel
theorem dX8_insurerNow_70 : decode cX8_insurerNow 70 = .ok (.invokevirtual 82, 3) := by decide +kernel
theorem dX8_insurerNow_73 : decode cX8_insurerNow 73 = .ok (.ireturn, 1) := by decide +kernel
theorem dX8_insurer_0 : decode cX8_insurer 0 = .ok (.aload_n 0, 1) := by decide +kernel
theorem dX8_insurer_1 : decode cX8_insurer 1 = .ok (.iconst 0, 1) := by decide +kernel
theorem dX8_insurer_2 : decode cX8_insurer 2 = .ok (.putfield 38, 3) := by decide +kernel
theorem dX8_insurer_5 : decode cX8_insurer 5 = .ok (.aload_n 0, 1) := by decide +kernel
theorem dX8_insurer_6 : decode cX8_insurer 6 = .ok (.iload_n 1, 1) := by decide +kernel
theorem dX8_insurer_7 : decode cX8_insurer 7 = .ok (.invokevirtual 89, 3) := by decide +kernel
theorem dX8_insurer_10 : decode cX8_insurer 10 = .ok (.ifCond .ne 9, 3) := by decide +kernel
theorem dX8_insurer_13 : decode cX8_insurer 13 = .ok (.aload_n 0, 1) := by decide +kernel
theorem dX8_insurer_14 : decode cX8_insurer 14 = .ok (.iconst 1, 1) := by decide +kernel
theorem dX8_insurer_15 : decode cX8_insurer 15 = .ok (.invokevirtual 49, 3) := by decide +kernel
theorem dX8_insurer_18 : decode cX8_insurer 18 = .ok (.ireturn, 1) := by decide +kernel
theorem dX8_insurer_19 : decode cX8_insurer 19 = .ok (.iload_n 2, 1) := by decide +kernel
theorem dX8_insurer_20 : decode cX8_insurer 20 = .ok (.iconst 0, 1) := by decide +kernel
theorem dX8_insurer_21 : decode cX8_insurer 21 = .ok (.bipush 6, 2) := by decide +kernel
theorem dX8_insurer_23 : decode cX8_insurer 23 = .ok (.invokestatic 42, 3) := by decide +kernel
theorem dX8_insurer_26 : decode cX8_insurer 26 = .ok (.ifCond .eq 12, 3) := by decide +kernel
theorem dX8_insurer_29 : decode cX8_insurer 29 = .ok (.aload_n 0, 1) := by decide +kernel
theorem dX8_insurer_30 : decode cX8_insurer 30 = .ok (.iload_n 1, 1) := by decide +kernel
theorem dX8_insurer_31 : decode cX8_insurer 31 = .ok (.iload_n 2, 1) := by decide +kernel
theorem dX8_insurer_32 : decode cX8_insurer 32 = .ok (.invokevirtual 208, 3) := by decide +kernel
theorem dX8_insurer_35 : decode cX8_insurer 35 = .ok (.goto 8, 3) := by decide +kernel
theorem dX8_insurer_38 : decode cX8_insurer 38 = .ok (.aload_n 0, 1) := by decide +kernel
theorem dX8_insurer_39 : decode cX8_insurer 39 = .ok (.iconst 2, 1) := by decide +kernel
theorem dX8_insurer_40 : decode cX8_insurer 40 = .ok (.invokevirtual 49, 3) := by decide +kernel
theorem dX8_insurer_43 : decode cX8_insurer 43 = .ok (.ireturn, 1) := by decide +kernel
theorem dX8_owed_0 : decode cX8_owed 0 = .ok (.aload_n 0, 1) := by decide +kernel
theorem dX8_owed_1 : decode cX8_owed 1 = .ok (.iconst 0, 1) := by decide +kernel
theorem dX8_owed_2 : decode cX8_owed 2 = .ok (.putfield 38, 3) := by decide +kernel
theorem dX8_owed_5 : decode cX8_owed 5 = .ok (.iload_n 1, 1) := by decide +kernel
theorem dX8_owed_6 : decode cX8_owed 6 = .ok (.iconst 0, 1) := by decide +kernel
theorem dX8_owed_7 : decode cX8_owed 7 = .ok (.bipush 63, 2) := by decide +kernel
theorem dX8_owed_9 : decode cX8_owed 9 = .ok (.invokestatic 42, 3) := by decide +kernel
theorem dX8_owed_12 : decode cX8_owed 12 = .ok (.ifCond .eq 12, 3) := by decide +kernel
theorem dX8_owed_15 : decode cX8_owed 15 = .ok (.iload_n 2, 1) := by decide +kernel
theorem dX8_owed_16 : decode cX8_owed 16 = .ok (.iconst 0, 1) := by decide +kernel
theorem dX8_owed_17 : decode cX8_owed 17 = .ok (.iconst 1, 1) := by decide +kernel
theorem dX8_owed_18 : decode cX8_owed 18 = .ok (.invokestatic 42, 3) := by decide +kernel
theorem dX8_owed_21 : decode cX8_owed 21 = .ok (.ifCond .ne 9, 3) := by decide +kernel
theorem dX8_owed_24 : decode cX8_owed 24 = .ok (.aload_n 0, 1) := by decide +kernel
theorem dX8_owed_25 : decode cX8_owed 25 = .ok (.iconst 1, 1) := by decide +kernel
theorem dX8_owed_26 : decode cX8_owed 26 = .ok (.invokevirtual 49, 3) := by decide +kernel
theorem dX8_owed_29 : decode cX8_owed 29 = .ok (.ireturn, 1) := by decide +kernel
theorem dX8_owed_30 : decode cX8_owed 30 = .ok (.iload_n 1, 1) := by decide +kernel
theorem dX8_owed_31 : decode cX8_owed 31 = .ok (.aload_n 0, 1) := by decide +kernel
theorem dX8_owed_32 : decode cX8_owed 32 = .ok (.invokevirtual 141, 3) := by decide +kernel
theorem dX8_owed_35 : decode cX8_owed 35 = .ok (.if_icmp .lt 5, 3) := by decide +kernel
theorem dX8_owed_38 : decode cX8_owed 38 = .ok (.iconst (-1), 1) := by decide +kernel
theorem dX8_owed_39 : decode cX8_owed 39 = .ok (.ireturn, 1) := by decide +kernel
theorem dX8_owed_40 : decode cX8_owed 40 = .ok (.iload_n 2, 1) := by decide +kernel
theorem dX8_owed_41 : decode cX8_owed 41 = .ok (.ifCond .ne 12, 3) := by decide +kernel
theorem dX8_owed_44 : decode cX8_owed 44 = .ok (.aload_n 0, 1) := by decide +kernel
theorem dX8_owed_45 : decode cX8_owed 45 = .ok (.getfield 31, 3) := by decide +kernel
theorem dX8_owed_48 : decode cX8_owed 48 = .ok (.iload_n 1, 1) := by decide +kernel
theorem dX8_owed_49 : decode cX8_owed 49 = .ok (.iaload, 1) := by decide +kernel
theorem dX8_owed_50 : decode cX8_owed 50 = .ok (.goto 17, 3) := by decide +kernel
theorem dX8_owed_53 : decode cX8_owed 53 = .ok (.aload_n 0, 1) := by decide +kernel
theorem dX8_owed_54 : decode cX8_owed 54 = .ok (.aload_n 0, 1) := by decide +kernel
theorem dX8_owed_55 : decode cX8_owed 55 = .ok (.getfield 31, 3) := by decide +kernel
theorem dX8_owed_58 : decode cX8_owed 58 = .ok (.iload_n 1, 1) := by decide +kernel
theorem dX8_owed_59 : decode cX8_owed 59 = .ok (.iaload, 1) := by decide +kernel
theorem dX8_owed_60 : decode cX8_owed 60 = .ok (.bipush 6, 2) := by decide +kernel
theorem dX8_owed_62 : decode cX8_owed 62 = .ok (.invokevirtual 62, 3) := by decide +kernel
theorem dX8_owed_65 : decode cX8_owed 65 = .ok (.iconst 1, 1) := by decide +kernel
theorem dX8_owed_66 : decode cX8_owed 66 = .ok (.isub, 1) := by decide +kernel
theorem dX8_owed_67 : decode cX8_owed 67 = .ok (.ireturn, 1) := by decide +kernel
theorem dX8_weakestAt_0 : decode cX8_weakestAt 0 = .ok (.iconst 0, 1) := by decide +kernel
theorem dX8_weakestAt_1 : decode cX8_weakestAt 1 = .ok (.istore_n 2, 1) := by decide +kernel
theorem dX8_weakestAt_2 : decode cX8_weakestAt 2 = .ok (.iload_n 2, 1) := by decide +kernel
theorem dX8_weakestAt_3 : decode cX8_weakestAt 3 = .ok (.bipush 64, 2) := by decide +kernel
theorem dX8_weakestAt_5 : decode cX8_weakestAt 5 = .ok (.if_icmp .ge 92, 3) := by decide +kernel
theorem dX8_weakestAt_8 : decode cX8_weakestAt 8 = .ok (.iconst 0, 1) := by decide +kernel
theorem dX8_weakestAt_9 : decode cX8_weakestAt 9 = .ok (.istore_n 3, 1) := by decide +kernel
theorem dX8_weakestAt_10 : decode cX8_weakestAt 10 = .ok (.iconst 0, 1) := by decide +kernel
theorem dX8_weakestAt_11 : decode cX8_weakestAt 11 = .ok (.istore 4, 2) := by decide +kernel
theorem dX8_weakestAt_13 : decode cX8_weakestAt 13 = .ok (.iload 4, 2) := by decide +kernel
theorem dX8_weakestAt_15 : decode cX8_weakestAt 15 = .ok (.bipush 64, 2) := by decide +kernel
theorem dX8_weakestAt_17 : decode cX8_weakestAt 17 = .ok (.if_icmp .ge 67, 3) := by decide +kernel
theorem dX8_weakestAt_20 : decode cX8_weakestAt 20 = .ok (.aload_n 0, 1) := by decide +kernel
theorem dX8_weakestAt_21 : decode cX8_weakestAt 21 = .ok (.iload 4, 2) := by decide +kernel
theorem dX8_weakestAt_23 : decode cX8_weakestAt 23 = .ok (.iconst 1, 1) := by decide +kernel
theorem dX8_weakestAt_24 : decode cX8_weakestAt 24 = .ok (.invokevirtual 62, 3) := by decide +kernel
theorem dX8_weakestAt_27 : decode cX8_weakestAt 27 = .ok (.aload_n 0, 1) := by decide +kernel
theorem dX8_weakestAt_28 : decode cX8_weakestAt 28 = .ok (.iload_n 2, 1) := by decide +kernel
theorem dX8_weakestAt_29 : decode cX8_weakestAt 29 = .ok (.iconst 1, 1) := by decide +kernel
theorem dX8_weakestAt_30 : decode cX8_weakestAt 30 = .ok (.invokevirtual 62, 3) := by decide +kernel
theorem dX8_weakestAt_33 : decode cX8_weakestAt 33 = .ok (.if_icmp .ge 7, 3) := by decide +kernel
theorem dX8_weakestAt_36 : decode cX8_weakestAt 36 = .ok (.iconst 1, 1) := by decide +kernel
theorem dX8_weakestAt_37 : decode cX8_weakestAt 37 = .ok (.goto 4, 3) := by decide +kernel
theorem dX8_weakestAt_40 : decode cX8_weakestAt 40 = .ok (.iconst 0, 1) := by decide +kernel
theorem dX8_weakestAt_41 : decode cX8_weakestAt 41 = .ok (.istore 5, 2) := by decide +kernel
theorem dX8_weakestAt_43 : decode cX8_weakestAt 43 = .ok (.iload_n 3, 1) := by decide +kernel
theorem dX8_weakestAt_44 : decode cX8_weakestAt 44 = .ok (.iload 5, 2) := by decide +kernel
theorem dX8_weakestAt_46 : decode cX8_weakestAt 46 = .ok (.ifCond .ne 25, 3) := by decide +kernel
theorem dX8_weakestAt_49 : decode cX8_weakestAt 49 = .ok (.aload_n 0, 1) := by decide +kernel
theorem dX8_weakestAt_50 : decode cX8_weakestAt 50 = .ok (.iload 4, 2) := by decide +kernel
theorem dX8_weakestAt_52 : decode cX8_weakestAt 52 = .ok (.iconst 1, 1) := by decide +kernel
theorem dX8_weakestAt_53 : decode cX8_weakestAt 53 = .ok (.invokevirtual 62, 3) := by decide +kernel
theorem dX8_weakestAt_56 : decode cX8_weakestAt 56 = .ok (.aload_n 0, 1) := by decide +kernel
theorem dX8_weakestAt_57 : decode cX8_weakestAt 57 = .ok (.iload_n 2, 1) := by decide +kernel
theorem dX8_weakestAt_58 : decode cX8_weakestAt 58 = .ok (.iconst 1, 1) := by decide +kernel
theorem dX8_weakestAt_59 : decode cX8_weakestAt 59 = .ok (.invokevirtual 62, 3) := by decide +kernel
theorem dX8_weakestAt_62 : decode cX8_weakestAt 62 = .ok (.if_icmp .ne 13, 3) := by decide +kernel
theorem dX8_weakestAt_65 : decode cX8_weakestAt 65 = .ok (.iload 4, 2) := by decide +kernel
theorem dX8_weakestAt_67 : decode cX8_weakestAt 67 = .ok (.iload_n 2, 1) := by decide +kernel
theorem dX8_weakestAt_68 : decode cX8_weakestAt 68 = .ok (.if_icmp .ge 7, 3) := by decide +kernel
theorem dX8_weakestAt_71 : decode cX8_weakestAt 71 = .ok (.iconst 1, 1) := by decide +kernel
theorem dX8_weakestAt_72 : decode cX8_weakestAt 72 = .ok (.goto 4, 3) := by decide +kernel
theorem dX8_weakestAt_75 : decode cX8_weakestAt 75 = .ok (.iconst 0, 1) := by decide +kernel
theorem dX8_weakestAt_76 : decode cX8_weakestAt 76 = .ok (.iadd, 1) := by decide +kernel
theorem dX8_weakestAt_77 : decode cX8_weakestAt 77 = .ok (.istore_n 3, 1) := by decide +kernel
theorem dX8_weakestAt_78 : decode cX8_weakestAt 78 = .ok (.iinc 4 1, 3) := by decide +kernel
theorem dX8_weakestAt_81 : decode cX8_weakestAt 81 = .ok (.goto (-68), 3) := by decide +kernel
theorem dX8_weakestAt_84 : decode cX8_weakestAt 84 = .ok (.iload_n 3, 1) := by decide +kernel
theorem dX8_weakestAt_85 : decode cX8_weakestAt 85 = .ok (.iload_n 1, 1) := by decide +kernel
theorem dX8_weakestAt_86 : decode cX8_weakestAt 86 = .ok (.if_icmp .ne 5, 3) := by decide +kernel
theorem dX8_weakestAt_89 : decode cX8_weakestAt 89 = .ok (.iload_n 2, 1) := by decide +kernel
theorem dX8_weakestAt_90 : decode cX8_weakestAt 90 = .ok (.ireturn, 1) := by decide +kernel
theorem dX8_weakestAt_91 : decode cX8_weakestAt 91 = .ok (.iinc 2 1, 3) := by decide +kernel
theorem dX8_weakestAt_94 : decode cX8_weakestAt 94 = .ok (.goto (-92), 3) := by decide +kernel
theorem dX8_weakestAt_97 : decode cX8_weakestAt 97 = .ok (.iconst (-1), 1) := by decide +kernel
theorem dX8_weakestAt_98 : decode cX8_weakestAt 98 = .ok (.ireturn, 1) := by decide +kernel
theorem dX8_weakest_0 : decode cX8_weakest 0 = .ok (.aload_n 0, 1) := by decide +kernel
theorem dX8_weakest_1 : decode cX8_weakest 1 = .ok (.iconst 0, 1) := by decide +kernel
theorem dX8_weakest_2 : decode cX8_weakest 2 = .ok (.putfield 38, 3) := by decide +kernel
theorem dX8_weakest_5 : decode cX8_weakest 5 = .ok (.iload_n 1, 1) := by decide +kernel
theorem dX8_weakest_6 : decode cX8_weakest 6 = .ok (.invokestatic 66, 3) := by decide +kernel
theorem dX8_weakest_9 : decode cX8_weakest 9 = .ok (.ifCond .eq 11, 3) := by decide +kernel
theorem dX8_weakest_12 : decode cX8_weakest 12 = .ok (.aload_n 0, 1) := by decide +kernel
theorem dX8_weakest_13 : decode cX8_weakest 13 = .ok (.iload_n 1, 1) := by decide +kernel
theorem dX8_weakest_14 : decode cX8_weakest 14 = .ok (.invokevirtual 211, 3) := by decide +kernel
theorem dX8_weakest_17 : decode cX8_weakest 17 = .ok (.goto 8, 3) := by decide +kernel
theorem dX8_weakest_20 : decode cX8_weakest 20 = .ok (.aload_n 0, 1) := by decide +kernel
theorem dX8_weakest_21 : decode cX8_weakest 21 = .ok (.iconst 1, 1) := by decide +kernel
theorem dX8_weakest_22 : decode cX8_weakest 22 = .ok (.invokevirtual 49, 3) := by decide +kernel
theorem dX8_weakest_25 : decode cX8_weakest 25 = .ok (.ireturn, 1) := by decide +kernel
theorem dX8_coresWith_0 : decode cX8_coresWith 0 = .ok (.iconst 0, 1) := by decide +kernel
theorem dX8_coresWith_1 : decode cX8_coresWith 1 = .ok (.istore_n 2, 1) := by decide +kernel
theorem dX8_coresWith_2 : decode cX8_coresWith 2 = .ok (.iconst 0, 1) := by decide +kernel
theorem dX8_coresWith_3 : decode cX8_coresWith 3 = .ok (.istore_n 3, 1) := by decide +kernel
theorem dX8_coresWith_4 : decode cX8_coresWith 4 = .ok (.iload_n 3, 1) := by decide +kernel
theorem dX8_coresWith_5 : decode cX8_coresWith 5 = .ok (.bipush 64, 2) := by decide +kernel
theorem dX8_coresWith_7 : decode cX8_coresWith 7 = .ok (.if_icmp .ge 26, 3) := by decide +kernel
theorem dX8_coresWith_10 : decode cX8_coresWith 10 = .ok (.iload_n 2, 1) := by decide +kernel
theorem dX8_coresWith_11 : decode cX8_coresWith 11 = .ok (.aload_n 0, 1) := by decide +kernel
theorem dX8_coresWith_12 : decode cX8_coresWith 12 = .ok (.iload_n 3, 1) := by decide +kernel
theorem dX8_coresWith_13 : decode cX8_coresWith 13 = .ok (.iload_n 1, 1) := by decide +kernel
theorem dX8_coresWith_14 : decode cX8_coresWith 14 = .ok (.invokevirtual 62, 3) := by decide +kernel
theorem dX8_coresWith_17 : decode cX8_coresWith 17 = .ok (.ifCond .le 7, 3) := by decide +kernel
theorem dX8_coresWith_20 : decode cX8_coresWith 20 = .ok (.iconst 1, 1) := by decide +kernel
theorem dX8_coresWith_21 : decode cX8_coresWith 21 = .ok (.goto 4, 3) := by decide +kernel
theorem dX8_coresWith_24 : decode cX8_coresWith 24 = .ok (.iconst 0, 1) := by decide +kernel
theorem dX8_coresWith_25 : decode cX8_coresWith 25 = .ok (.iadd, 1) := by decide +kernel
theorem dX8_coresWith_26 : decode cX8_coresWith 26 = .ok (.istore_n 2, 1) := by decide +kernel
theorem dX8_coresWith_27 : decode cX8_coresWith 27 = .ok (.iinc 3 1, 3) := by decide +kernel
theorem dX8_coresWith_30 : decode cX8_coresWith 30 = .ok (.goto (-26), 3) := by decide +kernel
theorem dX8_coresWith_33 : decode cX8_coresWith 33 = .ok (.iload_n 2, 1) := by decide +kernel
theorem dX8_coresWith_34 : decode cX8_coresWith 34 = .ok (.ireturn, 1) := by decide +kernel
theorem dX8_counted_0 : decode cX8_counted 0 = .ok (.iload_n 1, 1) := by decide +kernel
theorem dX8_counted_1 : decode cX8_counted 1 = .ok (.tableswitch 103 4 18 #[75, 81, 87, 92, 103, 103, 103, 103, 103, 103, 103, 103, 103, 103, 98], 75) := by decide +kernel
theorem dX8_counted_76 : decode cX8_counted 76 = .ok (.aload_n 0, 1) := by decide +kernel
theorem dX8_counted_77 : decode cX8_counted 77 = .ok (.iconst 2, 1) := by decide +kernel
theorem dX8_counted_78 : decode cX8_counted 78 = .ok (.invokevirtual 214, 3) := by decide +kernel
theorem dX8_counted_81 : decode cX8_counted 81 = .ok (.ireturn, 1) := by decide +kernel
theorem dX8_counted_82 : decode cX8_counted 82 = .ok (.aload_n 0, 1) := by decide +kernel
theorem dX8_counted_83 : decode cX8_counted 83 = .ok (.iconst 4, 1) := by decide +kernel
theorem dX8_counted_84 : decode cX8_counted 84 = .ok (.invokevirtual 214, 3) := by decide +kernel
theorem dX8_counted_87 : decode cX8_counted 87 = .ok (.ireturn, 1) := by decide +kernel
theorem dX8_counted_88 : decode cX8_counted 88 = .ok (.aload_n 0, 1) := by decide +kernel
theorem dX8_counted_89 : decode cX8_counted 89 = .ok (.invokevirtual 145, 3) := by decide +kernel
theorem dX8_counted_92 : decode cX8_counted 92 = .ok (.ireturn, 1) := by decide +kernel
theorem dX8_counted_93 : decode cX8_counted 93 = .ok (.aload_n 0, 1) := by decide +kernel
theorem dX8_counted_94 : decode cX8_counted 94 = .ok (.iconst 0, 1) := by decide +kernel
theorem dX8_counted_95 : decode cX8_counted 95 = .ok (.invokevirtual 214, 3) := by decide +kernel
theorem dX8_counted_98 : decode cX8_counted 98 = .ok (.ireturn, 1) := by decide +kernel
theorem dX8_counted_99 : decode cX8_counted 99 = .ok (.aload_n 0, 1) := by decide +kernel
theorem dX8_counted_100 : decode cX8_counted 100 = .ok (.getfield 46, 3) := by decide +kernel
theorem dX8_counted_103 : decode cX8_counted 103 = .ok (.ireturn, 1) := by decide +kernel
theorem dX8_counted_104 : decode cX8_counted 104 = .ok (.iload_n 1, 1) := by decide +kernel
theorem dX8_counted_105 : decode cX8_counted 105 = .ok (.iconst 4, 1) := by decide +kernel
theorem dX8_counted_106 : decode cX8_counted 106 = .ok (.if_icmp .ge 12, 3) := by decide +kernel
theorem dX8_counted_109 : decode cX8_counted 109 = .ok (.aload_n 0, 1) := by decide +kernel
theorem dX8_counted_110 : decode cX8_counted 110 = .ok (.getfield 7, 3) := by decide +kernel
theorem dX8_counted_113 : decode cX8_counted 113 = .ok (.iload_n 1, 1) := by decide +kernel
theorem dX8_counted_114 : decode cX8_counted 114 = .ok (.iaload, 1) := by decide +kernel
theorem dX8_counted_115 : decode cX8_counted 115 = .ok (.goto 11, 3) := by decide +kernel
theorem dX8_counted_118 : decode cX8_counted 118 = .ok (.aload_n 0, 1) := by decide +kernel
theorem dX8_counted_119 : decode cX8_counted 119 = .ok (.getfield 7, 3) := by decide +kernel
theorem dX8_counted_122 : decode cX8_counted 122 = .ok (.iload_n 1, 1) := by decide +kernel
theorem dX8_counted_123 : decode cX8_counted 123 = .ok (.iconst 4, 1) := by decide +kernel
theorem dX8_counted_124 : decode cX8_counted 124 = .ok (.isub, 1) := by decide +kernel
theorem dX8_counted_125 : decode cX8_counted 125 = .ok (.iaload, 1) := by decide +kernel
theorem dX8_counted_126 : decode cX8_counted 126 = .ok (.ireturn, 1) := by decide +kernel
theorem dX8_count_0 : decode cX8_count 0 = .ok (.aload_n 0, 1) := by decide +kernel
theorem dX8_count_1 : decode cX8_count 1 = .ok (.iconst 0, 1) := by decide +kernel
theorem dX8_count_2 : decode cX8_count 2 = .ok (.putfield 38, 3) := by decide +kernel
theorem dX8_count_5 : decode cX8_count 5 = .ok (.iload_n 1, 1) := by decide +kernel
theorem dX8_count_6 : decode cX8_count 6 = .ok (.iconst 0, 1) := by decide +kernel
theorem dX8_count_7 : decode cX8_count 7 = .ok (.bipush 18, 2) := by decide +kernel
theorem dX8_count_9 : decode cX8_count 9 = .ok (.invokestatic 42, 3) := by decide +kernel
theorem dX8_count_12 : decode cX8_count 12 = .ok (.ifCond .eq 11, 3) := by decide +kernel
theorem dX8_count_15 : decode cX8_count 15 = .ok (.aload_n 0, 1) := by decide +kernel
theorem dX8_count_16 : decode cX8_count 16 = .ok (.iload_n 1, 1) := by decide +kernel
theorem dX8_count_17 : decode cX8_count 17 = .ok (.invokevirtual 217, 3) := by decide +kernel
theorem dX8_count_20 : decode cX8_count 20 = .ok (.goto 8, 3) := by decide +kernel
theorem dX8_count_23 : decode cX8_count 23 = .ok (.aload_n 0, 1) := by decide +kernel
theorem dX8_count_24 : decode cX8_count 24 = .ok (.iconst 1, 1) := by decide +kernel
theorem dX8_count_25 : decode cX8_count 25 = .ok (.invokevirtual 49, 3) := by decide +kernel
theorem dX8_count_28 : decode cX8_count 28 = .ok (.ireturn, 1) := by decide +kernel
theorem dX8_setting_0 : decode cX8_setting 0 = .ok (.aload_n 0, 1) := by decide +kernel
theorem dX8_setting_1 : decode cX8_setting 1 = .ok (.iconst 0, 1) := by decide +kernel
theorem dX8_setting_2 : decode cX8_setting 2 = .ok (.putfield 38, 3) := by decide +kernel
theorem dX8_setting_5 : decode cX8_setting 5 = .ok (.iload_n 1, 1) := by decide +kernel
theorem dX8_setting_6 : decode cX8_setting 6 = .ok (.iconst 0, 1) := by decide +kernel
theorem dX8_setting_7 : decode cX8_setting 7 = .ok (.bipush 7, 2) := by decide +kernel
theorem dX8_setting_9 : decode cX8_setting 9 = .ok (.invokestatic 42, 3) := by decide +kernel
theorem dX8_setting_12 : decode cX8_setting 12 = .ok (.ifCond .eq 11, 3) := by decide +kernel
theorem dX8_setting_15 : decode cX8_setting 15 = .ok (.aload_n 0, 1) := by decide +kernel
theorem dX8_setting_16 : decode cX8_setting 16 = .ok (.iload_n 1, 1) := by decide +kernel
theorem dX8_setting_17 : decode cX8_setting 17 = .ok (.invokevirtual 59, 3) := by decide +kernel
theorem dX8_setting_20 : decode cX8_setting 20 = .ok (.goto 8, 3) := by decide +kernel
theorem dX8_setting_23 : decode cX8_setting 23 = .ok (.aload_n 0, 1) := by decide +kernel
theorem dX8_setting_24 : decode cX8_setting 24 = .ok (.iconst 1, 1) := by decide +kernel
theorem dX8_setting_25 : decode cX8_setting 25 = .ok (.invokevirtual 49, 3) := by decide +kernel
theorem dX8_setting_28 : decode cX8_setting 28 = .ok (.ireturn, 1) := by decide +kernel
theorem dX8_premium_0 : decode cX8_premium 0 = .ok (.aload_n 0, 1) := by decide +kernel
theorem dX8_premium_1 : decode cX8_premium 1 = .ok (.iconst 0, 1) := by decide +kernel
theorem dX8_premium_2 : decode cX8_premium 2 = .ok (.putfield 38, 3) := by decide +kernel
theorem dX8_premium_5 : decode cX8_premium 5 = .ok (.iload_n 1, 1) := by decide +kernel
theorem dX8_premium_6 : decode cX8_premium 6 = .ok (.invokestatic 66, 3) := by decide +kernel
theorem dX8_premium_9 : decode cX8_premium 9 = .ok (.ifCond .eq 11, 3) := by decide +kernel
theorem dX8_premium_12 : decode cX8_premium 12 = .ok (.aload_n 0, 1) := by decide +kernel
theorem dX8_premium_13 : decode cX8_premium 13 = .ok (.iload_n 2, 1) := by decide +kernel
theorem dX8_premium_14 : decode cX8_premium 14 = .ok (.invokevirtual 89, 3) := by decide +kernel
theorem dX8_premium_17 : decode cX8_premium 17 = .ok (.ifCond .ne 9, 3) := by decide +kernel
theorem dX8_premium_20 : decode cX8_premium 20 = .ok (.aload_n 0, 1) := by decide +kernel
theorem dX8_premium_21 : decode cX8_premium 21 = .ok (.iconst 1, 1) := by decide +kernel
theorem dX8_premium_22 : decode cX8_premium 22 = .ok (.invokevirtual 49, 3) := by decide +kernel
theorem dX8_premium_25 : decode cX8_premium 25 = .ok (.ireturn, 1) := by decide +kernel
theorem dX8_premium_26 : decode cX8_premium 26 = .ok (.iload_n 3, 1) := by decide +kernel
theorem dX8_premium_27 : decode cX8_premium 27 = .ok (.invokestatic 73, 3) := by decide +kernel
theorem dX8_premium_30 : decode cX8_premium 30 = .ok (.ifCond .eq 13, 3) := by decide +kernel
theorem dX8_premium_33 : decode cX8_premium 33 = .ok (.aload_n 0, 1) := by decide +kernel
theorem dX8_premium_34 : decode cX8_premium 34 = .ok (.iload_n 1, 1) := by decide +kernel
theorem dX8_premium_35 : decode cX8_premium 35 = .ok (.iload_n 2, 1) := by decide +kernel
theorem dX8_premium_36 : decode cX8_premium 36 = .ok (.iload_n 3, 1) := by decide +kernel
theorem dX8_premium_37 : decode cX8_premium 37 = .ok (.invokevirtual 92, 3) := by decide +kernel
theorem dX8_premium_40 : decode cX8_premium 40 = .ok (.goto 8, 3) := by decide +kernel
theorem dX8_premium_43 : decode cX8_premium 43 = .ok (.aload_n 0, 1) := by decide +kernel
theorem dX8_premium_44 : decode cX8_premium 44 = .ok (.iconst 2, 1) := by decide +kernel
theorem dX8_premium_45 : decode cX8_premium 45 = .ok (.invokevirtual 49, 3) := by decide +kernel
theorem dX8_premium_48 : decode cX8_premium 48 = .ok (.ireturn, 1) := by decide +kernel
theorem dX8_cheapestNow_0 : decode cX8_cheapestNow 0 = .ok (.iconst (-1), 1) := by decide +kernel
theorem dX8_cheapestNow_1 : decode cX8_cheapestNow 1 = .ok (.istore 4, 2) := by decide +kernel
theorem dX8_cheapestNow_3 : decode cX8_cheapestNow 3 = .ok (.iconst 0, 1) := by decide +kernel
theorem dX8_cheapestNow_4 : decode cX8_cheapestNow 4 = .ok (.istore 5, 2) := by decide +kernel
theorem dX8_cheapestNow_6 : decode cX8_cheapestNow 6 = .ok (.iload 5, 2) := by decide +kernel
theorem dX8_cheapestNow_8 : decode cX8_cheapestNow 8 = .ok (.aload_n 0, 1) := by decide +kernel
theorem dX8_cheapestNow_9 : decode cX8_cheapestNow 9 = .ok (.getfield 7, 3) := by decide +kernel
theorem dX8_cheapestNow_12 : decode cX8_cheapestNow 12 = .ok (.iconst 3, 1) := by decide +kernel
theorem dX8_cheapestNow_13 : decode cX8_cheapestNow 13 = .ok (.iaload, 1) := by decide +kernel
theorem dX8_cheapestNow_14 : decode cX8_cheapestNow 14 = .ok (.if_icmp .ge 66, 3) := by decide +kernel
theorem dX8_cheapestNow_17 : decode cX8_cheapestNow 17 = .ok (.aload_n 0, 1) := by decide +kernel
theorem dX8_cheapestNow_18 : decode cX8_cheapestNow 18 = .ok (.iload 5, 2) := by decide +kernel
theorem dX8_cheapestNow_20 : decode cX8_cheapestNow 20 = .ok (.iconst 2, 1) := by decide +kernel
theorem dX8_cheapestNow_21 : decode cX8_cheapestNow 21 = .ok (.invokevirtual 82, 3) := by decide +kernel
theorem dX8_cheapestNow_24 : decode cX8_cheapestNow 24 = .ok (.iload_n 2, 1) := by decide +kernel
theorem dX8_cheapestNow_25 : decode cX8_cheapestNow 25 = .ok (.if_icmp .lt 7, 3) := by decide +kernel
theorem dX8_cheapestNow_28 : decode cX8_cheapestNow 28 = .ok (.iconst 1, 1) := by decide +kernel
theorem dX8_cheapestNow_29 : decode cX8_cheapestNow 29 = .ok (.goto 4, 3) := by decide +kernel
theorem dX8_cheapestNow_32 : decode cX8_cheapestNow 32 = .ok (.iconst 0, 1) := by decide +kernel
theorem dX8_cheapestNow_33 : decode cX8_cheapestNow 33 = .ok (.istore 6, 2) := by decide +kernel
theorem dX8_cheapestNow_35 : decode cX8_cheapestNow 35 = .ok (.iload 6, 2) := by decide +kernel
theorem dX8_cheapestNow_37 : decode cX8_cheapestNow 37 = .ok (.ifCond .eq 33, 3) := by decide +kernel
theorem dX8_cheapestNow_40 : decode cX8_cheapestNow 40 = .ok (.iload 4, 2) := by decide +kernel
theorem dX8_cheapestNow_42 : decode cX8_cheapestNow 42 = .ok (.iconst (-1), 1) := by decide +kernel
theorem dX8_cheapestNow_43 : decode cX8_cheapestNow 43 = .ok (.if_icmp .eq 22, 3) := by decide +kernel
theorem dX8_cheapestNow_46 : decode cX8_cheapestNow 46 = .ok (.aload_n 0, 1) := by decide +kernel
theorem dX8_cheapestNow_47 : decode cX8_cheapestNow 47 = .ok (.iload_n 1, 1) := by decide +kernel
theorem dX8_cheapestNow_48 : decode cX8_cheapestNow 48 = .ok (.iload 5, 2) := by decide +kernel
theorem dX8_cheapestNow_50 : decode cX8_cheapestNow 50 = .ok (.iload_n 3, 1) := by decide +kernel
theorem dX8_cheapestNow_51 : decode cX8_cheapestNow 51 = .ok (.invokevirtual 92, 3) := by decide +kernel
theorem dX8_cheapestNow_54 : decode cX8_cheapestNow 54 = .ok (.aload_n 0, 1) := by decide +kernel
theorem dX8_cheapestNow_55 : decode cX8_cheapestNow 55 = .ok (.iload_n 1, 1) := by decide +kernel
theorem dX8_cheapestNow_56 : decode cX8_cheapestNow 56 = .ok (.iload 4, 2) := by decide +kernel
theorem dX8_cheapestNow_58 : decode cX8_cheapestNow 58 = .ok (.iload_n 3, 1) := by decide +kernel
theorem dX8_cheapestNow_59 : decode cX8_cheapestNow 59 = .ok (.invokevirtual 92, 3) := by decide +kernel
theorem dX8_cheapestNow_62 : decode cX8_cheapestNow 62 = .ok (.if_icmp .ge 8, 3) := by decide +kernel
theorem dX8_cheapestNow_65 : decode cX8_cheapestNow 65 = .ok (.iload 5, 2) := by decide +kernel
theorem dX8_cheapestNow_67 : decode cX8_cheapestNow 67 = .ok (.goto 5, 3) := by decide +kernel
theorem dX8_cheapestNow_70 : decode cX8_cheapestNow 70 = .ok (.iload 4, 2) := by decide +kernel
theorem dX8_cheapestNow_72 : decode cX8_cheapestNow 72 = .ok (.istore 4, 2) := by decide +kernel
theorem dX8_cheapestNow_74 : decode cX8_cheapestNow 74 = .ok (.iinc 5 1, 3) := by decide +kernel
theorem dX8_cheapestNow_77 : decode cX8_cheapestNow 77 = .ok (.goto (-71), 3) := by decide +kernel
theorem dX8_cheapestNow_80 : decode cX8_cheapestNow 80 = .ok (.iload 4, 2) := by decide +kernel
theorem dX8_cheapestNow_82 : decode cX8_cheapestNow 82 = .ok (.ireturn, 1) := by decide +kernel
theorem dX8_cheapest_0 : decode cX8_cheapest 0 = .ok (.aload_n 0, 1) := by decide +kernel
theorem dX8_cheapest_1 : decode cX8_cheapest 1 = .ok (.iconst 0, 1) := by decide +kernel
theorem dX8_cheapest_2 : decode cX8_cheapest 2 = .ok (.putfield 38, 3) := by decide +kernel
theorem dX8_cheapest_5 : decode cX8_cheapest 5 = .ok (.iload_n 1, 1) := by decide +kernel
theorem dX8_cheapest_6 : decode cX8_cheapest 6 = .ok (.invokestatic 66, 3) := by decide +kernel
theorem dX8_cheapest_9 : decode cX8_cheapest 9 = .ok (.ifCond .ne 9, 3) := by decide +kernel
theorem dX8_cheapest_12 : decode cX8_cheapest 12 = .ok (.aload_n 0, 1) := by decide +kernel
theorem dX8_cheapest_13 : decode cX8_cheapest 13 = .ok (.iconst 1, 1) := by decide +kernel
theorem dX8_cheapest_14 : decode cX8_cheapest 14 = .ok (.invokevirtual 49, 3) := by decide +kernel
theorem dX8_cheapest_17 : decode cX8_cheapest 17 = .ok (.ireturn, 1) := by decide +kernel
theorem dX8_cheapest_18 : decode cX8_cheapest 18 = .ok (.iload_n 2, 1) := by decide +kernel
theorem dX8_cheapest_19 : decode cX8_cheapest 19 = .ok (.iconst 1, 1) := by decide +kernel
theorem dX8_cheapest_20 : decode cX8_cheapest 20 = .ok (.sipush 500, 3) := by decide +kernel
theorem dX8_cheapest_23 : decode cX8_cheapest 23 = .ok (.invokestatic 42, 3) := by decide +kernel
theorem dX8_cheapest_26 : decode cX8_cheapest 26 = .ok (.ifCond .eq 20, 3) := by decide +kernel
theorem dX8_cheapest_29 : decode cX8_cheapest 29 = .ok (.iload_n 3, 1) := by decide +kernel
theorem dX8_cheapest_30 : decode cX8_cheapest 30 = .ok (.invokestatic 73, 3) := by decide +kernel
theorem dX8_cheapest_33 : decode cX8_cheapest 33 = .ok (.ifCond .eq 13, 3) := by decide +kernel
theorem dX8_cheapest_36 : decode cX8_cheapest 36 = .ok (.aload_n 0, 1) := by decide +kernel
theorem dX8_cheapest_37 : decode cX8_cheapest 37 = .ok (.iload_n 1, 1) := by decide +kernel
theorem dX8_cheapest_38 : decode cX8_cheapest 38 = .ok (.iload_n 2, 1) := by decide +kernel
theorem dX8_cheapest_39 : decode cX8_cheapest 39 = .ok (.iload_n 3, 1) := by decide +kernel
theorem dX8_cheapest_40 : decode cX8_cheapest 40 = .ok (.invokevirtual 220, 3) := by decide +kernel
theorem dX8_cheapest_43 : decode cX8_cheapest 43 = .ok (.goto 8, 3) := by decide +kernel
theorem dX8_cheapest_46 : decode cX8_cheapest 46 = .ok (.aload_n 0, 1) := by decide +kernel
theorem dX8_cheapest_47 : decode cX8_cheapest 47 = .ok (.iconst 2, 1) := by decide +kernel
theorem dX8_cheapest_48 : decode cX8_cheapest 48 = .ok (.invokevirtual 49, 3) := by decide +kernel
theorem dX8_cheapest_51 : decode cX8_cheapest 51 = .ok (.ireturn, 1) := by decide +kernel
theorem dX8_waitNow_0 : decode cX8_waitNow 0 = .ok (.iconst 0, 1) := by decide +kernel
theorem dX8_waitNow_1 : decode cX8_waitNow 1 = .ok (.istore 5, 2) := by decide +kernel
theorem dX8_waitNow_3 : decode cX8_waitNow 3 = .ok (.iload 5, 2) := by decide +kernel
theorem dX8_waitNow_5 : decode cX8_waitNow 5 = .ok (.sipush 200, 3) := by decide +kernel
theorem dX8_waitNow_8 : decode cX8_waitNow 8 = .ok (.if_icmp .gt 43, 3) := by decide +kernel
theorem dX8_waitNow_11 : decode cX8_waitNow 11 = .ok (.aload_n 0, 1) := by decide +kernel
theorem dX8_waitNow_12 : decode cX8_waitNow 12 = .ok (.iload_n 1, 1) := by decide +kernel
theorem dX8_waitNow_13 : decode cX8_waitNow 13 = .ok (.iload_n 2, 1) := by decide +kernel
theorem dX8_waitNow_14 : decode cX8_waitNow 14 = .ok (.iload_n 3, 1) := by decide +kernel
theorem dX8_waitNow_15 : decode cX8_waitNow 15 = .ok (.aload_n 0, 1) := by decide +kernel
theorem dX8_waitNow_16 : decode cX8_waitNow 16 = .ok (.getfield 7, 3) := by decide +kernel
theorem dX8_waitNow_19 : decode cX8_waitNow 19 = .ok (.iconst 1, 1) := by decide +kernel
theorem dX8_waitNow_20 : decode cX8_waitNow 20 = .ok (.iaload, 1) := by decide +kernel
theorem dX8_waitNow_21 : decode cX8_waitNow 21 = .ok (.iload 5, 2) := by decide +kernel
theorem dX8_waitNow_23 : decode cX8_waitNow 23 = .ok (.aload_n 0, 1) := by decide +kernel
theorem dX8_waitNow_24 : decode cX8_waitNow 24 = .ok (.bipush 6, 2) := by decide +kernel
theorem dX8_waitNow_26 : decode cX8_waitNow 26 = .ok (.invokevirtual 59, 3) := by decide +kernel
theorem dX8_waitNow_29 : decode cX8_waitNow 29 = .ok (.imul, 1) := by decide +kernel
theorem dX8_waitNow_30 : decode cX8_waitNow 30 = .ok (.isub, 1) := by decide +kernel
theorem dX8_waitNow_31 : decode cX8_waitNow 31 = .ok (.invokestatic 100, 3) := by decide +kernel
theorem dX8_waitNow_34 : decode cX8_waitNow 34 = .ok (.invokevirtual 85, 3) := by decide +kernel
theorem dX8_waitNow_37 : decode cX8_waitNow 37 = .ok (.iload 4, 2) := by decide +kernel
theorem dX8_waitNow_39 : decode cX8_waitNow 39 = .ok (.if_icmp .gt 6, 3) := by decide +kernel
theorem dX8_waitNow_42 : decode cX8_waitNow 42 = .ok (.iload 5, 2) := by decide +kernel
theorem dX8_waitNow_44 : decode cX8_waitNow 44 = .ok (.ireturn, 1) := by decide +kernel
theorem dX8_waitNow_45 : decode cX8_waitNow 45 = .ok (.iinc 5 1, 3) := by decide +kernel
theorem dX8_waitNow_48 : decode cX8_waitNow 48 = .ok (.goto (-45), 3) := by decide +kernel
theorem dX8_waitNow_51 : decode cX8_waitNow 51 = .ok (.iconst (-1), 1) := by decide +kernel
theorem dX8_waitNow_52 : decode cX8_waitNow 52 = .ok (.ireturn, 1) := by decide +kernel
theorem dX8_waitFor_0 : decode cX8_waitFor 0 = .ok (.aload_n 0, 1) := by decide +kernel
theorem dX8_waitFor_1 : decode cX8_waitFor 1 = .ok (.iconst 0, 1) := by decide +kernel
theorem dX8_waitFor_2 : decode cX8_waitFor 2 = .ok (.putfield 38, 3) := by decide +kernel
theorem dX8_waitFor_5 : decode cX8_waitFor 5 = .ok (.iload_n 1, 1) := by decide +kernel
theorem dX8_waitFor_6 : decode cX8_waitFor 6 = .ok (.invokestatic 66, 3) := by decide +kernel
theorem dX8_waitFor_9 : decode cX8_waitFor 9 = .ok (.ifCond .eq 11, 3) := by decide +kernel
theorem dX8_waitFor_12 : decode cX8_waitFor 12 = .ok (.aload_n 0, 1) := by decide +kernel
theorem dX8_waitFor_13 : decode cX8_waitFor 13 = .ok (.iload_n 2, 1) := by decide +kernel
theorem dX8_waitFor_14 : decode cX8_waitFor 14 = .ok (.invokevirtual 89, 3) := by decide +kernel
theorem dX8_waitFor_17 : decode cX8_waitFor 17 = .ok (.ifCond .ne 9, 3) := by decide +kernel
theorem dX8_waitFor_20 : decode cX8_waitFor 20 = .ok (.aload_n 0, 1) := by decide +kernel
theorem dX8_waitFor_21 : decode cX8_waitFor 21 = .ok (.iconst 1, 1) := by decide +kernel
theorem dX8_waitFor_22 : decode cX8_waitFor 22 = .ok (.invokevirtual 49, 3) := by decide +kernel
theorem dX8_waitFor_25 : decode cX8_waitFor 25 = .ok (.ireturn, 1) := by decide +kernel
theorem dX8_waitFor_26 : decode cX8_waitFor 26 = .ok (.iload_n 3, 1) := by decide +kernel
theorem dX8_waitFor_27 : decode cX8_waitFor 27 = .ok (.invokestatic 73, 3) := by decide +kernel
theorem dX8_waitFor_30 : decode cX8_waitFor 30 = .ok (.ifCond .eq 27, 3) := by decide +kernel
theorem dX8_waitFor_33 : decode cX8_waitFor 33 = .ok (.iload 4, 2) := by decide +kernel
theorem dX8_waitFor_35 : decode cX8_waitFor 35 = .ok (.iconst 1, 1) := by decide +kernel
theorem dX8_waitFor_36 : decode cX8_waitFor 36 = .ok (.sipush 10000, 3) := by decide +kernel
theorem dX8_waitFor_39 : decode cX8_waitFor 39 = .ok (.invokestatic 42, 3) := by decide +kernel
theorem dX8_waitFor_42 : decode cX8_waitFor 42 = .ok (.ifCond .eq 15, 3) := by decide +kernel
theorem dX8_waitFor_45 : decode cX8_waitFor 45 = .ok (.aload_n 0, 1) := by decide +kernel
theorem dX8_waitFor_46 : decode cX8_waitFor 46 = .ok (.iload_n 1, 1) := by decide +kernel
theorem dX8_waitFor_47 : decode cX8_waitFor 47 = .ok (.iload_n 2, 1) := by decide +kernel
theorem dX8_waitFor_48 : decode cX8_waitFor 48 = .ok (.iload_n 3, 1) := by decide +kernel
theorem dX8_waitFor_49 : decode cX8_waitFor 49 = .ok (.iload 4, 2) := by decide +kernel
theorem dX8_waitFor_51 : decode cX8_waitFor 51 = .ok (.invokevirtual 223, 3) := by decide +kernel
theorem dX8_waitFor_54 : decode cX8_waitFor 54 = .ok (.goto 8, 3) := by decide +kernel
theorem dX8_waitFor_57 : decode cX8_waitFor 57 = .ok (.aload_n 0, 1) := by decide +kernel
theorem dX8_waitFor_58 : decode cX8_waitFor 58 = .ok (.iconst 2, 1) := by decide +kernel
theorem dX8_waitFor_59 : decode cX8_waitFor 59 = .ok (.invokevirtual 49, 3) := by decide +kernel
theorem dX8_waitFor_62 : decode cX8_waitFor 62 = .ok (.ireturn, 1) := by decide +kernel
theorem dX8_disturbs_0 : decode cX8_disturbs 0 = .ok (.iconst 0, 1) := by decide +kernel
theorem dX8_disturbs_1 : decode cX8_disturbs 1 = .ok (.istore_n 3, 1) := by decide +kernel
theorem dX8_disturbs_2 : decode cX8_disturbs 2 = .ok (.iconst 0, 1) := by decide +kernel
theorem dX8_disturbs_3 : decode cX8_disturbs 3 = .ok (.istore 4, 2) := by decide +kernel
theorem dX8_disturbs_5 : decode cX8_disturbs 5 = .ok (.iload 4, 2) := by decide +kernel
theorem dX8_disturbs_7 : decode cX8_disturbs 7 = .ok (.bipush 64, 2) := by decide +kernel
theorem dX8_disturbs_9 : decode cX8_disturbs 9 = .ok (.if_icmp .ge 84, 3) := by decide +kernel
theorem dX8_disturbs_12 : decode cX8_disturbs 12 = .ok (.iload_n 2, 1) := by decide +kernel
theorem dX8_disturbs_13 : decode cX8_disturbs 13 = .ok (.ifCond .eq 36, 3) := by decide +kernel
theorem dX8_disturbs_16 : decode cX8_disturbs 16 = .ok (.iload_n 2, 1) := by decide +kernel
theorem dX8_disturbs_17 : decode cX8_disturbs 17 = .ok (.iconst 1, 1) := by decide +kernel
theorem dX8_disturbs_18 : decode cX8_disturbs 18 = .ok (.if_icmp .ne 13, 3) := by decide +kernel
theorem dX8_disturbs_21 : decode cX8_disturbs 21 = .ok (.aload_n 0, 1) := by decide +kernel
theorem dX8_disturbs_22 : decode cX8_disturbs 22 = .ok (.iload 4, 2) := by decide +kernel
theorem dX8_disturbs_24 : decode cX8_disturbs 24 = .ok (.iconst 4, 1) := by decide +kernel
theorem dX8_disturbs_25 : decode cX8_disturbs 25 = .ok (.invokevirtual 62, 3) := by decide +kernel
theorem dX8_disturbs_28 : decode cX8_disturbs 28 = .ok (.ifCond .gt 21, 3) := by decide +kernel
theorem dX8_disturbs_31 : decode cX8_disturbs 31 = .ok (.iload_n 2, 1) := by decide +kernel
theorem dX8_disturbs_32 : decode cX8_disturbs 32 = .ok (.iconst 1, 1) := by decide +kernel
theorem dX8_disturbs_33 : decode cX8_disturbs 33 = .ok (.if_icmp .le 20, 3) := by decide +kernel
theorem dX8_disturbs_36 : decode cX8_disturbs 36 = .ok (.aload_n 0, 1) := by decide +kernel
theorem dX8_disturbs_37 : decode cX8_disturbs 37 = .ok (.iload 4, 2) := by decide +kernel
theorem dX8_disturbs_39 : decode cX8_disturbs 39 = .ok (.iconst 2, 1) := by decide +kernel
theorem dX8_disturbs_40 : decode cX8_disturbs 40 = .ok (.invokevirtual 62, 3) := by decide +kernel
theorem dX8_disturbs_43 : decode cX8_disturbs 43 = .ok (.iload_n 2, 1) := by decide +kernel
theorem dX8_disturbs_44 : decode cX8_disturbs 44 = .ok (.iconst 1, 1) := by decide +kernel
theorem dX8_disturbs_45 : decode cX8_disturbs 45 = .ok (.isub, 1) := by decide +kernel
theorem dX8_disturbs_46 : decode cX8_disturbs 46 = .ok (.if_icmp .ne 7, 3) := by decide +kernel
theorem dX8_disturbs_49 : decode cX8_disturbs 49 = .ok (.iconst 1, 1) := by decide +kernel
theorem dX8_disturbs_50 : decode cX8_disturbs 50 = .ok (.goto 4, 3) := by decide +kernel
theorem dX8_disturbs_53 : decode cX8_disturbs 53 = .ok (.iconst 0, 1) := by decide +kernel
theorem dX8_disturbs_54 : decode cX8_disturbs 54 = .ok (.istore 5, 2) := by decide +kernel
theorem dX8_disturbs_56 : decode cX8_disturbs 56 = .ok (.iload_n 3, 1) := by decide +kernel
theorem dX8_disturbs_57 : decode cX8_disturbs 57 = .ok (.iload 5, 2) := by decide +kernel
theorem dX8_disturbs_59 : decode cX8_disturbs 59 = .ok (.ifCond .eq 25, 3) := by decide +kernel
theorem dX8_disturbs_62 : decode cX8_disturbs 62 = .ok (.iload_n 1, 1) := by decide +kernel
theorem dX8_disturbs_63 : decode cX8_disturbs 63 = .ok (.iload 4, 2) := by decide +kernel
theorem dX8_disturbs_65 : decode cX8_disturbs 65 = .ok (.invokestatic 109, 3) := by decide +kernel
theorem dX8_disturbs_68 : decode cX8_disturbs 68 = .ok (.ifCond .eq 16, 3) := by decide +kernel
theorem dX8_disturbs_71 : decode cX8_disturbs 71 = .ok (.aload_n 0, 1) := by decide +kernel
theorem dX8_disturbs_72 : decode cX8_disturbs 72 = .ok (.iload 4, 2) := by decide +kernel
theorem dX8_disturbs_74 : decode cX8_disturbs 74 = .ok (.invokevirtual 113, 3) := by decide +kernel
theorem dX8_disturbs_77 : decode cX8_disturbs 77 = .ok (.ifCond .eq 7, 3) := by decide +kernel
theorem dX8_disturbs_80 : decode cX8_disturbs 80 = .ok (.iconst 1, 1) := by decide +kernel
theorem dX8_disturbs_81 : decode cX8_disturbs 81 = .ok (.goto 4, 3) := by decide +kernel
theorem dX8_disturbs_84 : decode cX8_disturbs 84 = .ok (.iconst 0, 1) := by decide +kernel
theorem dX8_disturbs_85 : decode cX8_disturbs 85 = .ok (.iadd, 1) := by decide +kernel
theorem dX8_disturbs_86 : decode cX8_disturbs 86 = .ok (.istore_n 3, 1) := by decide +kernel
theorem dX8_disturbs_87 : decode cX8_disturbs 87 = .ok (.iinc 4 1, 3) := by decide +kernel
theorem dX8_disturbs_90 : decode cX8_disturbs 90 = .ok (.goto (-85), 3) := by decide +kernel
theorem dX8_disturbs_93 : decode cX8_disturbs 93 = .ok (.iload_n 3, 1) := by decide +kernel
theorem dX8_disturbs_94 : decode cX8_disturbs 94 = .ok (.ireturn, 1) := by decide +kernel
theorem dX8_readNow_0 : decode cX8_readNow 0 = .ok (.iload_n 2, 1) := by decide +kernel
theorem dX8_readNow_1 : decode cX8_readNow 1 = .ok (.tableswitch 61 0 3 #[31, 38, 45, 55], 31) := by decide +kernel
theorem dX8_readNow_32 : decode cX8_readNow 32 = .ok (.aload_n 0, 1) := by decide +kernel
theorem dX8_readNow_33 : decode cX8_readNow 33 = .ok (.iload_n 1, 1) := by decide +kernel
theorem dX8_readNow_34 : decode cX8_readNow 34 = .ok (.iconst 0, 1) := by decide +kernel
theorem dX8_readNow_35 : decode cX8_readNow 35 = .ok (.invokevirtual 62, 3) := by decide +kernel
theorem dX8_readNow_38 : decode cX8_readNow 38 = .ok (.ireturn, 1) := by decide +kernel
theorem dX8_readNow_39 : decode cX8_readNow 39 = .ok (.aload_n 0, 1) := by decide +kernel
theorem dX8_readNow_40 : decode cX8_readNow 40 = .ok (.iload_n 1, 1) := by decide +kernel
theorem dX8_readNow_41 : decode cX8_readNow 41 = .ok (.iconst 0, 1) := by decide +kernel
theorem dX8_readNow_42 : decode cX8_readNow 42 = .ok (.invokevirtual 226, 3) := by decide +kernel
theorem dX8_readNow_45 : decode cX8_readNow 45 = .ok (.ireturn, 1) := by decide +kernel
theorem dX8_readNow_46 : decode cX8_readNow 46 = .ok (.aload_n 0, 1) := by decide +kernel
theorem dX8_readNow_47 : decode cX8_readNow 47 = .ok (.aload_n 0, 1) := by decide +kernel
theorem dX8_readNow_48 : decode cX8_readNow 48 = .ok (.iconst 2, 1) := by decide +kernel
theorem dX8_readNow_49 : decode cX8_readNow 49 = .ok (.invokevirtual 59, 3) := by decide +kernel
theorem dX8_readNow_52 : decode cX8_readNow 52 = .ok (.invokevirtual 119, 3) := by decide +kernel
theorem dX8_readNow_55 : decode cX8_readNow 55 = .ok (.ireturn, 1) := by decide +kernel
theorem dX8_readNow_56 : decode cX8_readNow 56 = .ok (.aload_n 0, 1) := by decide +kernel
theorem dX8_readNow_57 : decode cX8_readNow 57 = .ok (.iload_n 1, 1) := by decide +kernel
theorem dX8_readNow_58 : decode cX8_readNow 58 = .ok (.invokevirtual 106, 3) := by decide +kernel
theorem dX8_readNow_61 : decode cX8_readNow 61 = .ok (.ireturn, 1) := by decide +kernel
theorem dX8_readNow_62 : decode cX8_readNow 62 = .ok (.aload_n 0, 1) := by decide +kernel
theorem dX8_readNow_63 : decode cX8_readNow 63 = .ok (.iload_n 1, 1) := by decide +kernel
theorem dX8_readNow_64 : decode cX8_readNow 64 = .ok (.iconst 1, 1) := by decide +kernel
theorem dX8_readNow_65 : decode cX8_readNow 65 = .ok (.invokevirtual 226, 3) := by decide +kernel
theorem dX8_readNow_68 : decode cX8_readNow 68 = .ok (.ireturn, 1) := by decide +kernel
theorem dX8_ifRead_0 : decode cX8_ifRead 0 = .ok (.aload_n 0, 1) := by decide +kernel
theorem dX8_ifRead_1 : decode cX8_ifRead 1 = .ok (.iconst 0, 1) := by decide +kernel
theorem dX8_ifRead_2 : decode cX8_ifRead 2 = .ok (.putfield 38, 3) := by decide +kernel
theorem dX8_ifRead_5 : decode cX8_ifRead 5 = .ok (.iload_n 1, 1) := by decide +kernel
theorem dX8_ifRead_6 : decode cX8_ifRead 6 = .ok (.invokestatic 66, 3) := by decide +kernel
theorem dX8_ifRead_9 : decode cX8_ifRead 9 = .ok (.ifCond .ne 9, 3) := by decide +kernel
theorem dX8_ifRead_12 : decode cX8_ifRead 12 = .ok (.aload_n 0, 1) := by decide +kernel
theorem dX8_ifRead_13 : decode cX8_ifRead 13 = .ok (.iconst 1, 1) := by decide +kernel
theorem dX8_ifRead_14 : decode cX8_ifRead 14 = .ok (.invokevirtual 49, 3) := by decide +kernel
theorem dX8_ifRead_17 : decode cX8_ifRead 17 = .ok (.ireturn, 1) := by decide +kernel
theorem dX8_ifRead_18 : decode cX8_ifRead 18 = .ok (.iload_n 2, 1) := by decide +kernel
theorem dX8_ifRead_19 : decode cX8_ifRead 19 = .ok (.iconst 0, 1) := by decide +kernel
