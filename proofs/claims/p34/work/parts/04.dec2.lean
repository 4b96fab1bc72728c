theorem dJ7_fill_53178_11 : decode cJ7_fill_53178 11 = .ok (.iload_n 2, 1) := by decide +kernel
theorem dJ7_fill_53178_12 : decode cJ7_fill_53178 12 = .ok (.iload_n 1, 1) := by decide +kernel
theorem dJ7_fill_53178_13 : decode cJ7_fill_53178 13 = .ok (.iastore, 1) := by decide +kernel
theorem dJ7_fill_53178_14 : decode cJ7_fill_53178 14 = .ok (.iinc 2 1, 3) := by decide +kernel
theorem dJ7_fill_53178_17 : decode cJ7_fill_53178 17 = .ok (.goto (-12), 3) := by decide +kernel
theorem dJ7_fill_53178_20 : decode cJ7_fill_53178 20 = .ok (.return_, 1) := by decide +kernel
theorem dL_cell_0 : decode cL_cell 0 = .ok (.iload_n 1, 1) := by decide +kernel
theorem dL_cell_1 : decode cL_cell 1 = .ok (.aload_n 0, 1) := by decide +kernel
theorem dL_cell_2 : decode cL_cell 2 = .ok (.arraylength, 1) := by decide +kernel
theorem dL_cell_3 : decode cL_cell 3 = .ok (.if_icmp .ge 9, 3) := by decide +kernel
theorem dL_cell_6 : decode cL_cell 6 = .ok (.aload_n 0, 1) := by decide +kernel
theorem dL_cell_7 : decode cL_cell 7 = .ok (.iload_n 1, 1) := by decide +kernel
theorem dL_cell_8 : decode cL_cell 8 = .ok (.iaload, 1) := by decide +kernel
theorem dL_cell_9 : decode cL_cell 9 = .ok (.goto 9, 3) := by decide +kernel
theorem dL_cell_12 : decode cL_cell 12 = .ok (.ldc 7, 2) := by decide +kernel
theorem dL_cell_14 : decode cL_cell 14 = .ok (.iload_n 1, 1) := by decide +kernel
theorem dL_cell_15 : decode cL_cell 15 = .ok (.iconst 1, 1) := by decide +kernel
theorem dL_cell_16 : decode cL_cell 16 = .ok (.iadd, 1) := by decide +kernel
theorem dL_cell_17 : decode cL_cell 17 = .ok (.imul, 1) := by decide +kernel
theorem dL_cell_18 : decode cL_cell 18 = .ok (.ireturn, 1) := by decide +kernel
theorem dL_at_0 : decode cL_at 0 = .ok (.iload_n 0, 1) := by decide +kernel
theorem dL_at_1 : decode cL_at 1 = .ok (.iconst 1, 1) := by decide +kernel
theorem dL_at_2 : decode cL_at 2 = .ok (.iushr, 1) := by decide +kernel
theorem dL_at_3 : decode cL_at 3 = .ok (.iload_n 1, 1) := by decide +kernel
theorem dL_at_4 : decode cL_at 4 = .ok (.irem, 1) := by decide +kernel
theorem dL_at_5 : decode cL_at 5 = .ok (.ireturn, 1) := by decide +kernel
theorem dL_core_0 : decode cL_core 0 = .ok (.bipush 8, 2) := by decide +kernel
theorem dL_core_2 : decode cL_core 2 = .ok (.iload_n 0, 1) := by decide +kernel
theorem dL_core_3 : decode cL_core 3 = .ok (.iconst 4, 1) := by decide +kernel
theorem dL_core_4 : decode cL_core 4 = .ok (.idiv, 1) := by decide +kernel
theorem dL_core_5 : decode cL_core 5 = .ok (.imul, 1) := by decide +kernel
theorem dL_core_6 : decode cL_core 6 = .ok (.iload_n 0, 1) := by decide +kernel
theorem dL_core_7 : decode cL_core 7 = .ok (.iconst 4, 1) := by decide +kernel
theorem dL_core_8 : decode cL_core 8 = .ok (.irem, 1) := by decide +kernel
theorem dL_core_9 : decode cL_core 9 = .ok (.iadd, 1) := by decide +kernel
theorem dL_core_10 : decode cL_core 10 = .ok (.ireturn, 1) := by decide +kernel
theorem dL_line_0 : decode cL_line 0 = .ok (.iload_n 0, 1) := by decide +kernel
theorem dL_line_1 : decode cL_line 1 = .ok (.iload_n 1, 1) := by decide +kernel
theorem dL_line_2 : decode cL_line 2 = .ok (.if_icmp .eq 25, 3) := by decide +kernel
theorem dL_line_5 : decode cL_line 5 = .ok (.iload_n 0, 1) := by decide +kernel
theorem dL_line_6 : decode cL_line 6 = .ok (.iconst 4, 1) := by decide +kernel
theorem dL_line_7 : decode cL_line 7 = .ok (.idiv, 1) := by decide +kernel
theorem dL_line_8 : decode cL_line 8 = .ok (.iload_n 1, 1) := by decide +kernel
theorem dL_line_9 : decode cL_line 9 = .ok (.iconst 4, 1) := by decide +kernel
theorem dL_line_10 : decode cL_line 10 = .ok (.idiv, 1) := by decide +kernel
theorem dL_line_11 : decode cL_line 11 = .ok (.if_icmp .eq 12, 3) := by decide +kernel
theorem dL_line_14 : decode cL_line 14 = .ok (.iload_n 0, 1) := by decide +kernel
theorem dL_line_15 : decode cL_line 15 = .ok (.iconst 4, 1) := by decide +kernel
theorem dL_line_16 : decode cL_line 16 = .ok (.irem, 1) := by decide +kernel
theorem dL_line_17 : decode cL_line 17 = .ok (.iload_n 1, 1) := by decide +kernel
theorem dL_line_18 : decode cL_line 18 = .ok (.iconst 4, 1) := by decide +kernel
theorem dL_line_19 : decode cL_line 19 = .ok (.irem, 1) := by decide +kernel
theorem dL_line_20 : decode cL_line 20 = .ok (.if_icmp .ne 7, 3) := by decide +kernel
theorem dL_line_23 : decode cL_line 23 = .ok (.iconst 1, 1) := by decide +kernel
theorem dL_line_24 : decode cL_line 24 = .ok (.goto 4, 3) := by decide +kernel
theorem dL_line_27 : decode cL_line 27 = .ok (.iconst 0, 1) := by decide +kernel
theorem dL_line_28 : decode cL_line 28 = .ok (.ireturn, 1) := by decide +kernel
theorem dL_pay_0 : decode cL_pay 0 = .ok (.aload_n 2, 1) := by decide +kernel
theorem dL_pay_1 : decode cL_pay 1 = .ok (.bipush 6, 2) := by decide +kernel
theorem dL_pay_3 : decode cL_pay 3 = .ok (.iload_n 0, 1) := by decide +kernel
theorem dL_pay_4 : decode cL_pay 4 = .ok (.imul, 1) := by decide +kernel
theorem dL_pay_5 : decode cL_pay 5 = .ok (.iconst 5, 1) := by decide +kernel
theorem dL_pay_6 : decode cL_pay 6 = .ok (.iadd, 1) := by decide +kernel
theorem dL_pay_7 : decode cL_pay 7 = .ok (.iaload, 1) := by decide +kernel
theorem dL_pay_8 : decode cL_pay 8 = .ok (.ifCond .le 150, 3) := by decide +kernel
theorem dL_pay_11 : decode cL_pay 11 = .ok (.aload_n 2, 1) := by decide +kernel
theorem dL_pay_12 : decode cL_pay 12 = .ok (.bipush 6, 2) := by decide +kernel
theorem dL_pay_14 : decode cL_pay 14 = .ok (.iload_n 0, 1) := by decide +kernel
theorem dL_pay_15 : decode cL_pay 15 = .ok (.imul, 1) := by decide +kernel
theorem dL_pay_16 : decode cL_pay 16 = .ok (.iaload, 1) := by decide +kernel
theorem dL_pay_17 : decode cL_pay 17 = .ok (.aload_n 2, 1) := by decide +kernel
theorem dL_pay_18 : decode cL_pay 18 = .ok (.bipush 6, 2) := by decide +kernel
theorem dL_pay_20 : decode cL_pay 20 = .ok (.iload_n 0, 1) := by decide +kernel
theorem dL_pay_21 : decode cL_pay 21 = .ok (.imul, 1) := by decide +kernel
theorem dL_pay_22 : decode cL_pay 22 = .ok (.iconst 2, 1) := by decide +kernel
theorem dL_pay_23 : decode cL_pay 23 = .ok (.iadd, 1) := by decide +kernel
theorem dL_pay_24 : decode cL_pay 24 = .ok (.iaload, 1) := by decide +kernel
theorem dL_pay_25 : decode cL_pay 25 = .ok (.if_icmp .lt 133, 3) := by decide +kernel
theorem dL_pay_28 : decode cL_pay 28 = .ok (.aload_n 3, 1) := by decide +kernel
theorem dL_pay_29 : decode cL_pay 29 = .ok (.bipush 24, 2) := by decide +kernel
theorem dL_pay_31 : decode cL_pay 31 = .ok (.iload_n 0, 1) := by decide +kernel
theorem dL_pay_32 : decode cL_pay 32 = .ok (.imul, 1) := by decide +kernel
theorem dL_pay_33 : decode cL_pay 33 = .ok (.iaload, 1) := by decide +kernel
theorem dL_pay_34 : decode cL_pay 34 = .ok (.istore 4, 2) := by decide +kernel
theorem dL_pay_36 : decode cL_pay 36 = .ok (.aload_n 2, 1) := by decide +kernel
theorem dL_pay_37 : decode cL_pay 37 = .ok (.bipush 6, 2) := by decide +kernel
theorem dL_pay_39 : decode cL_pay 39 = .ok (.iload_n 0, 1) := by decide +kernel
theorem dL_pay_40 : decode cL_pay 40 = .ok (.imul, 1) := by decide +kernel
theorem dL_pay_41 : decode cL_pay 41 = .ok (.dup2, 1) := by decide +kernel
theorem dL_pay_42 : decode cL_pay 42 = .ok (.iaload, 1) := by decide +kernel
theorem dL_pay_43 : decode cL_pay 43 = .ok (.aload_n 2, 1) := by decide +kernel
theorem dL_pay_44 : decode cL_pay 44 = .ok (.bipush 6, 2) := by decide +kernel
theorem dL_pay_46 : decode cL_pay 46 = .ok (.iload_n 0, 1) := by decide +kernel
theorem dL_pay_47 : decode cL_pay 47 = .ok (.imul, 1) := by decide +kernel
theorem dL_pay_48 : decode cL_pay 48 = .ok (.iconst 2, 1) := by decide +kernel
theorem dL_pay_49 : decode cL_pay 49 = .ok (.iadd, 1) := by decide +kernel
theorem dL_pay_50 : decode cL_pay 50 = .ok (.iaload, 1) := by decide +kernel
theorem dL_pay_51 : decode cL_pay 51 = .ok (.isub, 1) := by decide +kernel
theorem dL_pay_52 : decode cL_pay 52 = .ok (.iastore, 1) := by decide +kernel
theorem dL_pay_53 : decode cL_pay 53 = .ok (.aload_n 2, 1) := by decide +kernel
theorem dL_pay_54 : decode cL_pay 54 = .ok (.bipush 6, 2) := by decide +kernel
theorem dL_pay_56 : decode cL_pay 56 = .ok (.iload_n 0, 1) := by decide +kernel
theorem dL_pay_57 : decode cL_pay 57 = .ok (.imul, 1) := by decide +kernel
theorem dL_pay_58 : decode cL_pay 58 = .ok (.iconst 3, 1) := by decide +kernel
theorem dL_pay_59 : decode cL_pay 59 = .ok (.iadd, 1) := by decide +kernel
theorem dL_pay_60 : decode cL_pay 60 = .ok (.dup2, 1) := by decide +kernel
theorem dL_pay_61 : decode cL_pay 61 = .ok (.iaload, 1) := by decide +kernel
theorem dL_pay_62 : decode cL_pay 62 = .ok (.iconst 1, 1) := by decide +kernel
theorem dL_pay_63 : decode cL_pay 63 = .ok (.iadd, 1) := by decide +kernel
theorem dL_pay_64 : decode cL_pay 64 = .ok (.iastore, 1) := by decide +kernel
theorem dL_pay_65 : decode cL_pay 65 = .ok (.aload_n 2, 1) := by decide +kernel
theorem dL_pay_66 : decode cL_pay 66 = .ok (.bipush 6, 2) := by decide +kernel
theorem dL_pay_68 : decode cL_pay 68 = .ok (.iload_n 0, 1) := by decide +kernel
theorem dL_pay_69 : decode cL_pay 69 = .ok (.imul, 1) := by decide +kernel
theorem dL_pay_70 : decode cL_pay 70 = .ok (.iconst 5, 1) := by decide +kernel
theorem dL_pay_71 : decode cL_pay 71 = .ok (.iadd, 1) := by decide +kernel
theorem dL_pay_72 : decode cL_pay 72 = .ok (.dup2, 1) := by decide +kernel
theorem dL_pay_73 : decode cL_pay 73 = .ok (.iaload, 1) := by decide +kernel
theorem dL_pay_74 : decode cL_pay 74 = .ok (.iconst 1, 1) := by decide +kernel
theorem dL_pay_75 : decode cL_pay 75 = .ok (.isub, 1) := by decide +kernel
theorem dL_pay_76 : decode cL_pay 76 = .ok (.iastore, 1) := by decide +kernel
theorem dL_pay_77 : decode cL_pay 77 = .ok (.aload_n 1, 1) := by decide +kernel
theorem dL_pay_78 : decode cL_pay 78 = .ok (.iconst 3, 1) := by decide +kernel
theorem dL_pay_79 : decode cL_pay 79 = .ok (.iload 4, 2) := by decide +kernel
theorem dL_pay_81 : decode cL_pay 81 = .ok (.imul, 1) := by decide +kernel
theorem dL_pay_82 : decode cL_pay 82 = .ok (.dup2, 1) := by decide +kernel
theorem dL_pay_83 : decode cL_pay 83 = .ok (.iaload, 1) := by decide +kernel
theorem dL_pay_84 : decode cL_pay 84 = .ok (.aload_n 2, 1) := by decide +kernel
theorem dL_pay_85 : decode cL_pay 85 = .ok (.bipush 6, 2) := by decide +kernel
theorem dL_pay_87 : decode cL_pay 87 = .ok (.iload_n 0, 1) := by decide +kernel
theorem dL_pay_88 : decode cL_pay 88 = .ok (.imul, 1) := by decide +kernel
theorem dL_pay_89 : decode cL_pay 89 = .ok (.iconst 2, 1) := by decide +kernel
theorem dL_pay_90 : decode cL_pay 90 = .ok (.iadd, 1) := by decide +kernel
theorem dL_pay_91 : decode cL_pay 91 = .ok (.iaload, 1) := by decide +kernel
theorem dL_pay_92 : decode cL_pay 92 = .ok (.iadd, 1) := by decide +kernel
theorem dL_pay_93 : decode cL_pay 93 = .ok (.iastore, 1) := by decide +kernel
theorem dL_pay_94 : decode cL_pay 94 = .ok (.aload_n 1, 1) := by decide +kernel
theorem dL_pay_95 : decode cL_pay 95 = .ok (.iconst 3, 1) := by decide +kernel
theorem dL_pay_96 : decode cL_pay 96 = .ok (.iload 4, 2) := by decide +kernel
theorem dL_pay_98 : decode cL_pay 98 = .ok (.imul, 1) := by decide +kernel
theorem dL_pay_99 : decode cL_pay 99 = .ok (.iconst 2, 1) := by decide +kernel
theorem dL_pay_100 : decode cL_pay 100 = .ok (.iadd, 1) := by decide +kernel
theorem dL_pay_101 : decode cL_pay 101 = .ok (.dup2, 1) := by decide +kernel
theorem dL_pay_102 : decode cL_pay 102 = .ok (.iaload, 1) := by decide +kernel
theorem dL_pay_103 : decode cL_pay 103 = .ok (.aload_n 2, 1) := by decide +kernel
theorem dL_pay_104 : decode cL_pay 104 = .ok (.bipush 6, 2) := by decide +kernel
theorem dL_pay_106 : decode cL_pay 106 = .ok (.iload_n 0, 1) := by decide +kernel
theorem dL_pay_107 : decode cL_pay 107 = .ok (.imul, 1) := by decide +kernel
theorem dL_pay_108 : decode cL_pay 108 = .ok (.iconst 2, 1) := by decide +kernel
theorem dL_pay_109 : decode cL_pay 109 = .ok (.iadd, 1) := by decide +kernel
theorem dL_pay_110 : decode cL_pay 110 = .ok (.iaload, 1) := by decide +kernel
theorem dL_pay_111 : decode cL_pay 111 = .ok (.iadd, 1) := by decide +kernel
theorem dL_pay_112 : decode cL_pay 112 = .ok (.iastore, 1) := by decide +kernel
theorem dL_pay_113 : decode cL_pay 113 = .ok (.iconst 0, 1) := by decide +kernel
theorem dL_pay_114 : decode cL_pay 114 = .ok (.istore 5, 2) := by decide +kernel
theorem dL_pay_116 : decode cL_pay 116 = .ok (.iload 5, 2) := by decide +kernel
theorem dL_pay_118 : decode cL_pay 118 = .ok (.aload_n 2, 1) := by decide +kernel
theorem dL_pay_119 : decode cL_pay 119 = .ok (.bipush 6, 2) := by decide +kernel
theorem dL_pay_121 : decode cL_pay 121 = .ok (.iload_n 0, 1) := by decide +kernel
theorem dL_pay_122 : decode cL_pay 122 = .ok (.imul, 1) := by decide +kernel
theorem dL_pay_123 : decode cL_pay 123 = .ok (.iconst 5, 1) := by decide +kernel
theorem dL_pay_124 : decode cL_pay 124 = .ok (.iadd, 1) := by decide +kernel
theorem dL_pay_125 : decode cL_pay 125 = .ok (.iaload, 1) := by decide +kernel
theorem dL_pay_126 : decode cL_pay 126 = .ok (.if_icmp .ge 29, 3) := by decide +kernel
theorem dL_pay_129 : decode cL_pay 129 = .ok (.aload_n 3, 1) := by decide +kernel
theorem dL_pay_130 : decode cL_pay 130 = .ok (.bipush 24, 2) := by decide +kernel
theorem dL_pay_132 : decode cL_pay 132 = .ok (.iload_n 0, 1) := by decide +kernel
theorem dL_pay_133 : decode cL_pay 133 = .ok (.imul, 1) := by decide +kernel
theorem dL_pay_134 : decode cL_pay 134 = .ok (.iload 5, 2) := by decide +kernel
theorem dL_pay_136 : decode cL_pay 136 = .ok (.iadd, 1) := by decide +kernel
theorem dL_pay_137 : decode cL_pay 137 = .ok (.aload_n 3, 1) := by decide +kernel
theorem dL_pay_138 : decode cL_pay 138 = .ok (.bipush 24, 2) := by decide +kernel
theorem dL_pay_140 : decode cL_pay 140 = .ok (.iload_n 0, 1) := by decide +kernel
theorem dL_pay_141 : decode cL_pay 141 = .ok (.imul, 1) := by decide +kernel
theorem dL_pay_142 : decode cL_pay 142 = .ok (.iload 5, 2) := by decide +kernel
theorem dL_pay_144 : decode cL_pay 144 = .ok (.iadd, 1) := by decide +kernel
theorem dL_pay_145 : decode cL_pay 145 = .ok (.iconst 1, 1) := by decide +kernel
theorem dL_pay_146 : decode cL_pay 146 = .ok (.iadd, 1) := by decide +kernel
theorem dL_pay_147 : decode cL_pay 147 = .ok (.iaload, 1) := by decide +kernel
theorem dL_pay_148 : decode cL_pay 148 = .ok (.iastore, 1) := by decide +kernel
theorem dL_pay_149 : decode cL_pay 149 = .ok (.iinc 5 1, 3) := by decide +kernel
theorem dL_pay_152 : decode cL_pay 152 = .ok (.goto (-36), 3) := by decide +kernel
theorem dL_pay_155 : decode cL_pay 155 = .ok (.goto (-155), 3) := by decide +kernel
theorem dL_pay_158 : decode cL_pay 158 = .ok (.return_, 1) := by decide +kernel
theorem dL_lost_0 : decode cL_lost 0 = .ok (.aload_n 3, 1) := by decide +kernel
theorem dL_lost_1 : decode cL_lost 1 = .ok (.iload_n 0, 1) := by decide +kernel
theorem dL_lost_2 : decode cL_lost 2 = .ok (.dup2, 1) := by decide +kernel
theorem dL_lost_3 : decode cL_lost 3 = .ok (.iaload, 1) := by decide +kernel
theorem dL_lost_4 : decode cL_lost 4 = .ok (.iconst 1, 1) := by decide +kernel
theorem dL_lost_5 : decode cL_lost 5 = .ok (.iadd, 1) := by decide +kernel
theorem dL_lost_6 : decode cL_lost 6 = .ok (.iastore, 1) := by decide +kernel
theorem dL_lost_7 : decode cL_lost 7 = .ok (.aload_n 1, 1) := by decide +kernel
theorem dL_lost_8 : decode cL_lost 8 = .ok (.iconst 4, 1) := by decide +kernel
theorem dL_lost_9 : decode cL_lost 9 = .ok (.iload_n 0, 1) := by decide +kernel
theorem dL_lost_10 : decode cL_lost 10 = .ok (.imul, 1) := by decide +kernel
theorem dL_lost_11 : decode cL_lost 11 = .ok (.iconst 2, 1) := by decide +kernel
theorem dL_lost_12 : decode cL_lost 12 = .ok (.iadd, 1) := by decide +kernel
theorem dL_lost_13 : decode cL_lost 13 = .ok (.iaload, 1) := by decide +kernel
theorem dL_lost_14 : decode cL_lost 14 = .ok (.istore 7, 2) := by decide +kernel
theorem dL_lost_16 : decode cL_lost 16 = .ok (.iload 7, 2) := by decide +kernel
theorem dL_lost_18 : decode cL_lost 18 = .ok (.ifCond .ge 4, 3) := by decide +kernel
theorem dL_lost_21 : decode cL_lost 21 = .ok (.return_, 1) := by decide +kernel
theorem dL_lost_22 : decode cL_lost 22 = .ok (.aload 4, 2) := by decide +kernel
theorem dL_lost_24 : decode cL_lost 24 = .ok (.iconst 3, 1) := by decide +kernel
theorem dL_lost_25 : decode cL_lost 25 = .ok (.iload 7, 2) := by decide +kernel
theorem dL_lost_27 : decode cL_lost 27 = .ok (.imul, 1) := by decide +kernel
theorem dL_lost_28 : decode cL_lost 28 = .ok (.iconst 1, 1) := by decide +kernel
theorem dL_lost_29 : decode cL_lost 29 = .ok (.iadd, 1) := by decide +kernel
theorem dL_lost_30 : decode cL_lost 30 = .ok (.dup2, 1) := by decide +kernel
theorem dL_lost_31 : decode cL_lost 31 = .ok (.iaload, 1) := by decide +kernel
theorem dL_lost_32 : decode cL_lost 32 = .ok (.iconst 1, 1) := by decide +kernel
theorem dL_lost_33 : decode cL_lost 33 = .ok (.iadd, 1) := by decide +kernel
theorem dL_lost_34 : decode cL_lost 34 = .ok (.iastore, 1) := by decide +kernel
theorem dL_lost_35 : decode cL_lost 35 = .ok (.aload_n 2, 1) := by decide +kernel
theorem dL_lost_36 : decode cL_lost 36 = .ok (.iconst 4, 1) := by decide +kernel
theorem dL_lost_37 : decode cL_lost 37 = .ok (.iload_n 0, 1) := by decide +kernel
theorem dL_lost_38 : decode cL_lost 38 = .ok (.imul, 1) := by decide +kernel
theorem dL_lost_39 : decode cL_lost 39 = .ok (.iaload, 1) := by decide +kernel
theorem dL_lost_40 : decode cL_lost 40 = .ok (.istore 8, 2) := by decide +kernel
theorem dL_lost_42 : decode cL_lost 42 = .ok (.iload 8, 2) := by decide +kernel
theorem dL_lost_44 : decode cL_lost 44 = .ok (.ifCond .ge 4, 3) := by decide +kernel
theorem dL_lost_47 : decode cL_lost 47 = .ok (.return_, 1) := by decide +kernel
theorem dL_lost_48 : decode cL_lost 48 = .ok (.aload_n 2, 1) := by decide +kernel
theorem dL_lost_49 : decode cL_lost 49 = .ok (.iconst 4, 1) := by decide +kernel
theorem dL_lost_50 : decode cL_lost 50 = .ok (.iload_n 0, 1) := by decide +kernel
theorem dL_lost_51 : decode cL_lost 51 = .ok (.imul, 1) := by decide +kernel
theorem dL_lost_52 : decode cL_lost 52 = .ok (.iconst (-1), 1) := by decide +kernel
theorem dL_lost_53 : decode cL_lost 53 = .ok (.iastore, 1) := by decide +kernel
theorem dL_lost_54 : decode cL_lost 54 = .ok (.aload_n 2, 1) := by decide +kernel
theorem dL_lost_55 : decode cL_lost 55 = .ok (.iconst 4, 1) := by decide +kernel
theorem dL_lost_56 : decode cL_lost 56 = .ok (.iload_n 0, 1) := by decide +kernel
theorem dL_lost_57 : decode cL_lost 57 = .ok (.imul, 1) := by decide +kernel
theorem dL_lost_58 : decode cL_lost 58 = .ok (.iconst 1, 1) := by decide +kernel
theorem dL_lost_59 : decode cL_lost 59 = .ok (.iadd, 1) := by decide +kernel
theorem dL_lost_60 : decode cL_lost 60 = .ok (.iconst 0, 1) := by decide +kernel
theorem dL_lost_61 : decode cL_lost 61 = .ok (.iastore, 1) := by decide +kernel
theorem dL_lost_62 : decode cL_lost 62 = .ok (.aload 6, 2) := by decide +kernel
theorem dL_lost_64 : decode cL_lost 64 = .ok (.bipush 24, 2) := by decide +kernel
theorem dL_lost_66 : decode cL_lost 66 = .ok (.iload 8, 2) := by decide +kernel
theorem dL_lost_68 : decode cL_lost 68 = .ok (.imul, 1) := by decide +kernel
theorem dL_lost_69 : decode cL_lost 69 = .ok (.aload 5, 2) := by decide +kernel
theorem dL_lost_71 : decode cL_lost 71 = .ok (.bipush 6, 2) := by decide +kernel
theorem dL_lost_73 : decode cL_lost 73 = .ok (.iload 8, 2) := by decide +kernel
theorem dL_lost_75 : decode cL_lost 75 = .ok (.imul, 1) := by decide +kernel
theorem dL_lost_76 : decode cL_lost 76 = .ok (.iconst 5, 1) := by decide +kernel
theorem dL_lost_77 : decode cL_lost 77 = .ok (.iadd, 1) := by decide +kernel
theorem dL_lost_78 : decode cL_lost 78 = .ok (.iaload, 1) := by decide +kernel
theorem dL_lost_79 : decode cL_lost 79 = .ok (.iadd, 1) := by decide +kernel
theorem dL_lost_80 : decode cL_lost 80 = .ok (.iload 7, 2) := by decide +kernel
theorem dL_lost_82 : decode cL_lost 82 = .ok (.iastore, 1) := by decide +kernel
theorem dL_lost_83 : decode cL_lost 83 = .ok (.aload 5, 2) := by decide +kernel
theorem dL_lost_85 : decode cL_lost 85 = .ok (.bipush 6, 2) := by decide +kernel
theorem dL_lost_87 : decode cL_lost 87 = .ok (.iload 8, 2) := by decide +kernel
theorem dL_lost_89 : decode cL_lost 89 = .ok (.imul, 1) := by decide +kernel
theorem dL_lost_90 : decode cL_lost 90 = .ok (.iconst 5, 1) := by decide +kernel
theorem dL_lost_91 : decode cL_lost 91 = .ok (.iadd, 1) := by decide +kernel
theorem dL_lost_92 : decode cL_lost 92 = .ok (.dup2, 1) := by decide +kernel
theorem dL_lost_93 : decode cL_lost 93 = .ok (.iaload, 1) := by decide +kernel
theorem dL_lost_94 : decode cL_lost 94 = .ok (.iconst 1, 1) := by decide +kernel
theorem dL_lost_95 : decode cL_lost 95 = .ok (.iadd, 1) := by decide +kernel
theorem dL_lost_96 : decode cL_lost 96 = .ok (.iastore, 1) := by decide +kernel
theorem dL_lost_97 : decode cL_lost 97 = .ok (.iload 8, 2) := by decide +kernel
theorem dL_lost_99 : decode cL_lost 99 = .ok (.aload 4, 2) := by decide +kernel
theorem dL_lost_101 : decode cL_lost 101 = .ok (.aload 5, 2) := by decide +kernel
theorem dL_lost_103 : decode cL_lost 103 = .ok (.aload 6, 2) := by decide +kernel
theorem dL_lost_105 : decode cL_lost 105 = .ok (.invokestatic 8, 3) := by decide +kernel
theorem dL_lost_108 : decode cL_lost 108 = .ok (.return_, 1) := by decide +kernel
theorem dL_pulse_0 : decode cL_pulse 0 = .ok (.aload_n 2, 1) := by decide +kernel
theorem dL_pulse_1 : decode cL_pulse 1 = .ok (.iconst 4, 1) := by decide +kernel
theorem dL_pulse_2 : decode cL_pulse 2 = .ok (.iload_n 0, 1) := by decide +kernel
theorem dL_pulse_3 : decode cL_pulse 3 = .ok (.imul, 1) := by decide +kernel
theorem dL_pulse_4 : decode cL_pulse 4 = .ok (.iconst 1, 1) := by decide +kernel
theorem dL_pulse_5 : decode cL_pulse 5 = .ok (.iadd, 1) := by decide +kernel
theorem dL_pulse_6 : decode cL_pulse 6 = .ok (.dup2, 1) := by decide +kernel
theorem dL_pulse_7 : decode cL_pulse 7 = .ok (.iaload, 1) := by decide +kernel
theorem dL_pulse_8 : decode cL_pulse 8 = .ok (.iconst 1, 1) := by decide +kernel
theorem dL_pulse_9 : decode cL_pulse 9 = .ok (.aload 9, 2) := by decide +kernel
theorem dL_pulse_11 : decode cL_pulse 11 = .ok (.iconst 1, 1) := by decide +kernel
theorem dL_pulse_12 : decode cL_pulse 12 = .ok (.iaload, 1) := by decide +kernel
theorem dL_pulse_13 : decode cL_pulse 13 = .ok (.bipush 25, 2) := by decide +kernel
theorem dL_pulse_15 : decode cL_pulse 15 = .ok (.idiv, 1) := by decide +kernel
theorem dL_pulse_16 : decode cL_pulse 16 = .ok (.iadd, 1) := by decide +kernel
theorem dL_pulse_17 : decode cL_pulse 17 = .ok (.isub, 1) := by decide +kernel
theorem dL_pulse_18 : decode cL_pulse 18 = .ok (.iastore, 1) := by decide +kernel
theorem dL_pulse_19 : decode cL_pulse 19 = .ok (.aload_n 2, 1) := by decide +kernel
theorem dL_pulse_20 : decode cL_pulse 20 = .ok (.iconst 4, 1) := by decide +kernel
theorem dL_pulse_21 : decode cL_pulse 21 = .ok (.iload_n 0, 1) := by decide +kernel
theorem dL_pulse_22 : decode cL_pulse 22 = .ok (.imul, 1) := by decide +kernel
theorem dL_pulse_23 : decode cL_pulse 23 = .ok (.iconst 1, 1) := by decide +kernel
theorem dL_pulse_24 : decode cL_pulse 24 = .ok (.iadd, 1) := by decide +kernel
theorem dL_pulse_25 : decode cL_pulse 25 = .ok (.iaload, 1) := by decide +kernel
theorem dL_pulse_26 : decode cL_pulse 26 = .ok (.ifCond .ge 11, 3) := by decide +kernel
theorem dL_pulse_29 : decode cL_pulse 29 = .ok (.aload_n 2, 1) := by decide +kernel
theorem dL_pulse_30 : decode cL_pulse 30 = .ok (.iconst 4, 1) := by decide +kernel
theorem dL_pulse_31 : decode cL_pulse 31 = .ok (.iload_n 0, 1) := by decide +kernel
theorem dL_pulse_32 : decode cL_pulse 32 = .ok (.imul, 1) := by decide +kernel
theorem dL_pulse_33 : decode cL_pulse 33 = .ok (.iconst 1, 1) := by decide +kernel
theorem dL_pulse_34 : decode cL_pulse 34 = .ok (.iadd, 1) := by decide +kernel
theorem dL_pulse_35 : decode cL_pulse 35 = .ok (.iconst 0, 1) := by decide +kernel
theorem dL_pulse_36 : decode cL_pulse 36 = .ok (.iastore, 1) := by decide +kernel
theorem dL_pulse_37 : decode cL_pulse 37 = .ok (.iconst 0, 1) := by decide +kernel
theorem dL_pulse_38 : decode cL_pulse 38 = .ok (.istore 10, 2) := by decide +kernel
theorem dL_pulse_40 : decode cL_pulse 40 = .ok (.iload 10, 2) := by decide +kernel
theorem dL_pulse_42 : decode cL_pulse 42 = .ok (.bipush 16, 2) := by decide +kernel
theorem dL_pulse_44 : decode cL_pulse 44 = .ok (.if_icmp .ge 76, 3) := by decide +kernel
theorem dL_pulse_47 : decode cL_pulse 47 = .ok (.iload_n 0, 1) := by decide +kernel
theorem dL_pulse_48 : decode cL_pulse 48 = .ok (.iload 10, 2) := by decide +kernel
theorem dL_pulse_50 : decode cL_pulse 50 = .ok (.invokestatic 14, 3) := by decide +kernel
theorem dL_pulse_53 : decode cL_pulse 53 = .ok (.ifCond .eq 61, 3) := by decide +kernel
theorem dL_pulse_56 : decode cL_pulse 56 = .ok (.aload_n 2, 1) := by decide +kernel
theorem dL_pulse_57 : decode cL_pulse 57 = .ok (.iconst 4, 1) := by decide +kernel
theorem dL_pulse_58 : decode cL_pulse 58 = .ok (.iload 10, 2) := by decide +kernel
theorem dL_pulse_60 : decode cL_pulse 60 = .ok (.imul, 1) := by decide +kernel
theorem dL_pulse_61 : decode cL_pulse 61 = .ok (.iaload, 1) := by decide +kernel
theorem dL_pulse_62 : decode cL_pulse 62 = .ok (.ifCond .eq 52, 3) := by decide +kernel
theorem dL_pulse_65 : decode cL_pulse 65 = .ok (.aload_n 2, 1) := by decide +kernel
theorem dL_pulse_66 : decode cL_pulse 66 = .ok (.iconst 4, 1) := by decide +kernel
theorem dL_pulse_67 : decode cL_pulse 67 = .ok (.iload 10, 2) := by decide +kernel
theorem dL_pulse_69 : decode cL_pulse 69 = .ok (.imul, 1) := by decide +kernel
theorem dL_pulse_70 : decode cL_pulse 70 = .ok (.iconst 1, 1) := by decide +kernel
theorem dL_pulse_71 : decode cL_pulse 71 = .ok (.iadd, 1) := by decide +kernel
theorem dL_pulse_72 : decode cL_pulse 72 = .ok (.iaload, 1) := by decide +kernel
theorem dL_pulse_73 : decode cL_pulse 73 = .ok (.aload 8, 2) := by decide +kernel
theorem dL_pulse_75 : decode cL_pulse 75 = .ok (.iconst 5, 1) := by decide +kernel
theorem dL_pulse_76 : decode cL_pulse 76 = .ok (.iaload, 1) := by decide +kernel
theorem dL_pulse_77 : decode cL_pulse 77 = .ok (.if_icmp .lt 6, 3) := by decide +kernel
theorem dL_pulse_80 : decode cL_pulse 80 = .ok (.goto 34, 3) := by decide +kernel
theorem dL_pulse_83 : decode cL_pulse 83 = .ok (.aload_n 2, 1) := by decide +kernel
theorem dL_pulse_84 : decode cL_pulse 84 = .ok (.iconst 4, 1) := by decide +kernel
theorem dL_pulse_85 : decode cL_pulse 85 = .ok (.iload 10, 2) := by decide +kernel
theorem dL_pulse_87 : decode cL_pulse 87 = .ok (.imul, 1) := by decide +kernel
theorem dL_pulse_88 : decode cL_pulse 88 = .ok (.iconst 0, 1) := by decide +kernel
theorem dL_pulse_89 : decode cL_pulse 89 = .ok (.iastore, 1) := by decide +kernel
theorem dL_pulse_90 : decode cL_pulse 90 = .ok (.aload 9, 2) := by decide +kernel
theorem dL_pulse_92 : decode cL_pulse 92 = .ok (.bipush 9, 2) := by decide +kernel
theorem dL_pulse_94 : decode cL_pulse 94 = .ok (.dup2, 1) := by decide +kernel
theorem dL_pulse_95 : decode cL_pulse 95 = .ok (.iaload, 1) := by decide +kernel
theorem dL_pulse_96 : decode cL_pulse 96 = .ok (.iconst 1, 1) := by decide +kernel
theorem dL_pulse_97 : decode cL_pulse 97 = .ok (.iadd, 1) := by decide +kernel
theorem dL_pulse_98 : decode cL_pulse 98 = .ok (.iastore, 1) := by decide +kernel
theorem dL_pulse_99 : decode cL_pulse 99 = .ok (.iload 10, 2) := by decide +kernel
theorem dL_pulse_101 : decode cL_pulse 101 = .ok (.aload_n 2, 1) := by decide +kernel
theorem dL_pulse_102 : decode cL_pulse 102 = .ok (.aload_n 3, 1) := by decide +kernel
theorem dL_pulse_103 : decode cL_pulse 103 = .ok (.aload 4, 2) := by decide +kernel
theorem dL_pulse_105 : decode cL_pulse 105 = .ok (.aload 5, 2) := by decide +kernel
theorem dL_pulse_107 : decode cL_pulse 107 = .ok (.aload 6, 2) := by decide +kernel
theorem dL_pulse_109 : decode cL_pulse 109 = .ok (.aload 7, 2) := by decide +kernel
theorem dL_pulse_111 : decode cL_pulse 111 = .ok (.invokestatic 18, 3) := by decide +kernel
theorem dL_pulse_114 : decode cL_pulse 114 = .ok (.iinc 10 1, 3) := by decide +kernel
theorem dL_pulse_117 : decode cL_pulse 117 = .ok (.goto (-77), 3) := by decide +kernel
theorem dL_pulse_120 : decode cL_pulse 120 = .ok (.aload 9, 2) := by decide +kernel
theorem dL_pulse_122 : decode cL_pulse 122 = .ok (.iconst 1, 1) := by decide +kernel
theorem dL_pulse_123 : decode cL_pulse 123 = .ok (.aload 9, 2) := by decide +kernel
theorem dL_pulse_125 : decode cL_pulse 125 = .ok (.iconst 1, 1) := by decide +kernel
theorem dL_pulse_126 : decode cL_pulse 126 = .ok (.iaload, 1) := by decide +kernel
theorem dL_pulse_127 : decode cL_pulse 127 = .ok (.iload_n 1, 1) := by decide +kernel
theorem dL_pulse_128 : decode cL_pulse 128 = .ok (.iadd, 1) := by decide +kernel
theorem dL_pulse_129 : decode cL_pulse 129 = .ok (.bipush 100, 2) := by decide +kernel
theorem dL_pulse_131 : decode cL_pulse 131 = .ok (.if_icmp .le 8, 3) := by decide +kernel
theorem dL_pulse_134 : decode cL_pulse 134 = .ok (.bipush 100, 2) := by decide +kernel
theorem dL_pulse_136 : decode cL_pulse 136 = .ok (.goto 9, 3) := by decide +kernel
theorem dL_pulse_139 : decode cL_pulse 139 = .ok (.aload 9, 2) := by decide +kernel
theorem dL_pulse_141 : decode cL_pulse 141 = .ok (.iconst 1, 1) := by decide +kernel
theorem dL_pulse_142 : decode cL_pulse 142 = .ok (.iaload, 1) := by decide +kernel
theorem dL_pulse_143 : decode cL_pulse 143 = .ok (.iload_n 1, 1) := by decide +kernel
theorem dL_pulse_144 : decode cL_pulse 144 = .ok (.iadd, 1) := by decide +kernel
theorem dL_pulse_145 : decode cL_pulse 145 = .ok (.iastore, 1) := by decide +kernel
theorem dL_pulse_146 : decode cL_pulse 146 = .ok (.return_, 1) := by decide +kernel
theorem dL_write_0 : decode cL_write 0 = .ok (.iload_n 0, 1) := by decide +kernel
theorem dL_write_1 : decode cL_write 1 = .ok (.aload 8, 2) := by decide +kernel
theorem dL_write_3 : decode cL_write 3 = .ok (.iconst 1, 1) := by decide +kernel
theorem dL_write_4 : decode cL_write 4 = .ok (.iaload, 1) := by decide +kernel
theorem dL_write_5 : decode cL_write 5 = .ok (.aload_n 2, 1) := by decide +kernel
theorem dL_write_6 : decode cL_write 6 = .ok (.aload_n 3, 1) := by decide +kernel
theorem dL_write_7 : decode cL_write 7 = .ok (.aload 4, 2) := by decide +kernel
theorem dL_write_9 : decode cL_write 9 = .ok (.aload 5, 2) := by decide +kernel
theorem dL_write_11 : decode cL_write 11 = .ok (.aload 6, 2) := by decide +kernel
theorem dL_write_13 : decode cL_write 13 = .ok (.aload 7, 2) := by decide +kernel
theorem dL_write_15 : decode cL_write 15 = .ok (.aload 8, 2) := by decide +kernel
theorem dL_write_17 : decode cL_write 17 = .ok (.aload 9, 2) := by decide +kernel
theorem dL_write_19 : decode cL_write 19 = .ok (.invokestatic 22, 3) := by decide +kernel
theorem dL_write_22 : decode cL_write 22 = .ok (.aload_n 2, 1) := by decide +kernel
theorem dL_write_23 : decode cL_write 23 = .ok (.iconst 4, 1) := by decide +kernel
theorem dL_write_24 : decode cL_write 24 = .ok (.iload_n 0, 1) := by decide +kernel
theorem dL_write_25 : decode cL_write 25 = .ok (.imul, 1) := by decide +kernel
theorem dL_write_26 : decode cL_write 26 = .ok (.aload_n 2, 1) := by decide +kernel
theorem dL_write_27 : decode cL_write 27 = .ok (.iconst 4, 1) := by decide +kernel
theorem dL_write_28 : decode cL_write 28 = .ok (.iload_n 0, 1) := by decide +kernel
theorem dL_write_29 : decode cL_write 29 = .ok (.imul, 1) := by decide +kernel
theorem dL_write_30 : decode cL_write 30 = .ok (.iconst 1, 1) := by decide +kernel
theorem dL_write_31 : decode cL_write 31 = .ok (.iadd, 1) := by decide +kernel
theorem dL_write_32 : decode cL_write 32 = .ok (.iaload, 1) := by decide +kernel
theorem dL_write_33 : decode cL_write 33 = .ok (.aload 8, 2) := by decide +kernel
theorem dL_write_35 : decode cL_write 35 = .ok (.iconst 4, 1) := by decide +kernel
theorem dL_write_36 : decode cL_write 36 = .ok (.iaload, 1) := by decide +kernel
theorem dL_write_37 : decode cL_write 37 = .ok (.if_icmp .ge 7, 3) := by decide +kernel
theorem dL_write_40 : decode cL_write 40 = .ok (.iconst 0, 1) := by decide +kernel
theorem dL_write_41 : decode cL_write 41 = .ok (.goto 4, 3) := by decide +kernel
theorem dL_write_44 : decode cL_write 44 = .ok (.iload_n 1, 1) := by decide +kernel
theorem dL_write_45 : decode cL_write 45 = .ok (.iastore, 1) := by decide +kernel
theorem dL_write_46 : decode cL_write 46 = .ok (.aload 9, 2) := by decide +kernel
theorem dL_write_48 : decode cL_write 48 = .ok (.bipush 10, 2) := by decide +kernel
theorem dL_write_50 : decode cL_write 50 = .ok (.dup2, 1) := by decide +kernel
theorem dL_write_51 : decode cL_write 51 = .ok (.iaload, 1) := by decide +kernel
theorem dL_write_52 : decode cL_write 52 = .ok (.aload_n 3, 1) := by decide +kernel
theorem dL_write_53 : decode cL_write 53 = .ok (.iconst 4, 1) := by decide +kernel
theorem dL_write_54 : decode cL_write 54 = .ok (.iload_n 0, 1) := by decide +kernel
theorem dL_write_55 : decode cL_write 55 = .ok (.imul, 1) := by decide +kernel
theorem dL_write_56 : decode cL_write 56 = .ok (.iconst 2, 1) := by decide +kernel
theorem dL_write_57 : decode cL_write 57 = .ok (.iadd, 1) := by decide +kernel
theorem dL_write_58 : decode cL_write 58 = .ok (.iaload, 1) := by decide +kernel
theorem dL_write_59 : decode cL_write 59 = .ok (.ifCond .ge 7, 3) := by decide +kernel
theorem dL_write_62 : decode cL_write 62 = .ok (.iconst 0, 1) := by decide +kernel
theorem dL_write_63 : decode cL_write 63 = .ok (.goto 4, 3) := by decide +kernel
theorem dL_write_66 : decode cL_write 66 = .ok (.iconst 1, 1) := by decide +kernel
theorem dL_write_67 : decode cL_write 67 = .ok (.iadd, 1) := by decide +kernel
theorem dL_write_68 : decode cL_write 68 = .ok (.iastore, 1) := by decide +kernel
theorem dL_write_69 : decode cL_write 69 = .ok (.aload_n 3, 1) := by decide +kernel
theorem dL_write_70 : decode cL_write 70 = .ok (.iconst 4, 1) := by decide +kernel
theorem dL_write_71 : decode cL_write 71 = .ok (.iload_n 0, 1) := by decide +kernel
theorem dL_write_72 : decode cL_write 72 = .ok (.imul, 1) := by decide +kernel
theorem dL_write_73 : decode cL_write 73 = .ok (.iconst 2, 1) := by decide +kernel
theorem dL_write_74 : decode cL_write 74 = .ok (.iadd, 1) := by decide +kernel
theorem dL_write_75 : decode cL_write 75 = .ok (.iconst (-1), 1) := by decide +kernel
theorem dL_write_76 : decode cL_write 76 = .ok (.iastore, 1) := by decide +kernel
theorem dL_write_77 : decode cL_write 77 = .ok (.aload_n 2, 1) := by decide +kernel
theorem dL_write_78 : decode cL_write 78 = .ok (.iconst 4, 1) := by decide +kernel
theorem dL_write_79 : decode cL_write 79 = .ok (.iload_n 0, 1) := by decide +kernel
theorem dL_write_80 : decode cL_write 80 = .ok (.imul, 1) := by decide +kernel
theorem dL_write_81 : decode cL_write 81 = .ok (.iaload, 1) := by decide +kernel
theorem dL_write_82 : decode cL_write 82 = .ok (.ireturn, 1) := by decide +kernel
theorem dL_read_0 : decode cL_read 0 = .ok (.iload_n 0, 1) := by decide +kernel
theorem dL_read_1 : decode cL_read 1 = .ok (.aload 7, 2) := by decide +kernel
theorem dL_read_3 : decode cL_read 3 = .ok (.iconst 2, 1) := by decide +kernel
theorem dL_read_4 : decode cL_read 4 = .ok (.iaload, 1) := by decide +kernel
theorem dL_read_5 : decode cL_read 5 = .ok (.aload_n 1, 1) := by decide +kernel
theorem dL_read_6 : decode cL_read 6 = .ok (.aload_n 2, 1) := by decide +kernel
theorem dL_read_7 : decode cL_read 7 = .ok (.aload_n 3, 1) := by decide +kernel
theorem dL_read_8 : decode cL_read 8 = .ok (.aload 4, 2) := by decide +kernel
theorem dL_read_10 : decode cL_read 10 = .ok (.aload 5, 2) := by decide +kernel
theorem dL_read_12 : decode cL_read 12 = .ok (.aload 6, 2) := by decide +kernel
theorem dL_read_14 : decode cL_read 14 = .ok (.aload 7, 2) := by decide +kernel
theorem dL_read_16 : decode cL_read 16 = .ok (.aload 8, 2) := by decide +kernel
theorem dL_read_18 : decode cL_read 18 = .ok (.invokestatic 22, 3) := by decide +kernel
theorem dL_read_21 : decode cL_read 21 = .ok (.aload 8, 2) := by decide +kernel
theorem dL_read_23 : decode cL_read 23 = .ok (.iconst 4, 1) := by decide +kernel
theorem dL_read_24 : decode cL_read 24 = .ok (.dup2, 1) := by decide +kernel
theorem dL_read_25 : decode cL_read 25 = .ok (.iaload, 1) := by decide +kernel
theorem dL_read_26 : decode cL_read 26 = .ok (.iconst 1, 1) := by decide +kernel
theorem dL_read_27 : decode cL_read 27 = .ok (.iadd, 1) := by decide +kernel
theorem dL_read_28 : decode cL_read 28 = .ok (.iastore, 1) := by decide +kernel
theorem dL_read_29 : decode cL_read 29 = .ok (.aload_n 1, 1) := by decide +kernel
theorem dL_read_30 : decode cL_read 30 = .ok (.iconst 4, 1) := by decide +kernel
theorem dL_read_31 : decode cL_read 31 = .ok (.iload_n 0, 1) := by decide +kernel
theorem dL_read_32 : decode cL_read 32 = .ok (.imul, 1) := by decide +kernel
theorem dL_read_33 : decode cL_read 33 = .ok (.iaload, 1) := by decide +kernel
theorem dL_read_34 : decode cL_read 34 = .ok (.ifCond .ne 5, 3) := by decide +kernel
theorem dL_read_37 : decode cL_read 37 = .ok (.iconst 0, 1) := by decide +kernel
theorem dL_read_38 : decode cL_read 38 = .ok (.ireturn, 1) := by decide +kernel
theorem dL_read_39 : decode cL_read 39 = .ok (.aload_n 1, 1) := by decide +kernel
theorem dL_read_40 : decode cL_read 40 = .ok (.iconst 4, 1) := by decide +kernel
theorem dL_read_41 : decode cL_read 41 = .ok (.iload_n 0, 1) := by decide +kernel
theorem dL_read_42 : decode cL_read 42 = .ok (.imul, 1) := by decide +kernel
theorem dL_read_43 : decode cL_read 43 = .ok (.iconst 0, 1) := by decide +kernel
theorem dL_read_44 : decode cL_read 44 = .ok (.iastore, 1) := by decide +kernel
theorem dL_read_45 : decode cL_read 45 = .ok (.aload_n 2, 1) := by decide +kernel
theorem dL_read_46 : decode cL_read 46 = .ok (.iconst 4, 1) := by decide +kernel
theorem dL_read_47 : decode cL_read 47 = .ok (.iload_n 0, 1) := by decide +kernel
theorem dL_read_48 : decode cL_read 48 = .ok (.imul, 1) := by decide +kernel
theorem dL_read_49 : decode cL_read 49 = .ok (.iconst 2, 1) := by decide +kernel
theorem dL_read_50 : decode cL_read 50 = .ok (.iadd, 1) := by decide +kernel
theorem dL_read_51 : decode cL_read 51 = .ok (.aload 8, 2) := by decide +kernel
theorem dL_read_53 : decode cL_read 53 = .ok (.iconst 0, 1) := by decide +kernel
theorem dL_read_54 : decode cL_read 54 = .ok (.iaload, 1) := by decide +kernel
theorem dL_read_55 : decode cL_read 55 = .ok (.aload 7, 2) := by decide +kernel
theorem dL_read_57 : decode cL_read 57 = .ok (.iconst 3, 1) := by decide +kernel
theorem dL_read_58 : decode cL_read 58 = .ok (.iaload, 1) := by decide +kernel
theorem dL_read_59 : decode cL_read 59 = .ok (.iadd, 1) := by decide +kernel
theorem dL_read_60 : decode cL_read 60 = .ok (.iastore, 1) := by decide +kernel
theorem dL_read_61 : decode cL_read 61 = .ok (.aload_n 2, 1) := by decide +kernel
theorem dL_read_62 : decode cL_read 62 = .ok (.iconst 4, 1) := by decide +kernel
theorem dL_read_63 : decode cL_read 63 = .ok (.iload_n 0, 1) := by decide +kernel
theorem dL_read_64 : decode cL_read 64 = .ok (.imul, 1) := by decide +kernel
theorem dL_read_65 : decode cL_read 65 = .ok (.iconst 3, 1) := by decide +kernel
theorem dL_read_66 : decode cL_read 66 = .ok (.iadd, 1) := by decide +kernel
theorem dL_read_67 : decode cL_read 67 = .ok (.aload 8, 2) := by decide +kernel
theorem dL_read_69 : decode cL_read 69 = .ok (.bipush 14, 2) := by decide +kernel
theorem dL_read_71 : decode cL_read 71 = .ok (.iaload, 1) := by decide +kernel
theorem dL_read_72 : decode cL_read 72 = .ok (.iastore, 1) := by decide +kernel
theorem dL_read_73 : decode cL_read 73 = .ok (.aload 8, 2) := by decide +kernel
theorem dL_read_75 : decode cL_read 75 = .ok (.bipush 14, 2) := by decide +kernel
theorem dL_read_77 : decode cL_read 77 = .ok (.dup2, 1) := by decide +kernel
theorem dL_read_78 : decode cL_read 78 = .ok (.iaload, 1) := by decide +kernel
theorem dL_read_79 : decode cL_read 79 = .ok (.iconst 1, 1) := by decide +kernel
theorem dL_read_80 : decode cL_read 80 = .ok (.iadd, 1) := by decide +kernel
theorem dL_read_81 : decode cL_read 81 = .ok (.iastore, 1) := by decide +kernel
theorem dL_read_82 : decode cL_read 82 = .ok (.aload 8, 2) := by decide +kernel
theorem dL_read_84 : decode cL_read 84 = .ok (.iconst 5, 1) := by decide +kernel
theorem dL_read_85 : decode cL_read 85 = .ok (.dup2, 1) := by decide +kernel
theorem dL_read_86 : decode cL_read 86 = .ok (.iaload, 1) := by decide +kernel
theorem dL_read_87 : decode cL_read 87 = .ok (.iconst 1, 1) := by decide +kernel
theorem dL_read_88 : decode cL_read 88 = .ok (.iadd, 1) := by decide +kernel
theorem dL_read_89 : decode cL_read 89 = .ok (.iastore, 1) := by decide +kernel
theorem dL_read_90 : decode cL_read 90 = .ok (.iconst 1, 1) := by decide +kernel
theorem dL_read_91 : decode cL_read 91 = .ok (.ireturn, 1) := by decide +kernel
theorem dL_owed_0 : decode cL_owed 0 = .ok (.iconst 0, 1) := by decide +kernel
theorem dL_owed_1 : decode cL_owed 1 = .ok (.istore_n 2, 1) := by decide +kernel
theorem dL_owed_2 : decode cL_owed 2 = .ok (.iload_n 2, 1) := by decide +kernel
theorem dL_owed_3 : decode cL_owed 3 = .ok (.bipush 16, 2) := by decide +kernel
theorem dL_owed_5 : decode cL_owed 5 = .ok (.if_icmp .ge 120, 3) := by decide +kernel
theorem dL_owed_8 : decode cL_owed 8 = .ok (.aload_n 1, 1) := by decide +kernel
theorem dL_owed_9 : decode cL_owed 9 = .ok (.iconst 4, 1) := by decide +kernel
theorem dL_owed_10 : decode cL_owed 10 = .ok (.iload_n 2, 1) := by decide +kernel
theorem dL_owed_11 : decode cL_owed 11 = .ok (.imul, 1) := by decide +kernel
theorem dL_owed_12 : decode cL_owed 12 = .ok (.iconst 2, 1) := by decide +kernel
theorem dL_owed_13 : decode cL_owed 13 = .ok (.iadd, 1) := by decide +kernel
theorem dL_owed_14 : decode cL_owed 14 = .ok (.iaload, 1) := by decide +kernel
theorem dL_owed_15 : decode cL_owed 15 = .ok (.ifCond .ge 6, 3) := by decide +kernel
theorem dL_owed_18 : decode cL_owed 18 = .ok (.goto 101, 3) := by decide +kernel
theorem dL_owed_21 : decode cL_owed 21 = .ok (.iconst 0, 1) := by decide +kernel
theorem dL_owed_22 : decode cL_owed 22 = .ok (.istore_n 3, 1) := by decide +kernel
theorem dL_owed_23 : decode cL_owed 23 = .ok (.iconst 0, 1) := by decide +kernel
theorem dL_owed_24 : decode cL_owed 24 = .ok (.istore 4, 2) := by decide +kernel
theorem dL_owed_26 : decode cL_owed 26 = .ok (.iload 4, 2) := by decide +kernel
theorem dL_owed_28 : decode cL_owed 28 = .ok (.bipush 16, 2) := by decide +kernel
theorem dL_owed_30 : decode cL_owed 30 = .ok (.if_icmp .ge 82, 3) := by decide +kernel
theorem dL_owed_33 : decode cL_owed 33 = .ok (.iload_n 3, 1) := by decide +kernel
theorem dL_owed_34 : decode cL_owed 34 = .ok (.aload_n 1, 1) := by decide +kernel
theorem dL_owed_35 : decode cL_owed 35 = .ok (.iconst 4, 1) := by decide +kernel
theorem dL_owed_36 : decode cL_owed 36 = .ok (.iload 4, 2) := by decide +kernel
theorem dL_owed_38 : decode cL_owed 38 = .ok (.imul, 1) := by decide +kernel
theorem dL_owed_39 : decode cL_owed 39 = .ok (.iconst 2, 1) := by decide +kernel
theorem dL_owed_40 : decode cL_owed 40 = .ok (.iadd, 1) := by decide +kernel
theorem dL_owed_41 : decode cL_owed 41 = .ok (.iaload, 1) := by decide +kernel
theorem dL_owed_42 : decode cL_owed 42 = .ok (.ifCond .lt 61, 3) := by decide +kernel
theorem dL_owed_45 : decode cL_owed 45 = .ok (.aload_n 1, 1) := by decide +kernel
theorem dL_owed_46 : decode cL_owed 46 = .ok (.iconst 4, 1) := by decide +kernel
theorem dL_owed_47 : decode cL_owed 47 = .ok (.iload 4, 2) := by decide +kernel
theorem dL_owed_49 : decode cL_owed 49 = .ok (.imul, 1) := by decide +kernel
theorem dL_owed_50 : decode cL_owed 50 = .ok (.iconst 2, 1) := by decide +kernel
theorem dL_owed_51 : decode cL_owed 51 = .ok (.iadd, 1) := by decide +kernel
theorem dL_owed_52 : decode cL_owed 52 = .ok (.iaload, 1) := by decide +kernel
theorem dL_owed_53 : decode cL_owed 53 = .ok (.aload_n 1, 1) := by decide +kernel
theorem dL_owed_54 : decode cL_owed 54 = .ok (.iconst 4, 1) := by decide +kernel
theorem dL_owed_55 : decode cL_owed 55 = .ok (.iload_n 2, 1) := by decide +kernel
theorem dL_owed_56 : decode cL_owed 56 = .ok (.imul, 1) := by decide +kernel
theorem dL_owed_57 : decode cL_owed 57 = .ok (.iconst 2, 1) := by decide +kernel
theorem dL_owed_58 : decode cL_owed 58 = .ok (.iadd, 1) := by decide +kernel
theorem dL_owed_59 : decode cL_owed 59 = .ok (.iaload, 1) := by decide +kernel
theorem dL_owed_60 : decode cL_owed 60 = .ok (.if_icmp .lt 39, 3) := by decide +kernel
theorem dL_owed_63 : decode cL_owed 63 = .ok (.aload_n 1, 1) := by decide +kernel
theorem dL_owed_64 : decode cL_owed 64 = .ok (.iconst 4, 1) := by decide +kernel
theorem dL_owed_65 : decode cL_owed 65 = .ok (.iload 4, 2) := by decide +kernel
theorem dL_owed_67 : decode cL_owed 67 = .ok (.imul, 1) := by decide +kernel
theorem dL_owed_68 : decode cL_owed 68 = .ok (.iconst 2, 1) := by decide +kernel
theorem dL_owed_69 : decode cL_owed 69 = .ok (.iadd, 1) := by decide +kernel
theorem dL_owed_70 : decode cL_owed 70 = .ok (.iaload, 1) := by decide +kernel
theorem dL_owed_71 : decode cL_owed 71 = .ok (.aload_n 1, 1) := by decide +kernel
theorem dL_owed_72 : decode cL_owed 72 = .ok (.iconst 4, 1) := by decide +kernel
theorem dL_owed_73 : decode cL_owed 73 = .ok (.iload_n 2, 1) := by decide +kernel
theorem dL_owed_74 : decode cL_owed 74 = .ok (.imul, 1) := by decide +kernel
theorem dL_owed_75 : decode cL_owed 75 = .ok (.iconst 2, 1) := by decide +kernel
theorem dL_owed_76 : decode cL_owed 76 = .ok (.iadd, 1) := by decide +kernel
theorem dL_owed_77 : decode cL_owed 77 = .ok (.iaload, 1) := by decide +kernel
theorem dL_owed_78 : decode cL_owed 78 = .ok (.if_icmp .ne 25, 3) := by decide +kernel
theorem dL_owed_81 : decode cL_owed 81 = .ok (.aload_n 1, 1) := by decide +kernel
theorem dL_owed_82 : decode cL_owed 82 = .ok (.iconst 4, 1) := by decide +kernel
theorem dL_owed_83 : decode cL_owed 83 = .ok (.iload 4, 2) := by decide +kernel
theorem dL_owed_85 : decode cL_owed 85 = .ok (.imul, 1) := by decide +kernel
theorem dL_owed_86 : decode cL_owed 86 = .ok (.iconst 3, 1) := by decide +kernel
theorem dL_owed_87 : decode cL_owed 87 = .ok (.iadd, 1) := by decide +kernel
theorem dL_owed_88 : decode cL_owed 88 = .ok (.iaload, 1) := by decide +kernel
theorem dL_owed_89 : decode cL_owed 89 = .ok (.aload_n 1, 1) := by decide +kernel
theorem dL_owed_90 : decode cL_owed 90 = .ok (.iconst 4, 1) := by decide +kernel
theorem dL_owed_91 : decode cL_owed 91 = .ok (.iload_n 2, 1) := by decide +kernel
theorem dL_owed_92 : decode cL_owed 92 = .ok (.imul, 1) := by decide +kernel
theorem dL_owed_93 : decode cL_owed 93 = .ok (.iconst 3, 1) := by decide +kernel
theorem dL_owed_94 : decode cL_owed 94 = .ok (.iadd, 1) := by decide +kernel
theorem dL_owed_95 : decode cL_owed 95 = .ok (.iaload, 1) := by decide +kernel
theorem dL_owed_96 : decode cL_owed 96 = .ok (.if_icmp .ge 7, 3) := by decide +kernel
theorem dL_owed_99 : decode cL_owed 99 = .ok (.iconst 1, 1) := by decide +kernel
theorem dL_owed_100 : decode cL_owed 100 = .ok (.goto 4, 3) := by decide +kernel
theorem dL_owed_103 : decode cL_owed 103 = .ok (.iconst 0, 1) := by decide +kernel
theorem dL_owed_104 : decode cL_owed 104 = .ok (.iadd, 1) := by decide +kernel
theorem dL_owed_105 : decode cL_owed 105 = .ok (.istore_n 3, 1) := by decide +kernel
theorem dL_owed_106 : decode cL_owed 106 = .ok (.iinc 4 1, 3) := by decide +kernel
theorem dL_owed_109 : decode cL_owed 109 = .ok (.goto (-83), 3) := by decide +kernel
theorem dL_owed_112 : decode cL_owed 112 = .ok (.iload_n 3, 1) := by decide +kernel
theorem dL_owed_113 : decode cL_owed 113 = .ok (.iload_n 0, 1) := by decide +kernel
theorem dL_owed_114 : decode cL_owed 114 = .ok (.if_icmp .ne 5, 3) := by decide +kernel
theorem dL_owed_117 : decode cL_owed 117 = .ok (.iload_n 2, 1) := by decide +kernel
theorem dL_owed_118 : decode cL_owed 118 = .ok (.ireturn, 1) := by decide +kernel
theorem dL_owed_119 : decode cL_owed 119 = .ok (.iinc 2 1, 3) := by decide +kernel
theorem dL_owed_122 : decode cL_owed 122 = .ok (.goto (-120), 3) := by decide +kernel
theorem dL_owed_125 : decode cL_owed 125 = .ok (.iconst (-1), 1) := by decide +kernel
theorem dL_owed_126 : decode cL_owed 126 = .ok (.ireturn, 1) := by decide +kernel
theorem dL_back_0 : decode cL_back 0 = .ok (.iconst 0, 1) := by decide +kernel
theorem dL_back_1 : decode cL_back 1 = .ok (.aload_n 1, 1) := by decide +kernel
theorem dL_back_2 : decode cL_back 2 = .ok (.invokestatic 26, 3) := by decide +kernel
theorem dL_back_5 : decode cL_back 5 = .ok (.istore 8, 2) := by decide +kernel
theorem dL_back_7 : decode cL_back 7 = .ok (.iload 8, 2) := by decide +kernel
theorem dL_back_9 : decode cL_back 9 = .ok (.aload 6, 2) := by decide +kernel
theorem dL_back_11 : decode cL_back 11 = .ok (.iconst 1, 1) := by decide +kernel
theorem dL_back_12 : decode cL_back 12 = .ok (.iaload, 1) := by decide +kernel
theorem dL_back_13 : decode cL_back 13 = .ok (.aload_n 0, 1) := by decide +kernel
theorem dL_back_14 : decode cL_back 14 = .ok (.aload_n 1, 1) := by decide +kernel
theorem dL_back_15 : decode cL_back 15 = .ok (.aload_n 2, 1) := by decide +kernel
theorem dL_back_16 : decode cL_back 16 = .ok (.aload_n 3, 1) := by decide +kernel
theorem dL_back_17 : decode cL_back 17 = .ok (.aload 4, 2) := by decide +kernel
theorem dL_back_19 : decode cL_back 19 = .ok (.aload 5, 2) := by decide +kernel
theorem dL_back_21 : decode cL_back 21 = .ok (.aload 6, 2) := by decide +kernel
theorem dL_back_23 : decode cL_back 23 = .ok (.aload 7, 2) := by decide +kernel
theorem dL_back_25 : decode cL_back 25 = .ok (.invokestatic 22, 3) := by decide +kernel
theorem dL_back_28 : decode cL_back 28 = .ok (.aload_n 1, 1) := by decide +kernel
theorem dL_back_29 : decode cL_back 29 = .ok (.iconst 4, 1) := by decide +kernel
theorem dL_back_30 : decode cL_back 30 = .ok (.iload 8, 2) := by decide +kernel
theorem dL_back_32 : decode cL_back 32 = .ok (.imul, 1) := by decide +kernel
theorem dL_back_33 : decode cL_back 33 = .ok (.iconst 2, 1) := by decide +kernel
theorem dL_back_34 : decode cL_back 34 = .ok (.iadd, 1) := by decide +kernel
theorem dL_back_35 : decode cL_back 35 = .ok (.iconst (-1), 1) := by decide +kernel
theorem dL_back_36 : decode cL_back 36 = .ok (.iastore, 1) := by decide +kernel
theorem dL_back_37 : decode cL_back 37 = .ok (.aload_n 0, 1) := by decide +kernel
theorem dL_back_38 : decode cL_back 38 = .ok (.iconst 4, 1) := by decide +kernel
theorem dL_back_39 : decode cL_back 39 = .ok (.iload 8, 2) := by decide +kernel
theorem dL_back_41 : decode cL_back 41 = .ok (.imul, 1) := by decide +kernel
theorem dL_back_42 : decode cL_back 42 = .ok (.iconst 1, 1) := by decide +kernel
theorem dL_back_43 : decode cL_back 43 = .ok (.iadd, 1) := by decide +kernel
theorem dL_back_44 : decode cL_back 44 = .ok (.iaload, 1) := by decide +kernel
theorem dL_back_45 : decode cL_back 45 = .ok (.aload 6, 2) := by decide +kernel
theorem dL_back_47 : decode cL_back 47 = .ok (.iconst 4, 1) := by decide +kernel
theorem dL_back_48 : decode cL_back 48 = .ok (.iaload, 1) := by decide +kernel
theorem dL_back_49 : decode cL_back 49 = .ok (.if_icmp .lt 22, 3) := by decide +kernel
theorem dL_back_52 : decode cL_back 52 = .ok (.aload_n 0, 1) := by decide +kernel
theorem dL_back_53 : decode cL_back 53 = .ok (.iconst 4, 1) := by decide +kernel
theorem dL_back_54 : decode cL_back 54 = .ok (.iload 8, 2) := by decide +kernel
theorem dL_back_56 : decode cL_back 56 = .ok (.imul, 1) := by decide +kernel
theorem dL_back_57 : decode cL_back 57 = .ok (.iconst 1, 1) := by decide +kernel
theorem dL_back_58 : decode cL_back 58 = .ok (.iastore, 1) := by decide +kernel
theorem dL_back_59 : decode cL_back 59 = .ok (.aload 7, 2) := by decide +kernel
theorem dL_back_61 : decode cL_back 61 = .ok (.bipush 6, 2) := by decide +kernel
theorem dL_back_63 : decode cL_back 63 = .ok (.dup2, 1) := by decide +kernel
theorem dL_back_64 : decode cL_back 64 = .ok (.iaload, 1) := by decide +kernel
theorem dL_back_65 : decode cL_back 65 = .ok (.iconst 1, 1) := by decide +kernel
theorem dL_back_66 : decode cL_back 66 = .ok (.iadd, 1) := by decide +kernel
theorem dL_back_67 : decode cL_back 67 = .ok (.iastore, 1) := by decide +kernel
theorem dL_back_68 : decode cL_back 68 = .ok (.goto 25, 3) := by decide +kernel
theorem dL_back_71 : decode cL_back 71 = .ok (.aload 7, 2) := by decide +kernel
theorem dL_back_73 : decode cL_back 73 = .ok (.bipush 7, 2) := by decide +kernel
theorem dL_back_75 : decode cL_back 75 = .ok (.dup2, 1) := by decide +kernel
theorem dL_back_76 : decode cL_back 76 = .ok (.iaload, 1) := by decide +kernel
theorem dL_back_77 : decode cL_back 77 = .ok (.iconst 1, 1) := by decide +kernel
theorem dL_back_78 : decode cL_back 78 = .ok (.iadd, 1) := by decide +kernel
theorem dL_back_79 : decode cL_back 79 = .ok (.iastore, 1) := by decide +kernel
theorem dL_back_80 : decode cL_back 80 = .ok (.iload 8, 2) := by decide +kernel
theorem dL_back_82 : decode cL_back 82 = .ok (.aload_n 0, 1) := by decide +kernel
theorem dL_back_83 : decode cL_back 83 = .ok (.aload_n 1, 1) := by decide +kernel
theorem dL_back_84 : decode cL_back 84 = .ok (.aload_n 2, 1) := by decide +kernel
theorem dL_back_85 : decode cL_back 85 = .ok (.aload_n 3, 1) := by decide +kernel
theorem dL_back_86 : decode cL_back 86 = .ok (.aload 4, 2) := by decide +kernel
theorem dL_back_88 : decode cL_back 88 = .ok (.aload 5, 2) := by decide +kernel
theorem dL_back_90 : decode cL_back 90 = .ok (.invokestatic 18, 3) := by decide +kernel
theorem dL_back_93 : decode cL_back 93 = .ok (.iload 8, 2) := by decide +kernel
theorem dL_back_95 : decode cL_back 95 = .ok (.invokestatic 30, 3) := by decide +kernel
theorem dL_back_98 : decode cL_back 98 = .ok (.ireturn, 1) := by decide +kernel
theorem dL_tick_0 : decode cL_tick 0 = .ok (.aload 7, 2) := by decide +kernel
theorem dL_tick_2 : decode cL_tick 2 = .ok (.iconst 0, 1) := by decide +kernel
theorem dL_tick_3 : decode cL_tick 3 = .ok (.dup2, 1) := by decide +kernel
theorem dL_tick_4 : decode cL_tick 4 = .ok (.iaload, 1) := by decide +kernel
theorem dL_tick_5 : decode cL_tick 5 = .ok (.iconst 1, 1) := by decide +kernel
theorem dL_tick_6 : decode cL_tick 6 = .ok (.iadd, 1) := by decide +kernel
theorem dL_tick_7 : decode cL_tick 7 = .ok (.iastore, 1) := by decide +kernel
theorem dL_tick_8 : decode cL_tick 8 = .ok (.aload 7, 2) := by decide +kernel
theorem dL_tick_10 : decode cL_tick 10 = .ok (.iconst 1, 1) := by decide +kernel
theorem dL_tick_11 : decode cL_tick 11 = .ok (.aload 7, 2) := by decide +kernel
theorem dL_tick_13 : decode cL_tick 13 = .ok (.iconst 1, 1) := by decide +kernel
theorem dL_tick_14 : decode cL_tick 14 = .ok (.iaload, 1) := by decide +kernel
theorem dL_tick_15 : decode cL_tick 15 = .ok (.aload 6, 2) := by decide +kernel
theorem dL_tick_17 : decode cL_tick 17 = .ok (.bipush 6, 2) := by decide +kernel
theorem dL_tick_19 : decode cL_tick 19 = .ok (.iaload, 1) := by decide +kernel
theorem dL_tick_20 : decode cL_tick 20 = .ok (.if_icmp .ge 7, 3) := by decide +kernel
theorem dL_tick_23 : decode cL_tick 23 = .ok (.iconst 0, 1) := by decide +kernel
theorem dL_tick_24 : decode cL_tick 24 = .ok (.goto 13, 3) := by decide +kernel
theorem dL_tick_27 : decode cL_tick 27 = .ok (.aload 7, 2) := by decide +kernel
theorem dL_tick_29 : decode cL_tick 29 = .ok (.iconst 1, 1) := by decide +kernel
theorem dL_tick_30 : decode cL_tick 30 = .ok (.iaload, 1) := by decide +kernel
theorem dL_tick_31 : decode cL_tick 31 = .ok (.aload 6, 2) := by decide +kernel
theorem dL_tick_33 : decode cL_tick 33 = .ok (.bipush 6, 2) := by decide +kernel
theorem dL_tick_35 : decode cL_tick 35 = .ok (.iaload, 1) := by decide +kernel
theorem dL_tick_36 : decode cL_tick 36 = .ok (.isub, 1) := by decide +kernel
theorem dL_tick_37 : decode cL_tick 37 = .ok (.iastore, 1) := by decide +kernel
theorem dL_tick_38 : decode cL_tick 38 = .ok (.iconst 0, 1) := by decide +kernel
theorem dL_tick_39 : decode cL_tick 39 = .ok (.aload_n 1, 1) := by decide +kernel
theorem dL_tick_40 : decode cL_tick 40 = .ok (.invokestatic 26, 3) := by decide +kernel
theorem dL_tick_43 : decode cL_tick 43 = .ok (.istore 8, 2) := by decide +kernel
theorem dL_tick_45 : decode cL_tick 45 = .ok (.iload 8, 2) := by decide +kernel
theorem dL_tick_47 : decode cL_tick 47 = .ok (.ifCond .lt 59, 3) := by decide +kernel
theorem dL_tick_50 : decode cL_tick 50 = .ok (.aload_n 1, 1) := by decide +kernel
theorem dL_tick_51 : decode cL_tick 51 = .ok (.iconst 4, 1) := by decide +kernel
theorem dL_tick_52 : decode cL_tick 52 = .ok (.iload 8, 2) := by decide +kernel
theorem dL_tick_54 : decode cL_tick 54 = .ok (.imul, 1) := by decide +kernel
theorem dL_tick_55 : decode cL_tick 55 = .ok (.iconst 2, 1) := by decide +kernel
theorem dL_tick_56 : decode cL_tick 56 = .ok (.iadd, 1) := by decide +kernel
theorem dL_tick_57 : decode cL_tick 57 = .ok (.iaload, 1) := by decide +kernel
theorem dL_tick_58 : decode cL_tick 58 = .ok (.aload 7, 2) := by decide +kernel
theorem dL_tick_60 : decode cL_tick 60 = .ok (.iconst 0, 1) := by decide +kernel
theorem dL_tick_61 : decode cL_tick 61 = .ok (.iaload, 1) := by decide +kernel
theorem dL_tick_62 : decode cL_tick 62 = .ok (.if_icmp .ge 44, 3) := by decide +kernel
theorem dL_tick_65 : decode cL_tick 65 = .ok (.aload_n 1, 1) := by decide +kernel
theorem dL_tick_66 : decode cL_tick 66 = .ok (.iconst 4, 1) := by decide +kernel
theorem dL_tick_67 : decode cL_tick 67 = .ok (.iload 8, 2) := by decide +kernel
theorem dL_tick_69 : decode cL_tick 69 = .ok (.imul, 1) := by decide +kernel
theorem dL_tick_70 : decode cL_tick 70 = .ok (.iconst 2, 1) := by decide +kernel
theorem dL_tick_71 : decode cL_tick 71 = .ok (.iadd, 1) := by decide +kernel
theorem dL_tick_72 : decode cL_tick 72 = .ok (.iconst (-1), 1) := by decide +kernel
theorem dL_tick_73 : decode cL_tick 73 = .ok (.iastore, 1) := by decide +kernel
theorem dL_tick_74 : decode cL_tick 74 = .ok (.aload 7, 2) := by decide +kernel
theorem dL_tick_76 : decode cL_tick 76 = .ok (.bipush 8, 2) := by decide +kernel
theorem dL_tick_78 : decode cL_tick 78 = .ok (.dup2, 1) := by decide +kernel
theorem dL_tick_79 : decode cL_tick 79 = .ok (.iaload, 1) := by decide +kernel
theorem dL_tick_80 : decode cL_tick 80 = .ok (.iconst 1, 1) := by decide +kernel
theorem dL_tick_81 : decode cL_tick 81 = .ok (.iadd, 1) := by decide +kernel
theorem dL_tick_82 : decode cL_tick 82 = .ok (.iastore, 1) := by decide +kernel
theorem dL_tick_83 : decode cL_tick 83 = .ok (.iload 8, 2) := by decide +kernel
theorem dL_tick_85 : decode cL_tick 85 = .ok (.aload_n 0, 1) := by decide +kernel
theorem dL_tick_86 : decode cL_tick 86 = .ok (.aload_n 1, 1) := by decide +kernel
theorem dL_tick_87 : decode cL_tick 87 = .ok (.aload_n 2, 1) := by decide +kernel
theorem dL_tick_88 : decode cL_tick 88 = .ok (.aload_n 3, 1) := by decide +kernel
theorem dL_tick_89 : decode cL_tick 89 = .ok (.aload 4, 2) := by decide +kernel
theorem dL_tick_91 : decode cL_tick 91 = .ok (.aload 5, 2) := by decide +kernel
theorem dL_tick_93 : decode cL_tick 93 = .ok (.invokestatic 18, 3) := by decide +kernel
theorem dL_tick_96 : decode cL_tick 96 = .ok (.iconst 0, 1) := by decide +kernel
theorem dL_tick_97 : decode cL_tick 97 = .ok (.aload_n 1, 1) := by decide +kernel
theorem dL_tick_98 : decode cL_tick 98 = .ok (.invokestatic 26, 3) := by decide +kernel
theorem dL_tick_101 : decode cL_tick 101 = .ok (.istore 8, 2) := by decide +kernel
theorem dL_tick_103 : decode cL_tick 103 = .ok (.goto (-58), 3) := by decide +kernel
theorem dL_tick_106 : decode cL_tick 106 = .ok (.iconst 0, 1) := by decide +kernel
theorem dL_tick_107 : decode cL_tick 107 = .ok (.istore 9, 2) := by decide +kernel
theorem dL_tick_109 : decode cL_tick 109 = .ok (.iload 9, 2) := by decide +kernel
theorem dL_tick_111 : decode cL_tick 111 = .ok (.bipush 16, 2) := by decide +kernel
theorem dL_tick_113 : decode cL_tick 113 = .ok (.if_icmp .ge 51, 3) := by decide +kernel
theorem dL_tick_116 : decode cL_tick 116 = .ok (.aload_n 1, 1) := by decide +kernel
theorem dL_tick_117 : decode cL_tick 117 = .ok (.iconst 4, 1) := by decide +kernel
theorem dL_tick_118 : decode cL_tick 118 = .ok (.iload 9, 2) := by decide +kernel
theorem dL_tick_120 : decode cL_tick 120 = .ok (.imul, 1) := by decide +kernel
theorem dL_tick_121 : decode cL_tick 121 = .ok (.iaload, 1) := by decide +kernel
theorem dL_tick_122 : decode cL_tick 122 = .ok (.ifCond .ge 6, 3) := by decide +kernel
theorem dL_tick_125 : decode cL_tick 125 = .ok (.goto 33, 3) := by decide +kernel
theorem dL_tick_128 : decode cL_tick 128 = .ok (.aload_n 1, 1) := by decide +kernel
theorem dL_tick_129 : decode cL_tick 129 = .ok (.iconst 4, 1) := by decide +kernel
theorem dL_tick_130 : decode cL_tick 130 = .ok (.iload 9, 2) := by decide +kernel
theorem dL_tick_132 : decode cL_tick 132 = .ok (.imul, 1) := by decide +kernel
theorem dL_tick_133 : decode cL_tick 133 = .ok (.iconst 1, 1) := by decide +kernel
theorem dL_tick_134 : decode cL_tick 134 = .ok (.iadd, 1) := by decide +kernel
theorem dL_tick_135 : decode cL_tick 135 = .ok (.dup2, 1) := by decide +kernel
theorem dL_tick_136 : decode cL_tick 136 = .ok (.iaload, 1) := by decide +kernel
theorem dL_tick_137 : decode cL_tick 137 = .ok (.iconst 1, 1) := by decide +kernel
theorem dL_tick_138 : decode cL_tick 138 = .ok (.isub, 1) := by decide +kernel
theorem dL_tick_139 : decode cL_tick 139 = .ok (.iastore, 1) := by decide +kernel
theorem dL_tick_140 : decode cL_tick 140 = .ok (.aload_n 1, 1) := by decide +kernel
theorem dL_tick_141 : decode cL_tick 141 = .ok (.iconst 4, 1) := by decide +kernel
theorem dL_tick_142 : decode cL_tick 142 = .ok (.iload 9, 2) := by decide +kernel
theorem dL_tick_144 : decode cL_tick 144 = .ok (.imul, 1) := by decide +kernel
theorem dL_tick_145 : decode cL_tick 145 = .ok (.iconst 1, 1) := by decide +kernel
theorem dL_tick_146 : decode cL_tick 146 = .ok (.iadd, 1) := by decide +kernel
theorem dL_tick_147 : decode cL_tick 147 = .ok (.iaload, 1) := by decide +kernel
theorem dL_tick_148 : decode cL_tick 148 = .ok (.ifCond .ne 10, 3) := by decide +kernel
theorem dL_tick_151 : decode cL_tick 151 = .ok (.aload_n 1, 1) := by decide +kernel
theorem dL_tick_152 : decode cL_tick 152 = .ok (.iconst 4, 1) := by decide +kernel
theorem dL_tick_153 : decode cL_tick 153 = .ok (.iload 9, 2) := by decide +kernel
theorem dL_tick_155 : decode cL_tick 155 = .ok (.imul, 1) := by decide +kernel
theorem dL_tick_156 : decode cL_tick 156 = .ok (.iconst (-1), 1) := by decide +kernel
theorem dL_tick_157 : decode cL_tick 157 = .ok (.iastore, 1) := by decide +kernel
theorem dL_tick_158 : decode cL_tick 158 = .ok (.iinc 9 1, 3) := by decide +kernel
theorem dL_tick_161 : decode cL_tick 161 = .ok (.goto (-52), 3) := by decide +kernel
theorem dL_tick_164 : decode cL_tick 164 = .ok (.iconst 0, 1) := by decide +kernel
theorem dL_tick_165 : decode cL_tick 165 = .ok (.istore 9, 2) := by decide +kernel
theorem dL_tick_167 : decode cL_tick 167 = .ok (.iload 9, 2) := by decide +kernel
theorem dL_tick_169 : decode cL_tick 169 = .ok (.bipush 16, 2) := by decide +kernel
theorem dL_tick_171 : decode cL_tick 171 = .ok (.if_icmp .ge 91, 3) := by decide +kernel
theorem dL_tick_174 : decode cL_tick 174 = .ok (.aload_n 0, 1) := by decide +kernel
theorem dL_tick_175 : decode cL_tick 175 = .ok (.iconst 4, 1) := by decide +kernel
theorem dL_tick_176 : decode cL_tick 176 = .ok (.iload 9, 2) := by decide +kernel
theorem dL_tick_178 : decode cL_tick 178 = .ok (.imul, 1) := by decide +kernel
theorem dL_tick_179 : decode cL_tick 179 = .ok (.iconst 2, 1) := by decide +kernel
theorem dL_tick_180 : decode cL_tick 180 = .ok (.iadd, 1) := by decide +kernel
theorem dL_tick_181 : decode cL_tick 181 = .ok (.iaload, 1) := by decide +kernel
theorem dL_tick_182 : decode cL_tick 182 = .ok (.ifCond .ge 6, 3) := by decide +kernel
theorem dL_tick_185 : decode cL_tick 185 = .ok (.goto 71, 3) := by decide +kernel
theorem dL_tick_188 : decode cL_tick 188 = .ok (.aload_n 0, 1) := by decide +kernel
theorem dL_tick_189 : decode cL_tick 189 = .ok (.iconst 4, 1) := by decide +kernel
theorem dL_tick_190 : decode cL_tick 190 = .ok (.iload 9, 2) := by decide +kernel
theorem dL_tick_192 : decode cL_tick 192 = .ok (.imul, 1) := by decide +kernel
theorem dL_tick_193 : decode cL_tick 193 = .ok (.iconst 3, 1) := by decide +kernel
theorem dL_tick_194 : decode cL_tick 194 = .ok (.iadd, 1) := by decide +kernel
theorem dL_tick_195 : decode cL_tick 195 = .ok (.dup2, 1) := by decide +kernel
theorem dL_tick_196 : decode cL_tick 196 = .ok (.iaload, 1) := by decide +kernel
theorem dL_tick_197 : decode cL_tick 197 = .ok (.iconst 1, 1) := by decide +kernel
theorem dL_tick_198 : decode cL_tick 198 = .ok (.isub, 1) := by decide +kernel
theorem dL_tick_199 : decode cL_tick 199 = .ok (.iastore, 1) := by decide +kernel
theorem dL_tick_200 : decode cL_tick 200 = .ok (.aload_n 0, 1) := by decide +kernel
theorem dL_tick_201 : decode cL_tick 201 = .ok (.iconst 4, 1) := by decide +kernel
theorem dL_tick_202 : decode cL_tick 202 = .ok (.iload 9, 2) := by decide +kernel
theorem dL_tick_204 : decode cL_tick 204 = .ok (.imul, 1) := by decide +kernel
theorem dL_tick_205 : decode cL_tick 205 = .ok (.iconst 3, 1) := by decide +kernel
theorem dL_tick_206 : decode cL_tick 206 = .ok (.iadd, 1) := by decide +kernel
theorem dL_tick_207 : decode cL_tick 207 = .ok (.iaload, 1) := by decide +kernel
theorem dL_tick_208 : decode cL_tick 208 = .ok (.ifCond .le 6, 3) := by decide +kernel
theorem dL_tick_211 : decode cL_tick 211 = .ok (.goto 45, 3) := by decide +kernel
theorem dL_tick_214 : decode cL_tick 214 = .ok (.aload_n 0, 1) := by decide +kernel
theorem dL_tick_215 : decode cL_tick 215 = .ok (.iconst 4, 1) := by decide +kernel
theorem dL_tick_216 : decode cL_tick 216 = .ok (.iload 9, 2) := by decide +kernel
theorem dL_tick_218 : decode cL_tick 218 = .ok (.imul, 1) := by decide +kernel
theorem dL_tick_219 : decode cL_tick 219 = .ok (.iconst 2, 1) := by decide +kernel
theorem dL_tick_220 : decode cL_tick 220 = .ok (.iadd, 1) := by decide +kernel
theorem dL_tick_221 : decode cL_tick 221 = .ok (.iconst (-1), 1) := by decide +kernel
theorem dL_tick_222 : decode cL_tick 222 = .ok (.iastore, 1) := by decide +kernel
theorem dL_tick_223 : decode cL_tick 223 = .ok (.aload 7, 2) := by decide +kernel
theorem dL_tick_225 : decode cL_tick 225 = .ok (.bipush 11, 2) := by decide +kernel
theorem dL_tick_227 : decode cL_tick 227 = .ok (.dup2, 1) := by decide +kernel
theorem dL_tick_228 : decode cL_tick 228 = .ok (.iaload, 1) := by decide +kernel
theorem dL_tick_229 : decode cL_tick 229 = .ok (.aload_n 1, 1) := by decide +kernel
theorem dL_tick_230 : decode cL_tick 230 = .ok (.iconst 4, 1) := by decide +kernel
theorem dL_tick_231 : decode cL_tick 231 = .ok (.iload 9, 2) := by decide +kernel
theorem dL_tick_233 : decode cL_tick 233 = .ok (.imul, 1) := by decide +kernel
theorem dL_tick_234 : decode cL_tick 234 = .ok (.iconst 2, 1) := by decide +kernel
theorem dL_tick_235 : decode cL_tick 235 = .ok (.iadd, 1) := by decide +kernel
theorem dL_tick_236 : decode cL_tick 236 = .ok (.iaload, 1) := by decide +kernel
theorem dL_tick_237 : decode cL_tick 237 = .ok (.ifCond .ge 7, 3) := by decide +kernel
theorem dL_tick_240 : decode cL_tick 240 = .ok (.iconst 0, 1) := by decide +kernel
theorem dL_tick_241 : decode cL_tick 241 = .ok (.goto 4, 3) := by decide +kernel
theorem dL_tick_244 : decode cL_tick 244 = .ok (.iconst 1, 1) := by decide +kernel
theorem dL_tick_245 : decode cL_tick 245 = .ok (.iadd, 1) := by decide +kernel
theorem dL_tick_246 : decode cL_tick 246 = .ok (.iastore, 1) := by decide +kernel
theorem dL_tick_247 : decode cL_tick 247 = .ok (.aload_n 1, 1) := by decide +kernel
theorem dL_tick_248 : decode cL_tick 248 = .ok (.iconst 4, 1) := by decide +kernel
theorem dL_tick_249 : decode cL_tick 249 = .ok (.iload 9, 2) := by decide +kernel
theorem dL_tick_251 : decode cL_tick 251 = .ok (.imul, 1) := by decide +kernel
theorem dL_tick_252 : decode cL_tick 252 = .ok (.iconst 2, 1) := by decide +kernel
theorem dL_tick_253 : decode cL_tick 253 = .ok (.iadd, 1) := by decide +kernel
theorem dL_tick_254 : decode cL_tick 254 = .ok (.iconst (-1), 1) := by decide +kernel
theorem dL_tick_255 : decode cL_tick 255 = .ok (.iastore, 1) := by decide +kernel
theorem dL_tick_256 : decode cL_tick 256 = .ok (.iinc 9 1, 3) := by decide +kernel
theorem dL_tick_259 : decode cL_tick 259 = .ok (.goto (-92), 3) := by decide +kernel
theorem dL_tick_262 : decode cL_tick 262 = .ok (.return_, 1) := by decide +kernel
theorem dL_premium_0 : decode cL_premium 0 = .ok (.iconst 1, 1) := by decide +kernel
theorem dL_premium_1 : decode cL_premium 1 = .ok (.bipush 110, 2) := by decide +kernel
theorem dL_premium_3 : decode cL_premium 3 = .ok (.aload 5, 2) := by decide +kernel
theorem dL_premium_5 : decode cL_premium 5 = .ok (.iconst 1, 1) := by decide +kernel
theorem dL_premium_6 : decode cL_premium 6 = .ok (.iaload, 1) := by decide +kernel
theorem dL_premium_7 : decode cL_premium 7 = .ok (.iadd, 1) := by decide +kernel
theorem dL_premium_8 : decode cL_premium 8 = .ok (.aload_n 3, 1) := by decide +kernel
theorem dL_premium_9 : decode cL_premium 9 = .ok (.iconst 4, 1) := by decide +kernel
theorem dL_premium_10 : decode cL_premium 10 = .ok (.iload_n 0, 1) := by decide +kernel
theorem dL_premium_11 : decode cL_premium 11 = .ok (.imul, 1) := by decide +kernel
theorem dL_premium_12 : decode cL_premium 12 = .ok (.iconst 1, 1) := by decide +kernel
theorem dL_premium_13 : decode cL_premium 13 = .ok (.iadd, 1) := by decide +kernel
theorem dL_premium_14 : decode cL_premium 14 = .ok (.iaload, 1) := by decide +kernel
theorem dL_premium_15 : decode cL_premium 15 = .ok (.isub, 1) := by decide +kernel
theorem dL_premium_16 : decode cL_premium 16 = .ok (.iload_n 2, 1) := by decide +kernel
theorem dL_premium_17 : decode cL_premium 17 = .ok (.imul, 1) := by decide +kernel
theorem dL_premium_18 : decode cL_premium 18 = .ok (.aload 4, 2) := by decide +kernel
theorem dL_premium_20 : decode cL_premium 20 = .ok (.bipush 6, 2) := by decide +kernel
theorem dL_premium_22 : decode cL_premium 22 = .ok (.iload_n 1, 1) := by decide +kernel
theorem dL_premium_23 : decode cL_premium 23 = .ok (.imul, 1) := by decide +kernel
theorem dL_premium_24 : decode cL_premium 24 = .ok (.iconst 1, 1) := by decide +kernel
theorem dL_premium_25 : decode cL_premium 25 = .ok (.iadd, 1) := by decide +kernel
theorem dL_premium_26 : decode cL_premium 26 = .ok (.iaload, 1) := by decide +kernel
theorem dL_premium_27 : decode cL_premium 27 = .ok (.imul, 1) := by decide +kernel
theorem dL_premium_28 : decode cL_premium 28 = .ok (.sipush 1000, 3) := by decide +kernel
theorem dL_premium_31 : decode cL_premium 31 = .ok (.idiv, 1) := by decide +kernel
theorem dL_premium_32 : decode cL_premium 32 = .ok (.iadd, 1) := by decide +kernel
theorem dL_premium_33 : decode cL_premium 33 = .ok (.ireturn, 1) := by decide +kernel
theorem dL_risk_0 : decode cL_risk 0 = .ok (.iconst 0, 1) := by decide +kernel
theorem dL_risk_1 : decode cL_risk 1 = .ok (.istore 5, 2) := by decide +kernel
theorem dL_risk_3 : decode cL_risk 3 = .ok (.iconst 0, 1) := by decide +kernel
theorem dL_risk_4 : decode cL_risk 4 = .ok (.istore 6, 2) := by decide +kernel
theorem dL_risk_6 : decode cL_risk 6 = .ok (.iload 6, 2) := by decide +kernel
theorem dL_risk_8 : decode cL_risk 8 = .ok (.bipush 16, 2) := by decide +kernel
theorem dL_risk_10 : decode cL_risk 10 = .ok (.if_icmp .ge 89, 3) := by decide +kernel
theorem dL_risk_13 : decode cL_risk 13 = .ok (.iload 5, 2) := by decide +kernel
theorem dL_risk_15 : decode cL_risk 15 = .ok (.iload_n 0, 1) := by decide +kernel
theorem dL_risk_16 : decode cL_risk 16 = .ok (.iload 6, 2) := by decide +kernel
theorem dL_risk_18 : decode cL_risk 18 = .ok (.invokestatic 14, 3) := by decide +kernel
theorem dL_risk_21 : decode cL_risk 21 = .ok (.ifCond .eq 68, 3) := by decide +kernel
theorem dL_risk_24 : decode cL_risk 24 = .ok (.aload_n 2, 1) := by decide +kernel
theorem dL_risk_25 : decode cL_risk 25 = .ok (.iconst 4, 1) := by decide +kernel
theorem dL_risk_26 : decode cL_risk 26 = .ok (.iload 6, 2) := by decide +kernel
theorem dL_risk_28 : decode cL_risk 28 = .ok (.imul, 1) := by decide +kernel
theorem dL_risk_29 : decode cL_risk 29 = .ok (.iaload, 1) := by decide +kernel
theorem dL_risk_30 : decode cL_risk 30 = .ok (.iconst 1, 1) := by decide +kernel
theorem dL_risk_31 : decode cL_risk 31 = .ok (.if_icmp .ne 58, 3) := by decide +kernel
theorem dL_risk_34 : decode cL_risk 34 = .ok (.aload_n 2, 1) := by decide +kernel
theorem dL_risk_35 : decode cL_risk 35 = .ok (.iconst 4, 1) := by decide +kernel
theorem dL_risk_36 : decode cL_risk 36 = .ok (.iload 6, 2) := by decide +kernel
theorem dL_risk_38 : decode cL_risk 38 = .ok (.imul, 1) := by decide +kernel
theorem dL_risk_39 : decode cL_risk 39 = .ok (.iconst 1, 1) := by decide +kernel
theorem dL_risk_40 : decode cL_risk 40 = .ok (.iadd, 1) := by decide +kernel
theorem dL_risk_41 : decode cL_risk 41 = .ok (.iaload, 1) := by decide +kernel
theorem dL_risk_42 : decode cL_risk 42 = .ok (.aload 4, 2) := by decide +kernel
theorem dL_risk_44 : decode cL_risk 44 = .ok (.iconst 5, 1) := by decide +kernel
theorem dL_risk_45 : decode cL_risk 45 = .ok (.iaload, 1) := by decide +kernel
theorem dL_risk_46 : decode cL_risk 46 = .ok (.if_icmp .ge 43, 3) := by decide +kernel
theorem dL_risk_49 : decode cL_risk 49 = .ok (.iload_n 1, 1) := by decide +kernel
theorem dL_risk_50 : decode cL_risk 50 = .ok (.iconst (-1), 1) := by decide +kernel
theorem dL_risk_51 : decode cL_risk 51 = .ok (.if_icmp .eq 34, 3) := by decide +kernel
theorem dL_risk_54 : decode cL_risk 54 = .ok (.iload_n 1, 1) := by decide +kernel
theorem dL_risk_55 : decode cL_risk 55 = .ok (.bipush (-2), 2) := by decide +kernel
theorem dL_risk_57 : decode cL_risk 57 = .ok (.if_icmp .ne 12, 3) := by decide +kernel
theorem dL_risk_60 : decode cL_risk 60 = .ok (.aload_n 3, 1) := by decide +kernel
theorem dL_risk_61 : decode cL_risk 61 = .ok (.iconst 4, 1) := by decide +kernel
theorem dL_risk_62 : decode cL_risk 62 = .ok (.iload 6, 2) := by decide +kernel
theorem dL_risk_64 : decode cL_risk 64 = .ok (.imul, 1) := by decide +kernel
theorem dL_risk_65 : decode cL_risk 65 = .ok (.iaload, 1) := by decide +kernel
theorem dL_risk_66 : decode cL_risk 66 = .ok (.ifCond .ge 19, 3) := by decide +kernel
theorem dL_risk_69 : decode cL_risk 69 = .ok (.iload_n 1, 1) := by decide +kernel
theorem dL_risk_70 : decode cL_risk 70 = .ok (.ifCond .lt 19, 3) := by decide +kernel
theorem dL_risk_73 : decode cL_risk 73 = .ok (.aload_n 2, 1) := by decide +kernel
theorem dL_risk_74 : decode cL_risk 74 = .ok (.iconst 4, 1) := by decide +kernel
theorem dL_risk_75 : decode cL_risk 75 = .ok (.iload 6, 2) := by decide +kernel
theorem dL_risk_77 : decode cL_risk 77 = .ok (.imul, 1) := by decide +kernel
theorem dL_risk_78 : decode cL_risk 78 = .ok (.iconst 2, 1) := by decide +kernel
theorem dL_risk_79 : decode cL_risk 79 = .ok (.iadd, 1) := by decide +kernel
theorem dL_risk_80 : decode cL_risk 80 = .ok (.iaload, 1) := by decide +kernel
theorem dL_risk_81 : decode cL_risk 81 = .ok (.iload_n 1, 1) := by decide +kernel
theorem dL_risk_82 : decode cL_risk 82 = .ok (.if_icmp .ne 7, 3) := by decide +kernel
theorem dL_risk_85 : decode cL_risk 85 = .ok (.iconst 1, 1) := by decide +kernel
theorem dL_risk_86 : decode cL_risk 86 = .ok (.goto 4, 3) := by decide +kernel
theorem dL_risk_89 : decode cL_risk 89 = .ok (.iconst 0, 1) := by decide +kernel
theorem dL_risk_90 : decode cL_risk 90 = .ok (.iadd, 1) := by decide +kernel
theorem dL_risk_91 : decode cL_risk 91 = .ok (.istore 5, 2) := by decide +kernel
theorem dL_risk_93 : decode cL_risk 93 = .ok (.iinc 6 1, 3) := by decide +kernel
theorem dL_risk_96 : decode cL_risk 96 = .ok (.goto (-90), 3) := by decide +kernel
theorem dL_risk_99 : decode cL_risk 99 = .ok (.iload 5, 2) := by decide +kernel
theorem dL_risk_101 : decode cL_risk 101 = .ok (.ireturn, 1) := by decide +kernel
theorem dL_cores_0 : decode cL_cores 0 = .ok (.iconst (-1), 1) := by decide +kernel
theorem dL_cores_1 : decode cL_cores 1 = .ok (.istore 7, 2) := by decide +kernel
theorem dL_cores_3 : decode cL_cores 3 = .ok (.iconst 0, 1) := by decide +kernel
theorem dL_cores_4 : decode cL_cores 4 = .ok (.istore 8, 2) := by decide +kernel
theorem dL_cores_6 : decode cL_cores 6 = .ok (.iload 8, 2) := by decide +kernel
theorem dL_cores_8 : decode cL_cores 8 = .ok (.bipush 16, 2) := by decide +kernel
theorem dL_cores_10 : decode cL_cores 10 = .ok (.if_icmp .ge 293, 3) := by decide +kernel
theorem dL_cores_13 : decode cL_cores 13 = .ok (.iload 8, 2) := by decide +kernel
theorem dL_cores_15 : decode cL_cores 15 = .ok (.invokestatic 30, 3) := by decide +kernel
theorem dL_cores_18 : decode cL_cores 18 = .ok (.istore 9, 2) := by decide +kernel
theorem dL_cores_20 : decode cL_cores 20 = .ok (.iconst 4, 1) := by decide +kernel
theorem dL_cores_21 : decode cL_cores 21 = .ok (.iload 8, 2) := by decide +kernel
theorem dL_cores_23 : decode cL_cores 23 = .ok (.imul, 1) := by decide +kernel
theorem dL_cores_24 : decode cL_cores 24 = .ok (.istore 10, 2) := by decide +kernel
theorem dL_cores_26 : decode cL_cores 26 = .ok (.aload_n 0, 1) := by decide +kernel
theorem dL_cores_27 : decode cL_cores 27 = .ok (.iload 9, 2) := by decide +kernel
theorem dL_cores_29 : decode cL_cores 29 = .ok (.iconst 0, 1) := by decide +kernel
theorem dL_cores_30 : decode cL_cores 30 = .ok (.invokevirtual 34, 3) := by decide +kernel
theorem dL_cores_33 : decode cL_cores 33 = .ok (.aload_n 2, 1) := by decide +kernel
theorem dL_cores_34 : decode cL_cores 34 = .ok (.iload 10, 2) := by decide +kernel
theorem dL_cores_36 : decode cL_cores 36 = .ok (.iaload, 1) := by decide +kernel
theorem dL_cores_37 : decode cL_cores 37 = .ok (.if_icmp .ne 81, 3) := by decide +kernel
theorem dL_cores_40 : decode cL_cores 40 = .ok (.aload_n 0, 1) := by decide +kernel
theorem dL_cores_41 : decode cL_cores 41 = .ok (.iload 9, 2) := by decide +kernel
theorem dL_cores_43 : decode cL_cores 43 = .ok (.iconst 1, 1) := by decide +kernel
theorem dL_cores_44 : decode cL_cores 44 = .ok (.invokevirtual 34, 3) := by decide +kernel
theorem dL_cores_47 : decode cL_cores 47 = .ok (.aload_n 2, 1) := by decide +kernel
theorem dL_cores_48 : decode cL_cores 48 = .ok (.iload 10, 2) := by decide +kernel
theorem dL_cores_50 : decode cL_cores 50 = .ok (.iconst 1, 1) := by decide +kernel
theorem dL_cores_51 : decode cL_cores 51 = .ok (.iadd, 1) := by decide +kernel
theorem dL_cores_52 : decode cL_cores 52 = .ok (.iaload, 1) := by decide +kernel
theorem dL_cores_53 : decode cL_cores 53 = .ok (.if_icmp .ne 65, 3) := by decide +kernel
theorem dL_cores_56 : decode cL_cores 56 = .ok (.aload_n 0, 1) := by decide +kernel
theorem dL_cores_57 : decode cL_cores 57 = .ok (.iload 9, 2) := by decide +kernel
theorem dL_cores_59 : decode cL_cores 59 = .ok (.iconst 2, 1) := by decide +kernel
theorem dL_cores_60 : decode cL_cores 60 = .ok (.invokevirtual 34, 3) := by decide +kernel
theorem dL_cores_63 : decode cL_cores 63 = .ok (.aload_n 2, 1) := by decide +kernel
theorem dL_cores_64 : decode cL_cores 64 = .ok (.iload 10, 2) := by decide +kernel
theorem dL_cores_66 : decode cL_cores 66 = .ok (.iconst 2, 1) := by decide +kernel
theorem dL_cores_67 : decode cL_cores 67 = .ok (.iadd, 1) := by decide +kernel
theorem dL_cores_68 : decode cL_cores 68 = .ok (.iaload, 1) := by decide +kernel
theorem dL_cores_69 : decode cL_cores 69 = .ok (.if_icmp .ne 49, 3) := by decide +kernel
theorem dL_cores_72 : decode cL_cores 72 = .ok (.aload_n 0, 1) := by decide +kernel
theorem dL_cores_73 : decode cL_cores 73 = .ok (.iload 9, 2) := by decide +kernel
theorem dL_cores_75 : decode cL_cores 75 = .ok (.iconst 3, 1) := by decide +kernel
theorem dL_cores_76 : decode cL_cores 76 = .ok (.invokevirtual 34, 3) := by decide +kernel
theorem dL_cores_79 : decode cL_cores 79 = .ok (.aload_n 2, 1) := by decide +kernel
theorem dL_cores_80 : decode cL_cores 80 = .ok (.iload 10, 2) := by decide +kernel
theorem dL_cores_82 : decode cL_cores 82 = .ok (.iconst 3, 1) := by decide +kernel
theorem dL_cores_83 : decode cL_cores 83 = .ok (.iadd, 1) := by decide +kernel
theorem dL_cores_84 : decode cL_cores 84 = .ok (.iaload, 1) := by decide +kernel
theorem dL_cores_85 : decode cL_cores 85 = .ok (.if_icmp .ne 33, 3) := by decide +kernel
theorem dL_cores_88 : decode cL_cores 88 = .ok (.aload_n 0, 1) := by decide +kernel
theorem dL_cores_89 : decode cL_cores 89 = .ok (.iload 9, 2) := by decide +kernel
theorem dL_cores_91 : decode cL_cores 91 = .ok (.iconst 4, 1) := by decide +kernel
theorem dL_cores_92 : decode cL_cores 92 = .ok (.invokevirtual 34, 3) := by decide +kernel
theorem dL_cores_95 : decode cL_cores 95 = .ok (.aload_n 3, 1) := by decide +kernel
theorem dL_cores_96 : decode cL_cores 96 = .ok (.iload 10, 2) := by decide +kernel
theorem dL_cores_98 : decode cL_cores 98 = .ok (.iaload, 1) := by decide +kernel
theorem dL_cores_99 : decode cL_cores 99 = .ok (.if_icmp .ne 19, 3) := by decide +kernel
theorem dL_cores_102 : decode cL_cores 102 = .ok (.aload_n 0, 1) := by decide +kernel
theorem dL_cores_103 : decode cL_cores 103 = .ok (.iload 9, 2) := by decide +kernel
theorem dL_cores_105 : decode cL_cores 105 = .ok (.iconst 5, 1) := by decide +kernel
theorem dL_cores_106 : decode cL_cores 106 = .ok (.invokevirtual 34, 3) := by decide +kernel
theorem dL_cores_109 : decode cL_cores 109 = .ok (.aload_n 3, 1) := by decide +kernel
theorem dL_cores_110 : decode cL_cores 110 = .ok (.iload 10, 2) := by decide +kernel
theorem dL_cores_112 : decode cL_cores 112 = .ok (.iconst 1, 1) := by decide +kernel
theorem dL_cores_113 : decode cL_cores 113 = .ok (.iadd, 1) := by decide +kernel
theorem dL_cores_114 : decode cL_cores 114 = .ok (.iaload, 1) := by decide +kernel
theorem dL_cores_115 : decode cL_cores 115 = .ok (.if_icmp .eq 5, 3) := by decide +kernel
theorem dL_cores_118 : decode cL_cores 118 = .ok (.iconst 0, 1) := by decide +kernel
theorem dL_cores_119 : decode cL_cores 119 = .ok (.ireturn, 1) := by decide +kernel
theorem dL_cores_120 : decode cL_cores 120 = .ok (.aload_n 0, 1) := by decide +kernel
theorem dL_cores_121 : decode cL_cores 121 = .ok (.iload 9, 2) := by decide +kernel
theorem dL_cores_123 : decode cL_cores 123 = .ok (.bipush 6, 2) := by decide +kernel
theorem dL_cores_125 : decode cL_cores 125 = .ok (.invokevirtual 34, 3) := by decide +kernel
theorem dL_cores_128 : decode cL_cores 128 = .ok (.aload_n 3, 1) := by decide +kernel
theorem dL_cores_129 : decode cL_cores 129 = .ok (.iload 10, 2) := by decide +kernel
theorem dL_cores_131 : decode cL_cores 131 = .ok (.iconst 2, 1) := by decide +kernel
theorem dL_cores_132 : decode cL_cores 132 = .ok (.iadd, 1) := by decide +kernel
theorem dL_cores_133 : decode cL_cores 133 = .ok (.iaload, 1) := by decide +kernel
theorem dL_cores_134 : decode cL_cores 134 = .ok (.ifCond .ge 7, 3) := by decide +kernel
theorem dL_cores_137 : decode cL_cores 137 = .ok (.iconst 0, 1) := by decide +kernel
theorem dL_cores_138 : decode cL_cores 138 = .ok (.goto 4, 3) := by decide +kernel
theorem dL_cores_141 : decode cL_cores 141 = .ok (.iconst 1, 1) := by decide +kernel
theorem dL_cores_142 : decode cL_cores 142 = .ok (.if_icmp .ne 56, 3) := by decide +kernel
theorem dL_cores_145 : decode cL_cores 145 = .ok (.aload_n 0, 1) := by decide +kernel
theorem dL_cores_146 : decode cL_cores 146 = .ok (.iload 9, 2) := by decide +kernel
theorem dL_cores_148 : decode cL_cores 148 = .ok (.bipush 7, 2) := by decide +kernel
theorem dL_cores_150 : decode cL_cores 150 = .ok (.invokevirtual 34, 3) := by decide +kernel
theorem dL_cores_153 : decode cL_cores 153 = .ok (.aload_n 3, 1) := by decide +kernel
theorem dL_cores_154 : decode cL_cores 154 = .ok (.iload 10, 2) := by decide +kernel
theorem dL_cores_156 : decode cL_cores 156 = .ok (.iconst 2, 1) := by decide +kernel
theorem dL_cores_157 : decode cL_cores 157 = .ok (.iadd, 1) := by decide +kernel
theorem dL_cores_158 : decode cL_cores 158 = .ok (.iaload, 1) := by decide +kernel
theorem dL_cores_159 : decode cL_cores 159 = .ok (.if_icmp .ne 39, 3) := by decide +kernel
theorem dL_cores_162 : decode cL_cores 162 = .ok (.aload_n 0, 1) := by decide +kernel
theorem dL_cores_163 : decode cL_cores 163 = .ok (.iload 9, 2) := by decide +kernel
theorem dL_cores_165 : decode cL_cores 165 = .ok (.bipush 8, 2) := by decide +kernel
theorem dL_cores_167 : decode cL_cores 167 = .ok (.invokevirtual 34, 3) := by decide +kernel
theorem dL_cores_170 : decode cL_cores 170 = .ok (.aload 4, 2) := by decide +kernel
theorem dL_cores_172 : decode cL_cores 172 = .ok (.iload 8, 2) := by decide +kernel
theorem dL_cores_174 : decode cL_cores 174 = .ok (.iaload, 1) := by decide +kernel
theorem dL_cores_175 : decode cL_cores 175 = .ok (.if_icmp .ne 23, 3) := by decide +kernel
theorem dL_cores_178 : decode cL_cores 178 = .ok (.aload_n 0, 1) := by decide +kernel
theorem dL_cores_179 : decode cL_cores 179 = .ok (.iload 9, 2) := by decide +kernel
theorem dL_cores_181 : decode cL_cores 181 = .ok (.iconst 1, 1) := by decide +kernel
theorem dL_cores_182 : decode cL_cores 182 = .ok (.invokevirtual 39, 3) := by decide +kernel
theorem dL_cores_185 : decode cL_cores 185 = .ok (.iload 8, 2) := by decide +kernel
theorem dL_cores_187 : decode cL_cores 187 = .ok (.iconst (-1), 1) := by decide +kernel
theorem dL_cores_188 : decode cL_cores 188 = .ok (.aload_n 2, 1) := by decide +kernel
theorem dL_cores_189 : decode cL_cores 189 = .ok (.aload_n 3, 1) := by decide +kernel
theorem dL_cores_190 : decode cL_cores 190 = .ok (.aload 5, 2) := by decide +kernel
theorem dL_cores_192 : decode cL_cores 192 = .ok (.invokestatic 42, 3) := by decide +kernel
theorem dL_cores_195 : decode cL_cores 195 = .ok (.if_icmp .eq 5, 3) := by decide +kernel
theorem dL_cores_198 : decode cL_cores 198 = .ok (.iconst 0, 1) := by decide +kernel
theorem dL_cores_199 : decode cL_cores 199 = .ok (.ireturn, 1) := by decide +kernel
theorem dL_cores_200 : decode cL_cores 200 = .ok (.aload_n 2, 1) := by decide +kernel
theorem dL_cores_201 : decode cL_cores 201 = .ok (.iload 10, 2) := by decide +kernel
theorem dL_cores_203 : decode cL_cores 203 = .ok (.iconst 2, 1) := by decide +kernel
theorem dL_cores_204 : decode cL_cores 204 = .ok (.iadd, 1) := by decide +kernel
theorem dL_cores_205 : decode cL_cores 205 = .ok (.iaload, 1) := by decide +kernel
theorem dL_cores_206 : decode cL_cores 206 = .ok (.ifCond .lt 91, 3) := by decide +kernel
theorem dL_cores_209 : decode cL_cores 209 = .ok (.aload_n 3, 1) := by decide +kernel
theorem dL_cores_210 : decode cL_cores 210 = .ok (.iload 10, 2) := by decide +kernel
theorem dL_cores_212 : decode cL_cores 212 = .ok (.iconst 2, 1) := by decide +kernel
theorem dL_cores_213 : decode cL_cores 213 = .ok (.iadd, 1) := by decide +kernel
theorem dL_cores_214 : decode cL_cores 214 = .ok (.iaload, 1) := by decide +kernel
theorem dL_cores_215 : decode cL_cores 215 = .ok (.ifCond .ge 82, 3) := by decide +kernel
theorem dL_cores_218 : decode cL_cores 218 = .ok (.aload_n 2, 1) := by decide +kernel
theorem dL_cores_219 : decode cL_cores 219 = .ok (.iload 10, 2) := by decide +kernel
theorem dL_cores_221 : decode cL_cores 221 = .ok (.iaload, 1) := by decide +kernel
theorem dL_cores_222 : decode cL_cores 222 = .ok (.ifCond .ne 6, 3) := by decide +kernel
theorem dL_cores_225 : decode cL_cores 225 = .ok (.goto 72, 3) := by decide +kernel
theorem dL_cores_228 : decode cL_cores 228 = .ok (.iload 8, 2) := by decide +kernel
theorem dL_cores_230 : decode cL_cores 230 = .ok (.iconst (-1), 1) := by decide +kernel
theorem dL_cores_231 : decode cL_cores 231 = .ok (.aload_n 2, 1) := by decide +kernel
theorem dL_cores_232 : decode cL_cores 232 = .ok (.aload_n 3, 1) := by decide +kernel
theorem dL_cores_233 : decode cL_cores 233 = .ok (.aload 5, 2) := by decide +kernel
theorem dL_cores_235 : decode cL_cores 235 = .ok (.invokestatic 42, 3) := by decide +kernel
theorem dL_cores_238 : decode cL_cores 238 = .ok (.istore 11, 2) := by decide +kernel
theorem dL_cores_240 : decode cL_cores 240 = .ok (.iload 7, 2) := by decide +kernel
theorem dL_cores_242 : decode cL_cores 242 = .ok (.ifCond .ge 8, 3) := by decide +kernel
theorem dL_cores_245 : decode cL_cores 245 = .ok (.bipush 99, 2) := by decide +kernel
theorem dL_cores_247 : decode cL_cores 247 = .ok (.goto 13, 3) := by decide +kernel
theorem dL_cores_250 : decode cL_cores 250 = .ok (.iload 7, 2) := by decide +kernel
theorem dL_cores_252 : decode cL_cores 252 = .ok (.iconst (-1), 1) := by decide +kernel
theorem dL_cores_253 : decode cL_cores 253 = .ok (.aload_n 2, 1) := by decide +kernel
theorem dL_cores_254 : decode cL_cores 254 = .ok (.aload_n 3, 1) := by decide +kernel
theorem dL_cores_255 : decode cL_cores 255 = .ok (.aload 5, 2) := by decide +kernel
theorem dL_cores_257 : decode cL_cores 257 = .ok (.invokestatic 42, 3) := by decide +kernel
theorem dL_cores_260 : decode cL_cores 260 = .ok (.istore 12, 2) := by decide +kernel
theorem dL_cores_262 : decode cL_cores 262 = .ok (.iload 11, 2) := by decide +kernel
theorem dL_cores_264 : decode cL_cores 264 = .ok (.iload 12, 2) := by decide +kernel
theorem dL_cores_266 : decode cL_cores 266 = .ok (.if_icmp .lt 27, 3) := by decide +kernel
theorem dL_cores_269 : decode cL_cores 269 = .ok (.iload 11, 2) := by decide +kernel
theorem dL_cores_271 : decode cL_cores 271 = .ok (.iload 12, 2) := by decide +kernel
theorem dL_cores_273 : decode cL_cores 273 = .ok (.if_icmp .ne 24, 3) := by decide +kernel
theorem dL_cores_276 : decode cL_cores 276 = .ok (.aload_n 2, 1) := by decide +kernel
theorem dL_cores_277 : decode cL_cores 277 = .ok (.iload 10, 2) := by decide +kernel
theorem dL_cores_279 : decode cL_cores 279 = .ok (.iconst 1, 1) := by decide +kernel
theorem dL_cores_280 : decode cL_cores 280 = .ok (.iadd, 1) := by decide +kernel
theorem dL_cores_281 : decode cL_cores 281 = .ok (.iaload, 1) := by decide +kernel
theorem dL_cores_282 : decode cL_cores 282 = .ok (.aload_n 2, 1) := by decide +kernel
theorem dL_cores_283 : decode cL_cores 283 = .ok (.iconst 4, 1) := by decide +kernel
theorem dL_cores_284 : decode cL_cores 284 = .ok (.iload 7, 2) := by decide +kernel
theorem dL_cores_286 : decode cL_cores 286 = .ok (.imul, 1) := by decide +kernel
theorem dL_cores_287 : decode cL_cores 287 = .ok (.iconst 1, 1) := by decide +kernel
theorem dL_cores_288 : decode cL_cores 288 = .ok (.iadd, 1) := by decide +kernel
theorem dL_cores_289 : decode cL_cores 289 = .ok (.iaload, 1) := by decide +kernel
theorem dL_cores_290 : decode cL_cores 290 = .ok (.if_icmp .le 7, 3) := by decide +kernel
theorem dL_cores_293 : decode cL_cores 293 = .ok (.iload 8, 2) := by decide +kernel
theorem dL_cores_295 : decode cL_cores 295 = .ok (.istore 7, 2) := by decide +kernel
theorem dL_cores_297 : decode cL_cores 297 = .ok (.iinc 8 1, 3) := by decide +kernel
theorem dL_cores_300 : decode cL_cores 300 = .ok (.goto (-294), 3) := by decide +kernel
theorem dL_cores_303 : decode cL_cores 303 = .ok (.iload_n 1, 1) := by decide +kernel
theorem dL_cores_304 : decode cL_cores 304 = .ok (.bipush 16, 2) := by decide +kernel
theorem dL_cores_306 : decode cL_cores 306 = .ok (.invokestatic 46, 3) := by decide +kernel
theorem dL_cores_309 : decode cL_cores 309 = .ok (.istore 8, 2) := by decide +kernel
theorem dL_cores_311 : decode cL_cores 311 = .ok (.aload_n 2, 1) := by decide +kernel
theorem dL_cores_312 : decode cL_cores 312 = .ok (.iconst 4, 1) := by decide +kernel
theorem dL_cores_313 : decode cL_cores 313 = .ok (.iload 8, 2) := by decide +kernel
theorem dL_cores_315 : decode cL_cores 315 = .ok (.imul, 1) := by decide +kernel
theorem dL_cores_316 : decode cL_cores 316 = .ok (.iconst 1, 1) := by decide +kernel
theorem dL_cores_317 : decode cL_cores 317 = .ok (.iadd, 1) := by decide +kernel
theorem dL_cores_318 : decode cL_cores 318 = .ok (.iaload, 1) := by decide +kernel
theorem dL_cores_319 : decode cL_cores 319 = .ok (.iconst 1, 1) := by decide +kernel
theorem dL_cores_320 : decode cL_cores 320 = .ok (.isub, 1) := by decide +kernel
theorem dL_cores_321 : decode cL_cores 321 = .ok (.aload 6, 2) := by decide +kernel
theorem dL_cores_323 : decode cL_cores 323 = .ok (.iconst 1, 1) := by decide +kernel
theorem dL_cores_324 : decode cL_cores 324 = .ok (.iaload, 1) := by decide +kernel
theorem dL_cores_325 : decode cL_cores 325 = .ok (.bipush 25, 2) := by decide +kernel
theorem dL_cores_327 : decode cL_cores 327 = .ok (.idiv, 1) := by decide +kernel
theorem dL_cores_328 : decode cL_cores 328 = .ok (.isub, 1) := by decide +kernel
theorem dL_cores_329 : decode cL_cores 329 = .ok (.istore 9, 2) := by decide +kernel
theorem dL_cores_331 : decode cL_cores 331 = .ok (.aload_n 0, 1) := by decide +kernel
theorem dL_cores_332 : decode cL_cores 332 = .ok (.iload 8, 2) := by decide +kernel
theorem dL_cores_334 : decode cL_cores 334 = .ok (.invokestatic 30, 3) := by decide +kernel
theorem dL_cores_337 : decode cL_cores 337 = .ok (.iconst 0, 1) := by decide +kernel
theorem dL_cores_338 : decode cL_cores 338 = .ok (.invokevirtual 39, 3) := by decide +kernel
theorem dL_cores_341 : decode cL_cores 341 = .ok (.aload_n 2, 1) := by decide +kernel
theorem dL_cores_342 : decode cL_cores 342 = .ok (.iconst 4, 1) := by decide +kernel
theorem dL_cores_343 : decode cL_cores 343 = .ok (.iload 8, 2) := by decide +kernel
theorem dL_cores_345 : decode cL_cores 345 = .ok (.imul, 1) := by decide +kernel
theorem dL_cores_346 : decode cL_cores 346 = .ok (.iaload, 1) := by decide +kernel
theorem dL_cores_347 : decode cL_cores 347 = .ok (.if_icmp .ne 92, 3) := by decide +kernel
theorem dL_cores_350 : decode cL_cores 350 = .ok (.aload_n 0, 1) := by decide +kernel
theorem dL_cores_351 : decode cL_cores 351 = .ok (.iload 8, 2) := by decide +kernel
theorem dL_cores_353 : decode cL_cores 353 = .ok (.invokestatic 30, 3) := by decide +kernel
theorem dL_cores_356 : decode cL_cores 356 = .ok (.iconst 2, 1) := by decide +kernel
theorem dL_cores_357 : decode cL_cores 357 = .ok (.invokevirtual 39, 3) := by decide +kernel
theorem dL_cores_360 : decode cL_cores 360 = .ok (.aload 6, 2) := by decide +kernel
theorem dL_cores_362 : decode cL_cores 362 = .ok (.iconst 1, 1) := by decide +kernel
theorem dL_cores_363 : decode cL_cores 363 = .ok (.iaload, 1) := by decide +kernel
theorem dL_cores_364 : decode cL_cores 364 = .ok (.aload 5, 2) := by decide +kernel
theorem dL_cores_366 : decode cL_cores 366 = .ok (.iconst 2, 1) := by decide +kernel
theorem dL_cores_367 : decode cL_cores 367 = .ok (.iaload, 1) := by decide +kernel
theorem dL_cores_368 : decode cL_cores 368 = .ok (.iadd, 1) := by decide +kernel
theorem dL_cores_369 : decode cL_cores 369 = .ok (.bipush 100, 2) := by decide +kernel
theorem dL_cores_371 : decode cL_cores 371 = .ok (.if_icmp .le 8, 3) := by decide +kernel
theorem dL_cores_374 : decode cL_cores 374 = .ok (.bipush 100, 2) := by decide +kernel
theorem dL_cores_376 : decode cL_cores 376 = .ok (.goto 12, 3) := by decide +kernel
theorem dL_cores_379 : decode cL_cores 379 = .ok (.aload 6, 2) := by decide +kernel
theorem dL_cores_381 : decode cL_cores 381 = .ok (.iconst 1, 1) := by decide +kernel
theorem dL_cores_382 : decode cL_cores 382 = .ok (.iaload, 1) := by decide +kernel
theorem dL_cores_383 : decode cL_cores 383 = .ok (.aload 5, 2) := by decide +kernel
theorem dL_cores_385 : decode cL_cores 385 = .ok (.iconst 2, 1) := by decide +kernel
theorem dL_cores_386 : decode cL_cores 386 = .ok (.iaload, 1) := by decide +kernel
theorem dL_cores_387 : decode cL_cores 387 = .ok (.iadd, 1) := by decide +kernel
theorem dL_cores_388 : decode cL_cores 388 = .ok (.if_icmp .ne 51, 3) := by decide +kernel
theorem dL_cores_391 : decode cL_cores 391 = .ok (.aload_n 0, 1) := by decide +kernel
theorem dL_cores_392 : decode cL_cores 392 = .ok (.iload 8, 2) := by decide +kernel
theorem dL_cores_394 : decode cL_cores 394 = .ok (.invokestatic 30, 3) := by decide +kernel
theorem dL_cores_397 : decode cL_cores 397 = .ok (.iconst 3, 1) := by decide +kernel
theorem dL_cores_398 : decode cL_cores 398 = .ok (.invokevirtual 39, 3) := by decide +kernel
theorem dL_cores_401 : decode cL_cores 401 = .ok (.iload 9, 2) := by decide +kernel
theorem dL_cores_403 : decode cL_cores 403 = .ok (.ifCond .ge 7, 3) := by decide +kernel
theorem dL_cores_406 : decode cL_cores 406 = .ok (.iconst 0, 1) := by decide +kernel
theorem dL_cores_407 : decode cL_cores 407 = .ok (.goto 5, 3) := by decide +kernel
theorem dL_cores_410 : decode cL_cores 410 = .ok (.iload 9, 2) := by decide +kernel
theorem dL_cores_412 : decode cL_cores 412 = .ok (.if_icmp .ne 27, 3) := by decide +kernel
theorem dL_cores_415 : decode cL_cores 415 = .ok (.aload_n 0, 1) := by decide +kernel
theorem dL_cores_416 : decode cL_cores 416 = .ok (.iload 8, 2) := by decide +kernel
theorem dL_cores_418 : decode cL_cores 418 = .ok (.invokestatic 30, 3) := by decide +kernel
theorem dL_cores_421 : decode cL_cores 421 = .ok (.iconst 4, 1) := by decide +kernel
theorem dL_cores_422 : decode cL_cores 422 = .ok (.invokevirtual 39, 3) := by decide +kernel
theorem dL_cores_425 : decode cL_cores 425 = .ok (.iload 8, 2) := by decide +kernel
theorem dL_cores_427 : decode cL_cores 427 = .ok (.bipush (-2), 2) := by decide +kernel
theorem dL_cores_429 : decode cL_cores 429 = .ok (.aload_n 2, 1) := by decide +kernel
theorem dL_cores_430 : decode cL_cores 430 = .ok (.aload_n 3, 1) := by decide +kernel
theorem dL_cores_431 : decode cL_cores 431 = .ok (.aload 5, 2) := by decide +kernel
theorem dL_cores_433 : decode cL_cores 433 = .ok (.invokestatic 42, 3) := by decide +kernel
theorem dL_cores_436 : decode cL_cores 436 = .ok (.if_icmp .eq 5, 3) := by decide +kernel
theorem dL_cores_439 : decode cL_cores 439 = .ok (.iconst 0, 1) := by decide +kernel
theorem dL_cores_440 : decode cL_cores 440 = .ok (.ireturn, 1) := by decide +kernel
theorem dL_cores_441 : decode cL_cores 441 = .ok (.aload_n 0, 1) := by decide +kernel
theorem dL_cores_442 : decode cL_cores 442 = .ok (.invokevirtual 49, 3) := by decide +kernel
theorem dL_cores_445 : decode cL_cores 445 = .ok (.iload 7, 2) := by decide +kernel
theorem dL_cores_447 : decode cL_cores 447 = .ok (.ifCond .ge 7, 3) := by decide +kernel
theorem dL_cores_450 : decode cL_cores 450 = .ok (.iconst (-1), 1) := by decide +kernel
theorem dL_cores_451 : decode cL_cores 451 = .ok (.goto 8, 3) := by decide +kernel
theorem dL_cores_454 : decode cL_cores 454 = .ok (.iload 7, 2) := by decide +kernel
theorem dL_cores_456 : decode cL_cores 456 = .ok (.invokestatic 30, 3) := by decide +kernel
theorem dL_cores_459 : decode cL_cores 459 = .ok (.if_icmp .ne 7, 3) := by decide +kernel
theorem dL_cores_462 : decode cL_cores 462 = .ok (.iconst 1, 1) := by decide +kernel
theorem dL_cores_463 : decode cL_cores 463 = .ok (.goto 4, 3) := by decide +kernel
theorem dL_cores_466 : decode cL_cores 466 = .ok (.iconst 0, 1) := by decide +kernel
theorem dL_cores_467 : decode cL_cores 467 = .ok (.ireturn, 1) := by decide +kernel
theorem dL_told_0 : decode cL_told 0 = .ok (.aload_n 0, 1) := by decide +kernel
theorem dL_told_1 : decode cL_told 1 = .ok (.iload_n 1, 1) := by decide +kernel
theorem dL_told_2 : decode cL_told 2 = .ok (.aload_n 2, 1) := by decide +kernel
theorem dL_told_3 : decode cL_told 3 = .ok (.aload_n 3, 1) := by decide +kernel
theorem dL_told_4 : decode cL_told 4 = .ok (.aload 4, 2) := by decide +kernel
theorem dL_told_6 : decode cL_told 6 = .ok (.aload 8, 2) := by decide +kernel
theorem dL_told_8 : decode cL_told 8 = .ok (.aload 9, 2) := by decide +kernel
theorem dL_told_10 : decode cL_told 10 = .ok (.invokestatic 53, 3) := by decide +kernel
theorem dL_told_13 : decode cL_told 13 = .ok (.ifCond .ne 5, 3) := by decide +kernel
theorem dL_told_16 : decode cL_told 16 = .ok (.iconst 0, 1) := by decide +kernel
theorem dL_told_17 : decode cL_told 17 = .ok (.ireturn, 1) := by decide +kernel
theorem dL_told_18 : decode cL_told 18 = .ok (.iconst 0, 1) := by decide +kernel
theorem dL_told_19 : decode cL_told 19 = .ok (.istore 10, 2) := by decide +kernel
theorem dL_told_21 : decode cL_told 21 = .ok (.iconst 0, 1) := by decide +kernel
theorem dL_told_22 : decode cL_told 22 = .ok (.istore 11, 2) := by decide +kernel
theorem dL_told_24 : decode cL_told 24 = .ok (.iconst 0, 1) := by decide +kernel
theorem dL_told_25 : decode cL_told 25 = .ok (.istore 12, 2) := by decide +kernel
theorem dL_told_27 : decode cL_told 27 = .ok (.iconst 0, 1) := by decide +kernel
theorem dL_told_28 : decode cL_told 28 = .ok (.istore 13, 2) := by decide +kernel
theorem dL_told_30 : decode cL_told 30 = .ok (.iconst 0, 1) := by decide +kernel
theorem dL_told_31 : decode cL_told 31 = .ok (.istore 14, 2) := by decide +kernel
theorem dL_told_33 : decode cL_told 33 = .ok (.iload 14, 2) := by decide +kernel
theorem dL_told_35 : decode cL_told 35 = .ok (.bipush 16, 2) := by decide +kernel
theorem dL_told_37 : decode cL_told 37 = .ok (.if_icmp .ge 81, 3) := by decide +kernel
theorem dL_told_40 : decode cL_told 40 = .ok (.iload 10, 2) := by decide +kernel
theorem dL_told_42 : decode cL_told 42 = .ok (.aload_n 2, 1) := by decide +kernel
theorem dL_told_43 : decode cL_told 43 = .ok (.iconst 4, 1) := by decide +kernel
theorem dL_told_44 : decode cL_told 44 = .ok (.iload 14, 2) := by decide +kernel
theorem dL_told_46 : decode cL_told 46 = .ok (.imul, 1) := by decide +kernel
theorem dL_told_47 : decode cL_told 47 = .ok (.iconst 2, 1) := by decide +kernel
theorem dL_told_48 : decode cL_told 48 = .ok (.iadd, 1) := by decide +kernel
theorem dL_told_49 : decode cL_told 49 = .ok (.iaload, 1) := by decide +kernel
theorem dL_told_50 : decode cL_told 50 = .ok (.ifCond .ge 7, 3) := by decide +kernel
theorem dL_told_53 : decode cL_told 53 = .ok (.iconst 0, 1) := by decide +kernel
theorem dL_told_54 : decode cL_told 54 = .ok (.goto 4, 3) := by decide +kernel
theorem dL_told_57 : decode cL_told 57 = .ok (.iconst 1, 1) := by decide +kernel
theorem dL_told_58 : decode cL_told 58 = .ok (.iadd, 1) := by decide +kernel
theorem dL_told_59 : decode cL_told 59 = .ok (.istore 10, 2) := by decide +kernel
theorem dL_told_61 : decode cL_told 61 = .ok (.iload 11, 2) := by decide +kernel
theorem dL_told_63 : decode cL_told 63 = .ok (.aload_n 3, 1) := by decide +kernel
theorem dL_told_64 : decode cL_told 64 = .ok (.iconst 4, 1) := by decide +kernel
theorem dL_told_65 : decode cL_told 65 = .ok (.iload 14, 2) := by decide +kernel
theorem dL_told_67 : decode cL_told 67 = .ok (.imul, 1) := by decide +kernel
theorem dL_told_68 : decode cL_told 68 = .ok (.iaload, 1) := by decide +kernel
theorem dL_told_69 : decode cL_told 69 = .ok (.ifCond .ge 7, 3) := by decide +kernel
theorem dL_told_72 : decode cL_told 72 = .ok (.iconst 0, 1) := by decide +kernel
theorem dL_told_73 : decode cL_told 73 = .ok (.goto 4, 3) := by decide +kernel
theorem dL_told_76 : decode cL_told 76 = .ok (.iconst 1, 1) := by decide +kernel
theorem dL_told_77 : decode cL_told 77 = .ok (.iadd, 1) := by decide +kernel
theorem dL_told_78 : decode cL_told 78 = .ok (.istore 11, 2) := by decide +kernel
theorem dL_told_80 : decode cL_told 80 = .ok (.iload 12, 2) := by decide +kernel
theorem dL_told_82 : decode cL_told 82 = .ok (.aload_n 2, 1) := by decide +kernel
theorem dL_told_83 : decode cL_told 83 = .ok (.iconst 4, 1) := by decide +kernel
theorem dL_told_84 : decode cL_told 84 = .ok (.iload 14, 2) := by decide +kernel
theorem dL_told_86 : decode cL_told 86 = .ok (.imul, 1) := by decide +kernel
theorem dL_told_87 : decode cL_told 87 = .ok (.iaload, 1) := by decide +kernel
theorem dL_told_88 : decode cL_told 88 = .ok (.iadd, 1) := by decide +kernel
theorem dL_told_89 : decode cL_told 89 = .ok (.istore 12, 2) := by decide +kernel
theorem dL_told_91 : decode cL_told 91 = .ok (.iload 13, 2) := by decide +kernel
theorem dL_told_93 : decode cL_told 93 = .ok (.aload_n 3, 1) := by decide +kernel
theorem dL_told_94 : decode cL_told 94 = .ok (.iconst 4, 1) := by decide +kernel
theorem dL_told_95 : decode cL_told 95 = .ok (.iload 14, 2) := by decide +kernel
theorem dL_told_97 : decode cL_told 97 = .ok (.imul, 1) := by decide +kernel
theorem dL_told_98 : decode cL_told 98 = .ok (.iconst 2, 1) := by decide +kernel
theorem dL_told_99 : decode cL_told 99 = .ok (.iadd, 1) := by decide +kernel
theorem dL_told_100 : decode cL_told 100 = .ok (.iaload, 1) := by decide +kernel
theorem dL_told_101 : decode cL_told 101 = .ok (.ifCond .ge 7, 3) := by decide +kernel
theorem dL_told_104 : decode cL_told 104 = .ok (.iconst 0, 1) := by decide +kernel
theorem dL_told_105 : decode cL_told 105 = .ok (.goto 4, 3) := by decide +kernel
theorem dL_told_108 : decode cL_told 108 = .ok (.iconst 1, 1) := by decide +kernel
theorem dL_told_109 : decode cL_told 109 = .ok (.iadd, 1) := by decide +kernel
theorem dL_told_110 : decode cL_told 110 = .ok (.istore 13, 2) := by decide +kernel
theorem dL_told_112 : decode cL_told 112 = .ok (.iinc 14 1, 3) := by decide +kernel
theorem dL_told_115 : decode cL_told 115 = .ok (.goto (-82), 3) := by decide +kernel
theorem dL_told_118 : decode cL_told 118 = .ok (.iconst 0, 1) := by decide +kernel
theorem dL_told_119 : decode cL_told 119 = .ok (.istore 14, 2) := by decide +kernel
theorem dL_told_121 : decode cL_told 121 = .ok (.iload 14, 2) := by decide +kernel
theorem dL_told_123 : decode cL_told 123 = .ok (.aload 9, 2) := by decide +kernel
theorem dL_told_125 : decode cL_told 125 = .ok (.iconst 2, 1) := by decide +kernel
theorem dL_told_126 : decode cL_told 126 = .ok (.iaload, 1) := by decide +kernel
theorem dL_told_127 : decode cL_told 127 = .ok (.if_icmp .ge 315, 3) := by decide +kernel
theorem dL_told_130 : decode cL_told 130 = .ok (.iconst 0, 1) := by decide +kernel
theorem dL_told_131 : decode cL_told 131 = .ok (.istore 15, 2) := by decide +kernel
theorem dL_told_133 : decode cL_told 133 = .ok (.iconst 0, 1) := by decide +kernel
theorem dL_told_134 : decode cL_told 134 = .ok (.istore 16, 2) := by decide +kernel
theorem dL_told_136 : decode cL_told 136 = .ok (.iconst 0, 1) := by decide +kernel
theorem dL_told_137 : decode cL_told 137 = .ok (.istore 17, 2) := by decide +kernel
theorem dL_told_139 : decode cL_told 139 = .ok (.iconst 0, 1) := by decide +kernel
theorem dL_told_140 : decode cL_told 140 = .ok (.istore 18, 2) := by decide +kernel
theorem dL_told_142 : decode cL_told 142 = .ok (.iconst 0, 1) := by decide +kernel
theorem dL_told_143 : decode cL_told 143 = .ok (.istore 19, 2) := by decide +kernel
theorem dL_told_145 : decode cL_told 145 = .ok (.iload 19, 2) := by decide +kernel
theorem dL_told_147 : decode cL_told 147 = .ok (.bipush 16, 2) := by decide +kernel
theorem dL_told_149 : decode cL_told 149 = .ok (.if_icmp .ge 115, 3) := by decide +kernel
theorem dL_told_152 : decode cL_told 152 = .ok (.iload 15, 2) := by decide +kernel
theorem dL_told_154 : decode cL_told 154 = .ok (.aload_n 2, 1) := by decide +kernel
theorem dL_told_155 : decode cL_told 155 = .ok (.iconst 4, 1) := by decide +kernel
theorem dL_told_156 : decode cL_told 156 = .ok (.iload 19, 2) := by decide +kernel
theorem dL_told_158 : decode cL_told 158 = .ok (.imul, 1) := by decide +kernel
theorem dL_told_159 : decode cL_told 159 = .ok (.iconst 2, 1) := by decide +kernel
theorem dL_told_160 : decode cL_told 160 = .ok (.iadd, 1) := by decide +kernel
theorem dL_told_161 : decode cL_told 161 = .ok (.iaload, 1) := by decide +kernel
theorem dL_told_162 : decode cL_told 162 = .ok (.iload 14, 2) := by decide +kernel
theorem dL_told_164 : decode cL_told 164 = .ok (.if_icmp .ne 7, 3) := by decide +kernel
theorem dL_told_167 : decode cL_told 167 = .ok (.iconst 1, 1) := by decide +kernel
theorem dL_told_168 : decode cL_told 168 = .ok (.goto 4, 3) := by decide +kernel
theorem dL_told_171 : decode cL_told 171 = .ok (.iconst 0, 1) := by decide +kernel
theorem dL_told_172 : decode cL_told 172 = .ok (.iadd, 1) := by decide +kernel
theorem dL_told_173 : decode cL_told 173 = .ok (.istore 15, 2) := by decide +kernel
theorem dL_told_175 : decode cL_told 175 = .ok (.iload 16, 2) := by decide +kernel
theorem dL_told_177 : decode cL_told 177 = .ok (.aload_n 2, 1) := by decide +kernel
theorem dL_told_178 : decode cL_told 178 = .ok (.iconst 4, 1) := by decide +kernel
theorem dL_told_179 : decode cL_told 179 = .ok (.iload 19, 2) := by decide +kernel
theorem dL_told_181 : decode cL_told 181 = .ok (.imul, 1) := by decide +kernel
theorem dL_told_182 : decode cL_told 182 = .ok (.iconst 2, 1) := by decide +kernel
theorem dL_told_183 : decode cL_told 183 = .ok (.iadd, 1) := by decide +kernel
theorem dL_told_184 : decode cL_told 184 = .ok (.iaload, 1) := by decide +kernel
theorem dL_told_185 : decode cL_told 185 = .ok (.iload 14, 2) := by decide +kernel
theorem dL_told_187 : decode cL_told 187 = .ok (.if_icmp .ne 16, 3) := by decide +kernel
theorem dL_told_190 : decode cL_told 190 = .ok (.aload_n 3, 1) := by decide +kernel
theorem dL_told_191 : decode cL_told 191 = .ok (.iconst 4, 1) := by decide +kernel
theorem dL_told_192 : decode cL_told 192 = .ok (.iload 19, 2) := by decide +kernel
theorem dL_told_194 : decode cL_told 194 = .ok (.imul, 1) := by decide +kernel
theorem dL_told_195 : decode cL_told 195 = .ok (.iaload, 1) := by decide +kernel
theorem dL_told_196 : decode cL_told 196 = .ok (.ifCond .lt 7, 3) := by decide +kernel
theorem dL_told_199 : decode cL_told 199 = .ok (.iconst 1, 1) := by decide +kernel
theorem dL_told_200 : decode cL_told 200 = .ok (.goto 4, 3) := by decide +kernel
theorem dL_told_203 : decode cL_told 203 = .ok (.iconst 0, 1) := by decide +kernel
theorem dL_told_204 : decode cL_told 204 = .ok (.iadd, 1) := by decide +kernel
theorem dL_told_205 : decode cL_told 205 = .ok (.istore 16, 2) := by decide +kernel
theorem dL_told_207 : decode cL_told 207 = .ok (.aload_n 2, 1) := by decide +kernel
theorem dL_told_208 : decode cL_told 208 = .ok (.iconst 4, 1) := by decide +kernel
theorem dL_told_209 : decode cL_told 209 = .ok (.iload 19, 2) := by decide +kernel
theorem dL_told_211 : decode cL_told 211 = .ok (.imul, 1) := by decide +kernel
theorem dL_told_212 : decode cL_told 212 = .ok (.iconst 2, 1) := by decide +kernel
theorem dL_told_213 : decode cL_told 213 = .ok (.iadd, 1) := by decide +kernel
theorem dL_told_214 : decode cL_told 214 = .ok (.iaload, 1) := by decide +kernel
theorem dL_told_215 : decode cL_told 215 = .ok (.ifCond .lt 43, 3) := by decide +kernel
theorem dL_told_218 : decode cL_told 218 = .ok (.aload_n 3, 1) := by decide +kernel
theorem dL_told_219 : decode cL_told 219 = .ok (.iconst 4, 1) := by decide +kernel
theorem dL_told_220 : decode cL_told 220 = .ok (.iload 19, 2) := by decide +kernel
theorem dL_told_222 : decode cL_told 222 = .ok (.imul, 1) := by decide +kernel
theorem dL_told_223 : decode cL_told 223 = .ok (.iconst 2, 1) := by decide +kernel
theorem dL_told_224 : decode cL_told 224 = .ok (.iadd, 1) := by decide +kernel
theorem dL_told_225 : decode cL_told 225 = .ok (.iaload, 1) := by decide +kernel
theorem dL_told_226 : decode cL_told 226 = .ok (.ifCond .ge 32, 3) := by decide +kernel
theorem dL_told_229 : decode cL_told 229 = .ok (.iload 19, 2) := by decide +kernel
theorem dL_told_231 : decode cL_told 231 = .ok (.iload 14, 2) := by decide +kernel
theorem dL_told_233 : decode cL_told 233 = .ok (.aload_n 2, 1) := by decide +kernel
theorem dL_told_234 : decode cL_told 234 = .ok (.aload_n 3, 1) := by decide +kernel
theorem dL_told_235 : decode cL_told 235 = .ok (.aload 8, 2) := by decide +kernel
theorem dL_told_237 : decode cL_told 237 = .ok (.invokestatic 42, 3) := by decide +kernel
theorem dL_told_240 : decode cL_told 240 = .ok (.iload 18, 2) := by decide +kernel
theorem dL_told_242 : decode cL_told 242 = .ok (.if_icmp .le 16, 3) := by decide +kernel
theorem dL_told_245 : decode cL_told 245 = .ok (.iload 19, 2) := by decide +kernel
theorem dL_told_247 : decode cL_told 247 = .ok (.iload 14, 2) := by decide +kernel
theorem dL_told_249 : decode cL_told 249 = .ok (.aload_n 2, 1) := by decide +kernel
theorem dL_told_250 : decode cL_told 250 = .ok (.aload_n 3, 1) := by decide +kernel
theorem dL_told_251 : decode cL_told 251 = .ok (.aload 8, 2) := by decide +kernel
theorem dL_told_253 : decode cL_told 253 = .ok (.invokestatic 42, 3) := by decide +kernel
theorem dL_told_256 : decode cL_told 256 = .ok (.istore 18, 2) := by decide +kernel
theorem dL_told_258 : decode cL_told 258 = .ok (.iinc 19 1, 3) := by decide +kernel
theorem dL_told_261 : decode cL_told 261 = .ok (.goto (-116), 3) := by decide +kernel
theorem dL_told_264 : decode cL_told 264 = .ok (.iconst 0, 1) := by decide +kernel
theorem dL_told_265 : decode cL_told 265 = .ok (.istore 19, 2) := by decide +kernel
theorem dL_told_267 : decode cL_told 267 = .ok (.iload 19, 2) := by decide +kernel
theorem dL_told_269 : decode cL_told 269 = .ok (.aload 9, 2) := by decide +kernel
theorem dL_told_271 : decode cL_told 271 = .ok (.iconst 3, 1) := by decide +kernel
theorem dL_told_272 : decode cL_told 272 = .ok (.iaload, 1) := by decide +kernel
theorem dL_told_273 : decode cL_told 273 = .ok (.if_icmp .ge 59, 3) := by decide +kernel
theorem dL_told_276 : decode cL_told 276 = .ok (.iconst 0, 1) := by decide +kernel
theorem dL_told_277 : decode cL_told 277 = .ok (.istore 20, 2) := by decide +kernel
theorem dL_told_279 : decode cL_told 279 = .ok (.iload 20, 2) := by decide +kernel
theorem dL_told_281 : decode cL_told 281 = .ok (.aload 6, 2) := by decide +kernel
theorem dL_told_283 : decode cL_told 283 = .ok (.bipush 6, 2) := by decide +kernel
theorem dL_told_285 : decode cL_told 285 = .ok (.iload 19, 2) := by decide +kernel
theorem dL_told_287 : decode cL_told 287 = .ok (.imul, 1) := by decide +kernel
theorem dL_told_288 : decode cL_told 288 = .ok (.iconst 5, 1) := by decide +kernel
theorem dL_told_289 : decode cL_told 289 = .ok (.iadd, 1) := by decide +kernel
theorem dL_told_290 : decode cL_told 290 = .ok (.iaload, 1) := by decide +kernel
theorem dL_told_291 : decode cL_told 291 = .ok (.if_icmp .ge 35, 3) := by decide +kernel
theorem dL_told_294 : decode cL_told 294 = .ok (.iload 17, 2) := by decide +kernel
theorem dL_told_296 : decode cL_told 296 = .ok (.aload 7, 2) := by decide +kernel
theorem dL_told_298 : decode cL_told 298 = .ok (.bipush 24, 2) := by decide +kernel
theorem dL_told_300 : decode cL_told 300 = .ok (.iload 19, 2) := by decide +kernel
theorem dL_told_302 : decode cL_told 302 = .ok (.imul, 1) := by decide +kernel
theorem dL_told_303 : decode cL_told 303 = .ok (.iload 20, 2) := by decide +kernel
theorem dL_told_305 : decode cL_told 305 = .ok (.iadd, 1) := by decide +kernel
theorem dL_told_306 : decode cL_told 306 = .ok (.iaload, 1) := by decide +kernel
theorem dL_told_307 : decode cL_told 307 = .ok (.iload 14, 2) := by decide +kernel
theorem dL_told_309 : decode cL_told 309 = .ok (.if_icmp .ne 7, 3) := by decide +kernel
theorem dL_told_312 : decode cL_told 312 = .ok (.iconst 1, 1) := by decide +kernel
theorem dL_told_313 : decode cL_told 313 = .ok (.goto 4, 3) := by decide +kernel
theorem dL_told_316 : decode cL_told 316 = .ok (.iconst 0, 1) := by decide +kernel
theorem dL_told_317 : decode cL_told 317 = .ok (.iadd, 1) := by decide +kernel
theorem dL_told_318 : decode cL_told 318 = .ok (.istore 17, 2) := by decide +kernel
theorem dL_told_320 : decode cL_told 320 = .ok (.iinc 20 1, 3) := by decide +kernel
theorem dL_told_323 : decode cL_told 323 = .ok (.goto (-44), 3) := by decide +kernel
theorem dL_told_326 : decode cL_told 326 = .ok (.iinc 19 1, 3) := by decide +kernel
theorem dL_told_329 : decode cL_told 329 = .ok (.goto (-62), 3) := by decide +kernel
theorem dL_told_332 : decode cL_told 332 = .ok (.aload_n 0, 1) := by decide +kernel
theorem dL_told_333 : decode cL_told 333 = .ok (.iload 14, 2) := by decide +kernel
theorem dL_told_335 : decode cL_told 335 = .ok (.iconst 0, 1) := by decide +kernel
theorem dL_told_336 : decode cL_told 336 = .ok (.invokevirtual 57, 3) := by decide +kernel
theorem dL_told_339 : decode cL_told 339 = .ok (.aload 5, 2) := by decide +kernel
theorem dL_told_341 : decode cL_told 341 = .ok (.iconst 3, 1) := by decide +kernel
theorem dL_told_342 : decode cL_told 342 = .ok (.iload 14, 2) := by decide +kernel
theorem dL_told_344 : decode cL_told 344 = .ok (.imul, 1) := by decide +kernel
theorem dL_told_345 : decode cL_told 345 = .ok (.iaload, 1) := by decide +kernel
theorem dL_told_346 : decode cL_told 346 = .ok (.if_icmp .ne 88, 3) := by decide +kernel
theorem dL_told_349 : decode cL_told 349 = .ok (.aload_n 0, 1) := by decide +kernel
theorem dL_told_350 : decode cL_told 350 = .ok (.iload 14, 2) := by decide +kernel
theorem dL_told_352 : decode cL_told 352 = .ok (.iconst 1, 1) := by decide +kernel
theorem dL_told_353 : decode cL_told 353 = .ok (.invokevirtual 57, 3) := by decide +kernel
theorem dL_told_356 : decode cL_told 356 = .ok (.iload 15, 2) := by decide +kernel
theorem dL_told_358 : decode cL_told 358 = .ok (.if_icmp .ne 76, 3) := by decide +kernel
theorem dL_told_361 : decode cL_told 361 = .ok (.aload_n 0, 1) := by decide +kernel
theorem dL_told_362 : decode cL_told 362 = .ok (.iload 14, 2) := by decide +kernel
theorem dL_told_364 : decode cL_told 364 = .ok (.iconst 2, 1) := by decide +kernel
theorem dL_told_365 : decode cL_told 365 = .ok (.invokevirtual 57, 3) := by decide +kernel
theorem dL_told_368 : decode cL_told 368 = .ok (.iload 16, 2) := by decide +kernel
theorem dL_told_370 : decode cL_told 370 = .ok (.if_icmp .ne 64, 3) := by decide +kernel
theorem dL_told_373 : decode cL_told 373 = .ok (.aload_n 0, 1) := by decide +kernel
theorem dL_told_374 : decode cL_told 374 = .ok (.iload 14, 2) := by decide +kernel
theorem dL_told_376 : decode cL_told 376 = .ok (.iconst 3, 1) := by decide +kernel
theorem dL_told_377 : decode cL_told 377 = .ok (.invokevirtual 57, 3) := by decide +kernel
theorem dL_told_380 : decode cL_told 380 = .ok (.aload 5, 2) := by decide +kernel
theorem dL_told_382 : decode cL_told 382 = .ok (.iconst 3, 1) := by decide +kernel
theorem dL_told_383 : decode cL_told 383 = .ok (.iload 14, 2) := by decide +kernel
theorem dL_told_385 : decode cL_told 385 = .ok (.imul, 1) := by decide +kernel
theorem dL_told_386 : decode cL_told 386 = .ok (.iconst 1, 1) := by decide +kernel
theorem dL_told_387 : decode cL_told 387 = .ok (.iadd, 1) := by decide +kernel
theorem dL_told_388 : decode cL_told 388 = .ok (.iaload, 1) := by decide +kernel
theorem dL_told_389 : decode cL_told 389 = .ok (.if_icmp .ne 45, 3) := by decide +kernel
theorem dL_told_392 : decode cL_told 392 = .ok (.aload_n 0, 1) := by decide +kernel
theorem dL_told_393 : decode cL_told 393 = .ok (.iload 14, 2) := by decide +kernel
theorem dL_told_395 : decode cL_told 395 = .ok (.iconst 4, 1) := by decide +kernel
theorem dL_told_396 : decode cL_told 396 = .ok (.invokevirtual 57, 3) := by decide +kernel
theorem dL_told_399 : decode cL_told 399 = .ok (.aload 5, 2) := by decide +kernel
theorem dL_told_401 : decode cL_told 401 = .ok (.iconst 3, 1) := by decide +kernel
theorem dL_told_402 : decode cL_told 402 = .ok (.iload 14, 2) := by decide +kernel
theorem dL_told_404 : decode cL_told 404 = .ok (.imul, 1) := by decide +kernel
theorem dL_told_405 : decode cL_told 405 = .ok (.iconst 2, 1) := by decide +kernel
theorem dL_told_406 : decode cL_told 406 = .ok (.iadd, 1) := by decide +kernel
theorem dL_told_407 : decode cL_told 407 = .ok (.iaload, 1) := by decide +kernel
theorem dL_told_408 : decode cL_told 408 = .ok (.if_icmp .ne 26, 3) := by decide +kernel
theorem dL_told_411 : decode cL_told 411 = .ok (.aload_n 0, 1) := by decide +kernel
theorem dL_told_412 : decode cL_told 412 = .ok (.iload 14, 2) := by decide +kernel
theorem dL_told_414 : decode cL_told 414 = .ok (.iconst 5, 1) := by decide +kernel
theorem dL_told_415 : decode cL_told 415 = .ok (.invokevirtual 57, 3) := by decide +kernel
theorem dL_told_418 : decode cL_told 418 = .ok (.iload 17, 2) := by decide +kernel
theorem dL_told_420 : decode cL_told 420 = .ok (.if_icmp .ne 14, 3) := by decide +kernel
theorem dL_told_423 : decode cL_told 423 = .ok (.aload_n 0, 1) := by decide +kernel
theorem dL_told_424 : decode cL_told 424 = .ok (.iload 14, 2) := by decide +kernel
theorem dL_told_426 : decode cL_told 426 = .ok (.invokevirtual 60, 3) := by decide +kernel
theorem dL_told_429 : decode cL_told 429 = .ok (.iload 18, 2) := by decide +kernel
theorem dL_told_431 : decode cL_told 431 = .ok (.if_icmp .eq 5, 3) := by decide +kernel
theorem dL_told_434 : decode cL_told 434 = .ok (.iconst 0, 1) := by decide +kernel
theorem dL_told_435 : decode cL_told 435 = .ok (.ireturn, 1) := by decide +kernel
theorem dL_told_436 : decode cL_told 436 = .ok (.iinc 14 1, 3) := by decide +kernel
theorem dL_told_439 : decode cL_told 439 = .ok (.goto (-318), 3) := by decide +kernel
theorem dL_told_442 : decode cL_told 442 = .ok (.iconst 0, 1) := by decide +kernel
theorem dL_told_443 : decode cL_told 443 = .ok (.istore 14, 2) := by decide +kernel
theorem dL_told_445 : decode cL_told 445 = .ok (.iload 14, 2) := by decide +kernel
theorem dL_told_447 : decode cL_told 447 = .ok (.aload 9, 2) := by decide +kernel
theorem dL_told_449 : decode cL_told 449 = .ok (.iconst 3, 1) := by decide +kernel
theorem dL_told_450 : decode cL_told 450 = .ok (.iaload, 1) := by decide +kernel
theorem dL_told_451 : decode cL_told 451 = .ok (.if_icmp .ge 163, 3) := by decide +kernel
theorem dL_told_454 : decode cL_told 454 = .ok (.iconst 0, 1) := by decide +kernel
theorem dL_told_455 : decode cL_told 455 = .ok (.istore 15, 2) := by decide +kernel
theorem dL_told_457 : decode cL_told 457 = .ok (.iconst 0, 1) := by decide +kernel
theorem dL_told_458 : decode cL_told 458 = .ok (.istore 16, 2) := by decide +kernel
theorem dL_told_460 : decode cL_told 460 = .ok (.iload 16, 2) := by decide +kernel
theorem dL_told_462 : decode cL_told 462 = .ok (.bipush 16, 2) := by decide +kernel
theorem dL_told_464 : decode cL_told 464 = .ok (.if_icmp .ge 30, 3) := by decide +kernel
theorem dL_told_467 : decode cL_told 467 = .ok (.iload 15, 2) := by decide +kernel
theorem dL_told_469 : decode cL_told 469 = .ok (.aload_n 3, 1) := by decide +kernel
theorem dL_told_470 : decode cL_told 470 = .ok (.iconst 4, 1) := by decide +kernel
theorem dL_told_471 : decode cL_told 471 = .ok (.iload 16, 2) := by decide +kernel
theorem dL_told_473 : decode cL_told 473 = .ok (.imul, 1) := by decide +kernel
theorem dL_told_474 : decode cL_told 474 = .ok (.iaload, 1) := by decide +kernel
theorem dL_told_475 : decode cL_told 475 = .ok (.iload 14, 2) := by decide +kernel
theorem dL_told_477 : decode cL_told 477 = .ok (.if_icmp .ne 7, 3) := by decide +kernel
theorem dL_told_480 : decode cL_told 480 = .ok (.iconst 1, 1) := by decide +kernel
theorem dL_told_481 : decode cL_told 481 = .ok (.goto 4, 3) := by decide +kernel
theorem dL_told_484 : decode cL_told 484 = .ok (.iconst 0, 1) := by decide +kernel
theorem dL_told_485 : decode cL_told 485 = .ok (.iadd, 1) := by decide +kernel
theorem dL_told_486 : decode cL_told 486 = .ok (.istore 15, 2) := by decide +kernel
theorem dL_told_488 : decode cL_told 488 = .ok (.iinc 16 1, 3) := by decide +kernel
theorem dL_told_491 : decode cL_told 491 = .ok (.goto (-31), 3) := by decide +kernel
theorem dL_told_494 : decode cL_told 494 = .ok (.iconst 0, 1) := by decide +kernel
theorem dL_told_495 : decode cL_told 495 = .ok (.istore 16, 2) := by decide +kernel
theorem dL_told_497 : decode cL_told 497 = .ok (.iload 16, 2) := by decide +kernel
theorem dL_told_499 : decode cL_told 499 = .ok (.iconst 3, 1) := by decide +kernel
theorem dL_told_500 : decode cL_told 500 = .ok (.if_icmp .ge 33, 3) := by decide +kernel
theorem dL_told_503 : decode cL_told 503 = .ok (.aload_n 0, 1) := by decide +kernel
theorem dL_told_504 : decode cL_told 504 = .ok (.iload 14, 2) := by decide +kernel
theorem dL_told_506 : decode cL_told 506 = .ok (.iload 16, 2) := by decide +kernel
theorem dL_told_508 : decode cL_told 508 = .ok (.invokevirtual 63, 3) := by decide +kernel
theorem dL_told_511 : decode cL_told 511 = .ok (.aload 6, 2) := by decide +kernel
theorem dL_told_513 : decode cL_told 513 = .ok (.bipush 6, 2) := by decide +kernel
theorem dL_told_515 : decode cL_told 515 = .ok (.iload 14, 2) := by decide +kernel
theorem dL_told_517 : decode cL_told 517 = .ok (.imul, 1) := by decide +kernel
theorem dL_told_518 : decode cL_told 518 = .ok (.iload 16, 2) := by decide +kernel
theorem dL_told_520 : decode cL_told 520 = .ok (.iadd, 1) := by decide +kernel
theorem dL_told_521 : decode cL_told 521 = .ok (.iaload, 1) := by decide +kernel
theorem dL_told_522 : decode cL_told 522 = .ok (.if_icmp .eq 5, 3) := by decide +kernel
theorem dL_told_525 : decode cL_told 525 = .ok (.iconst 0, 1) := by decide +kernel
theorem dL_told_526 : decode cL_told 526 = .ok (.ireturn, 1) := by decide +kernel
theorem dL_told_527 : decode cL_told 527 = .ok (.iinc 16 1, 3) := by decide +kernel
theorem dL_told_530 : decode cL_told 530 = .ok (.goto (-33), 3) := by decide +kernel
theorem dL_told_533 : decode cL_told 533 = .ok (.aload_n 0, 1) := by decide +kernel
theorem dL_told_534 : decode cL_told 534 = .ok (.iload 14, 2) := by decide +kernel
theorem dL_told_536 : decode cL_told 536 = .ok (.iconst 3, 1) := by decide +kernel
theorem dL_told_537 : decode cL_told 537 = .ok (.invokevirtual 63, 3) := by decide +kernel
theorem dL_told_540 : decode cL_told 540 = .ok (.iload 15, 2) := by decide +kernel
theorem dL_told_542 : decode cL_told 542 = .ok (.if_icmp .ne 64, 3) := by decide +kernel
theorem dL_told_545 : decode cL_told 545 = .ok (.aload_n 0, 1) := by decide +kernel
theorem dL_told_546 : decode cL_told 546 = .ok (.iload 14, 2) := by decide +kernel
theorem dL_told_548 : decode cL_told 548 = .ok (.iconst 4, 1) := by decide +kernel
theorem dL_told_549 : decode cL_told 549 = .ok (.invokevirtual 63, 3) := by decide +kernel
theorem dL_told_552 : decode cL_told 552 = .ok (.aload 6, 2) := by decide +kernel
theorem dL_told_554 : decode cL_told 554 = .ok (.bipush 6, 2) := by decide +kernel
theorem dL_told_556 : decode cL_told 556 = .ok (.iload 14, 2) := by decide +kernel
theorem dL_told_558 : decode cL_told 558 = .ok (.imul, 1) := by decide +kernel
theorem dL_told_559 : decode cL_told 559 = .ok (.iconst 3, 1) := by decide +kernel
theorem dL_told_560 : decode cL_told 560 = .ok (.iadd, 1) := by decide +kernel
theorem dL_told_561 : decode cL_told 561 = .ok (.iaload, 1) := by decide +kernel
theorem dL_told_562 : decode cL_told 562 = .ok (.if_icmp .ne 44, 3) := by decide +kernel
theorem dL_told_565 : decode cL_told 565 = .ok (.aload_n 0, 1) := by decide +kernel
theorem dL_told_566 : decode cL_told 566 = .ok (.iload 14, 2) := by decide +kernel
theorem dL_told_568 : decode cL_told 568 = .ok (.iconst 5, 1) := by decide +kernel
theorem dL_told_569 : decode cL_told 569 = .ok (.invokevirtual 63, 3) := by decide +kernel
theorem dL_told_572 : decode cL_told 572 = .ok (.aload 6, 2) := by decide +kernel
theorem dL_told_574 : decode cL_told 574 = .ok (.bipush 6, 2) := by decide +kernel
theorem dL_told_576 : decode cL_told 576 = .ok (.iload 14, 2) := by decide +kernel
theorem dL_told_578 : decode cL_told 578 = .ok (.imul, 1) := by decide +kernel
theorem dL_told_579 : decode cL_told 579 = .ok (.iconst 5, 1) := by decide +kernel
theorem dL_told_580 : decode cL_told 580 = .ok (.iadd, 1) := by decide +kernel
theorem dL_told_581 : decode cL_told 581 = .ok (.iaload, 1) := by decide +kernel
theorem dL_told_582 : decode cL_told 582 = .ok (.if_icmp .ne 24, 3) := by decide +kernel
theorem dL_told_585 : decode cL_told 585 = .ok (.aload_n 0, 1) := by decide +kernel
theorem dL_told_586 : decode cL_told 586 = .ok (.iload 14, 2) := by decide +kernel
theorem dL_told_588 : decode cL_told 588 = .ok (.bipush 6, 2) := by decide +kernel
