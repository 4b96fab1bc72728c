theorem dX7_write_8 : decode cX7_write 8 = .ok (.getfield 89, 3) := by decide +kernel
theorem dX7_write_11 : decode cX7_write 11 = .ok (.iload_n 1, 1) := by decide +kernel
theorem dX7_write_12 : decode cX7_write 12 = .ok (.invokevirtual 93, 3) := by decide +kernel
theorem dX7_write_15 : decode cX7_write 15 = .ok (.invokestatic 51, 3) := by decide +kernel
theorem dX7_write_18 : decode cX7_write 18 = .ok (.aload_n 0, 1) := by decide +kernel
theorem dX7_write_19 : decode cX7_write 19 = .ok (.getfield 22, 3) := by decide +kernel
theorem dX7_write_22 : decode cX7_write 22 = .ok (.aload_n 0, 1) := by decide +kernel
theorem dX7_write_23 : decode cX7_write 23 = .ok (.getfield 10, 3) := by decide +kernel
theorem dX7_write_26 : decode cX7_write 26 = .ok (.invokevirtual 54, 3) := by decide +kernel
theorem dX7_write_29 : decode cX7_write 29 = .ok (.aload_n 0, 1) := by decide +kernel
theorem dX7_write_30 : decode cX7_write 30 = .ok (.getfield 10, 3) := by decide +kernel
theorem dX7_write_33 : decode cX7_write 33 = .ok (.iload_n 1, 1) := by decide +kernel
theorem dX7_write_34 : decode cX7_write 34 = .ok (.iload_n 2, 1) := by decide +kernel
theorem dX7_write_35 : decode cX7_write 35 = .ok (.invokevirtual 144, 3) := by decide +kernel
theorem dX7_write_38 : decode cX7_write 38 = .ok (.aload_n 0, 1) := by decide +kernel
theorem dX7_write_39 : decode cX7_write 39 = .ok (.getfield 10, 3) := by decide +kernel
theorem dX7_write_42 : decode cX7_write 42 = .ok (.getfield 89, 3) := by decide +kernel
theorem dX7_write_45 : decode cX7_write 45 = .ok (.iload_n 1, 1) := by decide +kernel
theorem dX7_write_46 : decode cX7_write 46 = .ok (.invokevirtual 148, 3) := by decide +kernel
theorem dX7_write_49 : decode cX7_write 49 = .ok (.ireturn, 1) := by decide +kernel
theorem dX7_read_0 : decode cX7_read 0 = .ok (.iload_n 1, 1) := by decide +kernel
theorem dX7_read_1 : decode cX7_read 1 = .ok (.invokestatic 83, 3) := by decide +kernel
theorem dX7_read_4 : decode cX7_read 4 = .ok (.aload_n 0, 1) := by decide +kernel
theorem dX7_read_5 : decode cX7_read 5 = .ok (.getfield 10, 3) := by decide +kernel
theorem dX7_read_8 : decode cX7_read 8 = .ok (.iload_n 1, 1) := by decide +kernel
theorem dX7_read_9 : decode cX7_read 9 = .ok (.invokevirtual 151, 3) := by decide +kernel
theorem dX7_read_12 : decode cX7_read 12 = .ok (.invokestatic 51, 3) := by decide +kernel
theorem dX7_read_15 : decode cX7_read 15 = .ok (.aload_n 0, 1) := by decide +kernel
theorem dX7_read_16 : decode cX7_read 16 = .ok (.getfield 22, 3) := by decide +kernel
theorem dX7_read_19 : decode cX7_read 19 = .ok (.aload_n 0, 1) := by decide +kernel
theorem dX7_read_20 : decode cX7_read 20 = .ok (.getfield 10, 3) := by decide +kernel
theorem dX7_read_23 : decode cX7_read 23 = .ok (.invokevirtual 54, 3) := by decide +kernel
theorem dX7_read_26 : decode cX7_read 26 = .ok (.aload_n 0, 1) := by decide +kernel
theorem dX7_read_27 : decode cX7_read 27 = .ok (.getfield 10, 3) := by decide +kernel
theorem dX7_read_30 : decode cX7_read 30 = .ok (.iload_n 1, 1) := by decide +kernel
theorem dX7_read_31 : decode cX7_read 31 = .ok (.invokevirtual 154, 3) := by decide +kernel
theorem dX7_read_34 : decode cX7_read 34 = .ok (.ireturn, 1) := by decide +kernel
theorem dX7_writeBack_0 : decode cX7_writeBack 0 = .ok (.aload_n 0, 1) := by decide +kernel
theorem dX7_writeBack_1 : decode cX7_writeBack 1 = .ok (.getfield 10, 3) := by decide +kernel
theorem dX7_writeBack_4 : decode cX7_writeBack 4 = .ok (.getfield 157, 3) := by decide +kernel
theorem dX7_writeBack_7 : decode cX7_writeBack 7 = .ok (.getfield 161, 3) := by decide +kernel
theorem dX7_writeBack_10 : decode cX7_writeBack 10 = .ok (.ifCond .le 7, 3) := by decide +kernel
theorem dX7_writeBack_13 : decode cX7_writeBack 13 = .ok (.iconst 1, 1) := by decide +kernel
theorem dX7_writeBack_14 : decode cX7_writeBack 14 = .ok (.goto 4, 3) := by decide +kernel
theorem dX7_writeBack_17 : decode cX7_writeBack 17 = .ok (.iconst 0, 1) := by decide +kernel
theorem dX7_writeBack_18 : decode cX7_writeBack 18 = .ok (.invokestatic 51, 3) := by decide +kernel
theorem dX7_writeBack_21 : decode cX7_writeBack 21 = .ok (.aload_n 0, 1) := by decide +kernel
theorem dX7_writeBack_22 : decode cX7_writeBack 22 = .ok (.getfield 22, 3) := by decide +kernel
theorem dX7_writeBack_25 : decode cX7_writeBack 25 = .ok (.aload_n 0, 1) := by decide +kernel
theorem dX7_writeBack_26 : decode cX7_writeBack 26 = .ok (.getfield 10, 3) := by decide +kernel
theorem dX7_writeBack_29 : decode cX7_writeBack 29 = .ok (.invokevirtual 54, 3) := by decide +kernel
theorem dX7_writeBack_32 : decode cX7_writeBack 32 = .ok (.aload_n 0, 1) := by decide +kernel
theorem dX7_writeBack_33 : decode cX7_writeBack 33 = .ok (.getfield 10, 3) := by decide +kernel
theorem dX7_writeBack_36 : decode cX7_writeBack 36 = .ok (.invokevirtual 164, 3) := by decide +kernel
theorem dX7_writeBack_39 : decode cX7_writeBack 39 = .ok (.ireturn, 1) := by decide +kernel
theorem dX7_pass_0 : decode cX7_pass 0 = .ok (.iload_n 1, 1) := by decide +kernel
theorem dX7_pass_1 : decode cX7_pass 1 = .ok (.iconst 1, 1) := by decide +kernel
theorem dX7_pass_2 : decode cX7_pass 2 = .ok (.bipush 100, 2) := by decide +kernel
theorem dX7_pass_4 : decode cX7_pass 4 = .ok (.invokestatic 33, 3) := by decide +kernel
theorem dX7_pass_7 : decode cX7_pass 7 = .ok (.invokestatic 37, 3) := by decide +kernel
theorem dX7_pass_10 : decode cX7_pass 10 = .ok (.aload_n 0, 1) := by decide +kernel
theorem dX7_pass_11 : decode cX7_pass 11 = .ok (.getfield 10, 3) := by decide +kernel
theorem dX7_pass_14 : decode cX7_pass 14 = .ok (.getfield 168, 3) := by decide +kernel
theorem dX7_pass_17 : decode cX7_pass 17 = .ok (.iload_n 1, 1) := by decide +kernel
theorem dX7_pass_18 : decode cX7_pass 18 = .ok (.iadd, 1) := by decide +kernel
theorem dX7_pass_19 : decode cX7_pass 19 = .ok (.sipush 10000, 3) := by decide +kernel
theorem dX7_pass_22 : decode cX7_pass 22 = .ok (.if_icmp .gt 7, 3) := by decide +kernel
theorem dX7_pass_25 : decode cX7_pass 25 = .ok (.iconst 1, 1) := by decide +kernel
theorem dX7_pass_26 : decode cX7_pass 26 = .ok (.goto 4, 3) := by decide +kernel
theorem dX7_pass_29 : decode cX7_pass 29 = .ok (.iconst 0, 1) := by decide +kernel
theorem dX7_pass_30 : decode cX7_pass 30 = .ok (.invokestatic 51, 3) := by decide +kernel
theorem dX7_pass_33 : decode cX7_pass 33 = .ok (.aload_n 0, 1) := by decide +kernel
theorem dX7_pass_34 : decode cX7_pass 34 = .ok (.getfield 22, 3) := by decide +kernel
theorem dX7_pass_37 : decode cX7_pass 37 = .ok (.aload_n 0, 1) := by decide +kernel
theorem dX7_pass_38 : decode cX7_pass 38 = .ok (.getfield 10, 3) := by decide +kernel
theorem dX7_pass_41 : decode cX7_pass 41 = .ok (.invokevirtual 54, 3) := by decide +kernel
theorem dX7_pass_44 : decode cX7_pass 44 = .ok (.aload_n 0, 1) := by decide +kernel
theorem dX7_pass_45 : decode cX7_pass 45 = .ok (.getfield 10, 3) := by decide +kernel
theorem dX7_pass_48 : decode cX7_pass 48 = .ok (.iload_n 1, 1) := by decide +kernel
theorem dX7_pass_49 : decode cX7_pass 49 = .ok (.invokevirtual 171, 3) := by decide +kernel
theorem dX7_pass_52 : decode cX7_pass 52 = .ok (.aload_n 0, 1) := by decide +kernel
theorem dX7_pass_53 : decode cX7_pass 53 = .ok (.getfield 10, 3) := by decide +kernel
theorem dX7_pass_56 : decode cX7_pass 56 = .ok (.getfield 124, 3) := by decide +kernel
theorem dX7_pass_59 : decode cX7_pass 59 = .ok (.ireturn, 1) := by decide +kernel
theorem dX7_append_0 : decode cX7_append 0 = .ok (.iload_n 1, 1) := by decide +kernel
theorem dX7_append_1 : decode cX7_append 1 = .ok (.bipush 33, 2) := by decide +kernel
theorem dX7_append_3 : decode cX7_append 3 = .ok (.bipush 126, 2) := by decide +kernel
theorem dX7_append_5 : decode cX7_append 5 = .ok (.invokestatic 33, 3) := by decide +kernel
theorem dX7_append_8 : decode cX7_append 8 = .ok (.invokestatic 37, 3) := by decide +kernel
theorem dX7_append_11 : decode cX7_append 11 = .ok (.aload_n 0, 1) := by decide +kernel
theorem dX7_append_12 : decode cX7_append 12 = .ok (.getfield 29, 3) := by decide +kernel
theorem dX7_append_15 : decode cX7_append 15 = .ok (.getfield 174, 3) := by decide +kernel
theorem dX7_append_18 : decode cX7_append 18 = .ok (.bipush 60, 2) := by decide +kernel
theorem dX7_append_20 : decode cX7_append 20 = .ok (.if_icmp .ge 7, 3) := by decide +kernel
theorem dX7_append_23 : decode cX7_append 23 = .ok (.iconst 1, 1) := by decide +kernel
theorem dX7_append_24 : decode cX7_append 24 = .ok (.goto 4, 3) := by decide +kernel
theorem dX7_append_27 : decode cX7_append 27 = .ok (.iconst 0, 1) := by decide +kernel
theorem dX7_append_28 : decode cX7_append 28 = .ok (.invokestatic 51, 3) := by decide +kernel
theorem dX7_append_31 : decode cX7_append 31 = .ok (.aload_n 0, 1) := by decide +kernel
theorem dX7_append_32 : decode cX7_append 32 = .ok (.getfield 29, 3) := by decide +kernel
theorem dX7_append_35 : decode cX7_append 35 = .ok (.iload_n 1, 1) := by decide +kernel
theorem dX7_append_36 : decode cX7_append 36 = .ok (.invokevirtual 177, 3) := by decide +kernel
theorem dX7_append_39 : decode cX7_append 39 = .ok (.aload_n 0, 1) := by decide +kernel
theorem dX7_append_40 : decode cX7_append 40 = .ok (.getfield 29, 3) := by decide +kernel
theorem dX7_append_43 : decode cX7_append 43 = .ok (.getfield 174, 3) := by decide +kernel
theorem dX7_append_46 : decode cX7_append 46 = .ok (.ireturn, 1) := by decide +kernel
theorem dX7_clearBuffer_0 : decode cX7_clearBuffer 0 = .ok (.aload_n 0, 1) := by decide +kernel
theorem dX7_clearBuffer_1 : decode cX7_clearBuffer 1 = .ok (.getfield 29, 3) := by decide +kernel
theorem dX7_clearBuffer_4 : decode cX7_clearBuffer 4 = .ok (.getfield 174, 3) := by decide +kernel
theorem dX7_clearBuffer_7 : decode cX7_clearBuffer 7 = .ok (.istore_n 1, 1) := by decide +kernel
theorem dX7_clearBuffer_8 : decode cX7_clearBuffer 8 = .ok (.aload_n 0, 1) := by decide +kernel
theorem dX7_clearBuffer_9 : decode cX7_clearBuffer 9 = .ok (.getfield 29, 3) := by decide +kernel
theorem dX7_clearBuffer_12 : decode cX7_clearBuffer 12 = .ok (.iconst 0, 1) := by decide +kernel
theorem dX7_clearBuffer_13 : decode cX7_clearBuffer 13 = .ok (.putfield 174, 3) := by decide +kernel
theorem dX7_clearBuffer_16 : decode cX7_clearBuffer 16 = .ok (.iload_n 1, 1) := by decide +kernel
theorem dX7_clearBuffer_17 : decode cX7_clearBuffer 17 = .ok (.ireturn, 1) := by decide +kernel
theorem dX7_firstError_0 : decode cX7_firstError 0 = .ok (.aload_n 0, 1) := by decide +kernel
theorem dX7_firstError_1 : decode cX7_firstError 1 = .ok (.getfield 29, 3) := by decide +kernel
theorem dX7_firstError_4 : decode cX7_firstError 4 = .ok (.invokevirtual 180, 3) := by decide +kernel
theorem dX7_firstError_7 : decode cX7_firstError 7 = .ok (.ireturn, 1) := by decide +kernel
theorem dX7_run_0 : decode cX7_run 0 = .ok (.aload_n 0, 1) := by decide +kernel
theorem dX7_run_1 : decode cX7_run 1 = .ok (.iload_n 1, 1) := by decide +kernel
theorem dX7_run_2 : decode cX7_run 2 = .ok (.invokevirtual 86, 3) := by decide +kernel
theorem dX7_run_5 : decode cX7_run 5 = .ok (.aload_n 0, 1) := by decide +kernel
theorem dX7_run_6 : decode cX7_run 6 = .ok (.getfield 29, 3) := by decide +kernel
theorem dX7_run_9 : decode cX7_run 9 = .ok (.invokevirtual 183, 3) := by decide +kernel
theorem dX7_run_12 : decode cX7_run 12 = .ok (.invokestatic 37, 3) := by decide +kernel
theorem dX7_run_15 : decode cX7_run 15 = .ok (.aload_n 0, 1) := by decide +kernel
theorem dX7_run_16 : decode cX7_run 16 = .ok (.getfield 22, 3) := by decide +kernel
theorem dX7_run_19 : decode cX7_run 19 = .ok (.aload_n 0, 1) := by decide +kernel
theorem dX7_run_20 : decode cX7_run 20 = .ok (.getfield 10, 3) := by decide +kernel
theorem dX7_run_23 : decode cX7_run 23 = .ok (.invokevirtual 54, 3) := by decide +kernel
theorem dX7_run_26 : decode cX7_run 26 = .ok (.iconst 0, 1) := by decide +kernel
theorem dX7_run_27 : decode cX7_run 27 = .ok (.istore_n 2, 1) := by decide +kernel
theorem dX7_run_28 : decode cX7_run 28 = .ok (.iconst 0, 1) := by decide +kernel
theorem dX7_run_29 : decode cX7_run 29 = .ok (.istore_n 3, 1) := by decide +kernel
theorem dX7_run_30 : decode cX7_run 30 = .ok (.iload_n 2, 1) := by decide +kernel
theorem dX7_run_31 : decode cX7_run 31 = .ok (.bipush 60, 2) := by decide +kernel
theorem dX7_run_33 : decode cX7_run 33 = .ok (.if_icmp .ge 47, 3) := by decide +kernel
theorem dX7_run_36 : decode cX7_run 36 = .ok (.iload_n 3, 1) := by decide +kernel
theorem dX7_run_37 : decode cX7_run 37 = .ok (.aload_n 0, 1) := by decide +kernel
theorem dX7_run_38 : decode cX7_run 38 = .ok (.getfield 29, 3) := by decide +kernel
theorem dX7_run_41 : decode cX7_run 41 = .ok (.getfield 174, 3) := by decide +kernel
theorem dX7_run_44 : decode cX7_run 44 = .ok (.if_icmp .ge 36, 3) := by decide +kernel
theorem dX7_run_47 : decode cX7_run 47 = .ok (.aload_n 0, 1) := by decide +kernel
theorem dX7_run_48 : decode cX7_run 48 = .ok (.iload_n 1, 1) := by decide +kernel
theorem dX7_run_49 : decode cX7_run 49 = .ok (.iload_n 3, 1) := by decide +kernel
theorem dX7_run_50 : decode cX7_run 50 = .ok (.invokevirtual 187, 3) := by decide +kernel
theorem dX7_run_53 : decode cX7_run 53 = .ok (.ifCond .eq 27, 3) := by decide +kernel
theorem dX7_run_56 : decode cX7_run 56 = .ok (.aload_n 0, 1) := by decide +kernel
theorem dX7_run_57 : decode cX7_run 57 = .ok (.iload_n 3, 1) := by decide +kernel
theorem dX7_run_58 : decode cX7_run 58 = .ok (.invokevirtual 191, 3) := by decide +kernel
theorem dX7_run_61 : decode cX7_run 61 = .ok (.iinc 2 1, 3) := by decide +kernel
theorem dX7_run_64 : decode cX7_run 64 = .ok (.iload_n 3, 1) := by decide +kernel
theorem dX7_run_65 : decode cX7_run 65 = .ok (.aload_n 0, 1) := by decide +kernel
theorem dX7_run_66 : decode cX7_run 66 = .ok (.getfield 29, 3) := by decide +kernel
theorem dX7_run_69 : decode cX7_run 69 = .ok (.iload_n 3, 1) := by decide +kernel
theorem dX7_run_70 : decode cX7_run 70 = .ok (.invokevirtual 194, 3) := by decide +kernel
theorem dX7_run_73 : decode cX7_run 73 = .ok (.iconst 1, 1) := by decide +kernel
theorem dX7_run_74 : decode cX7_run 74 = .ok (.iadd, 1) := by decide +kernel
theorem dX7_run_75 : decode cX7_run 75 = .ok (.iadd, 1) := by decide +kernel
theorem dX7_run_76 : decode cX7_run 76 = .ok (.istore_n 3, 1) := by decide +kernel
theorem dX7_run_77 : decode cX7_run 77 = .ok (.goto (-47), 3) := by decide +kernel
theorem dX7_run_80 : decode cX7_run 80 = .ok (.aload_n 0, 1) := by decide +kernel
theorem dX7_run_81 : decode cX7_run 81 = .ok (.getfield 29, 3) := by decide +kernel
theorem dX7_run_84 : decode cX7_run 84 = .ok (.iconst 0, 1) := by decide +kernel
theorem dX7_run_85 : decode cX7_run 85 = .ok (.putfield 174, 3) := by decide +kernel
theorem dX7_run_88 : decode cX7_run 88 = .ok (.iload_n 2, 1) := by decide +kernel
theorem dX7_run_89 : decode cX7_run 89 = .ok (.ireturn, 1) := by decide +kernel
theorem dX7_undo_0 : decode cX7_undo 0 = .ok (.aload_n 0, 1) := by decide +kernel
theorem dX7_undo_1 : decode cX7_undo 1 = .ok (.getfield 22, 3) := by decide +kernel
theorem dX7_undo_4 : decode cX7_undo 4 = .ok (.getfield 197, 3) := by decide +kernel
theorem dX7_undo_7 : decode cX7_undo 7 = .ok (.ifCond .le 7, 3) := by decide +kernel
theorem dX7_undo_10 : decode cX7_undo 10 = .ok (.iconst 1, 1) := by decide +kernel
theorem dX7_undo_11 : decode cX7_undo 11 = .ok (.goto 4, 3) := by decide +kernel
theorem dX7_undo_14 : decode cX7_undo 14 = .ok (.iconst 0, 1) := by decide +kernel
theorem dX7_undo_15 : decode cX7_undo 15 = .ok (.invokestatic 51, 3) := by decide +kernel
theorem dX7_undo_18 : decode cX7_undo 18 = .ok (.aload_n 0, 1) := by decide +kernel
theorem dX7_undo_19 : decode cX7_undo 19 = .ok (.getfield 22, 3) := by decide +kernel
theorem dX7_undo_22 : decode cX7_undo 22 = .ok (.aload_n 0, 1) := by decide +kernel
theorem dX7_undo_23 : decode cX7_undo 23 = .ok (.getfield 10, 3) := by decide +kernel
theorem dX7_undo_26 : decode cX7_undo 26 = .ok (.invokevirtual 198, 3) := by decide +kernel
theorem dX7_undo_29 : decode cX7_undo 29 = .ok (.aload_n 0, 1) := by decide +kernel
theorem dX7_undo_30 : decode cX7_undo 30 = .ok (.getfield 22, 3) := by decide +kernel
theorem dX7_undo_33 : decode cX7_undo 33 = .ok (.getfield 197, 3) := by decide +kernel
theorem dX7_undo_36 : decode cX7_undo 36 = .ok (.ireturn, 1) := by decide +kernel
theorem dX7_core_0 : decode cX7_core 0 = .ok (.iload_n 1, 1) := by decide +kernel
theorem dX7_core_1 : decode cX7_core 1 = .ok (.invokestatic 83, 3) := by decide +kernel
theorem dX7_core_4 : decode cX7_core 4 = .ok (.iload_n 2, 1) := by decide +kernel
theorem dX7_core_5 : decode cX7_core 5 = .ok (.iconst 0, 1) := by decide +kernel
theorem dX7_core_6 : decode cX7_core 6 = .ok (.bipush 8, 2) := by decide +kernel
theorem dX7_core_8 : decode cX7_core 8 = .ok (.invokestatic 33, 3) := by decide +kernel
theorem dX7_core_11 : decode cX7_core 11 = .ok (.invokestatic 37, 3) := by decide +kernel
theorem dX7_core_14 : decode cX7_core 14 = .ok (.iload_n 2, 1) := by decide +kernel
theorem dX7_core_15 : decode cX7_core 15 = .ok (.tableswitch 147 0 7 #[45, 57, 70, 83, 92, 105, 114, 134], 45) := by decide +kernel
theorem dX7_core_60 : decode cX7_core 60 = .ok (.aload_n 0, 1) := by decide +kernel
theorem dX7_core_61 : decode cX7_core 61 = .ok (.getfield 10, 3) := by decide +kernel
theorem dX7_core_64 : decode cX7_core 64 = .ok (.getfield 89, 3) := by decide +kernel
theorem dX7_core_67 : decode cX7_core 67 = .ok (.iload_n 1, 1) := by decide +kernel
theorem dX7_core_68 : decode cX7_core 68 = .ok (.invokevirtual 148, 3) := by decide +kernel
theorem dX7_core_71 : decode cX7_core 71 = .ok (.ireturn, 1) := by decide +kernel
theorem dX7_core_72 : decode cX7_core 72 = .ok (.aload_n 0, 1) := by decide +kernel
theorem dX7_core_73 : decode cX7_core 73 = .ok (.getfield 10, 3) := by decide +kernel
theorem dX7_core_76 : decode cX7_core 76 = .ok (.getfield 89, 3) := by decide +kernel
theorem dX7_core_79 : decode cX7_core 79 = .ok (.getfield 138, 3) := by decide +kernel
theorem dX7_core_82 : decode cX7_core 82 = .ok (.iload_n 1, 1) := by decide +kernel
theorem dX7_core_83 : decode cX7_core 83 = .ok (.iaload, 1) := by decide +kernel
theorem dX7_core_84 : decode cX7_core 84 = .ok (.ireturn, 1) := by decide +kernel
theorem dX7_core_85 : decode cX7_core 85 = .ok (.aload_n 0, 1) := by decide +kernel
theorem dX7_core_86 : decode cX7_core 86 = .ok (.getfield 10, 3) := by decide +kernel
theorem dX7_core_89 : decode cX7_core 89 = .ok (.getfield 89, 3) := by decide +kernel
theorem dX7_core_92 : decode cX7_core 92 = .ok (.getfield 112, 3) := by decide +kernel
theorem dX7_core_95 : decode cX7_core 95 = .ok (.iload_n 1, 1) := by decide +kernel
theorem dX7_core_96 : decode cX7_core 96 = .ok (.iaload, 1) := by decide +kernel
theorem dX7_core_97 : decode cX7_core 97 = .ok (.ireturn, 1) := by decide +kernel
theorem dX7_core_98 : decode cX7_core 98 = .ok (.aload_n 0, 1) := by decide +kernel
theorem dX7_core_99 : decode cX7_core 99 = .ok (.getfield 10, 3) := by decide +kernel
theorem dX7_core_102 : decode cX7_core 102 = .ok (.iload_n 1, 1) := by decide +kernel
theorem dX7_core_103 : decode cX7_core 103 = .ok (.invokevirtual 121, 3) := by decide +kernel
theorem dX7_core_106 : decode cX7_core 106 = .ok (.ireturn, 1) := by decide +kernel
theorem dX7_core_107 : decode cX7_core 107 = .ok (.aload_n 0, 1) := by decide +kernel
theorem dX7_core_108 : decode cX7_core 108 = .ok (.getfield 10, 3) := by decide +kernel
theorem dX7_core_111 : decode cX7_core 111 = .ok (.getfield 89, 3) := by decide +kernel
theorem dX7_core_114 : decode cX7_core 114 = .ok (.getfield 201, 3) := by decide +kernel
theorem dX7_core_117 : decode cX7_core 117 = .ok (.iload_n 1, 1) := by decide +kernel
theorem dX7_core_118 : decode cX7_core 118 = .ok (.iaload, 1) := by decide +kernel
theorem dX7_core_119 : decode cX7_core 119 = .ok (.ireturn, 1) := by decide +kernel
theorem dX7_core_120 : decode cX7_core 120 = .ok (.aload_n 0, 1) := by decide +kernel
theorem dX7_core_121 : decode cX7_core 121 = .ok (.getfield 10, 3) := by decide +kernel
theorem dX7_core_124 : decode cX7_core 124 = .ok (.iload_n 1, 1) := by decide +kernel
theorem dX7_core_125 : decode cX7_core 125 = .ok (.invokevirtual 204, 3) := by decide +kernel
theorem dX7_core_128 : decode cX7_core 128 = .ok (.ireturn, 1) := by decide +kernel
theorem dX7_core_129 : decode cX7_core 129 = .ok (.aload_n 0, 1) := by decide +kernel
theorem dX7_core_130 : decode cX7_core 130 = .ok (.getfield 10, 3) := by decide +kernel
theorem dX7_core_133 : decode cX7_core 133 = .ok (.getfield 157, 3) := by decide +kernel
theorem dX7_core_136 : decode cX7_core 136 = .ok (.iload_n 1, 1) := by decide +kernel
theorem dX7_core_137 : decode cX7_core 137 = .ok (.invokevirtual 207, 3) := by decide +kernel
theorem dX7_core_140 : decode cX7_core 140 = .ok (.ifCond .eq 7, 3) := by decide +kernel
theorem dX7_core_143 : decode cX7_core 143 = .ok (.iconst 1, 1) := by decide +kernel
theorem dX7_core_144 : decode cX7_core 144 = .ok (.goto 4, 3) := by decide +kernel
theorem dX7_core_147 : decode cX7_core 147 = .ok (.iconst 0, 1) := by decide +kernel
theorem dX7_core_148 : decode cX7_core 148 = .ok (.ireturn, 1) := by decide +kernel
theorem dX7_core_149 : decode cX7_core 149 = .ok (.aload_n 0, 1) := by decide +kernel
theorem dX7_core_150 : decode cX7_core 150 = .ok (.getfield 10, 3) := by decide +kernel
theorem dX7_core_153 : decode cX7_core 153 = .ok (.getfield 157, 3) := by decide +kernel
theorem dX7_core_156 : decode cX7_core 156 = .ok (.getfield 210, 3) := by decide +kernel
theorem dX7_core_159 : decode cX7_core 159 = .ok (.iload_n 1, 1) := by decide +kernel
theorem dX7_core_160 : decode cX7_core 160 = .ok (.iaload, 1) := by decide +kernel
theorem dX7_core_161 : decode cX7_core 161 = .ok (.ireturn, 1) := by decide +kernel
theorem dX7_core_162 : decode cX7_core 162 = .ok (.aload_n 0, 1) := by decide +kernel
theorem dX7_core_163 : decode cX7_core 163 = .ok (.getfield 10, 3) := by decide +kernel
theorem dX7_core_166 : decode cX7_core 166 = .ok (.getfield 89, 3) := by decide +kernel
theorem dX7_core_169 : decode cX7_core 169 = .ok (.getfield 213, 3) := by decide +kernel
theorem dX7_core_172 : decode cX7_core 172 = .ok (.iload_n 1, 1) := by decide +kernel
theorem dX7_core_173 : decode cX7_core 173 = .ok (.iaload, 1) := by decide +kernel
theorem dX7_core_174 : decode cX7_core 174 = .ok (.ireturn, 1) := by decide +kernel
theorem dX7_tenant_0 : decode cX7_tenant 0 = .ok (.aload_n 0, 1) := by decide +kernel
theorem dX7_tenant_1 : decode cX7_tenant 1 = .ok (.iload_n 1, 1) := by decide +kernel
theorem dX7_tenant_2 : decode cX7_tenant 2 = .ok (.invokevirtual 86, 3) := by decide +kernel
theorem dX7_tenant_5 : decode cX7_tenant 5 = .ok (.iload_n 2, 1) := by decide +kernel
theorem dX7_tenant_6 : decode cX7_tenant 6 = .ok (.iconst 0, 1) := by decide +kernel
theorem dX7_tenant_7 : decode cX7_tenant 7 = .ok (.iconst 5, 1) := by decide +kernel
theorem dX7_tenant_8 : decode cX7_tenant 8 = .ok (.invokestatic 33, 3) := by decide +kernel
theorem dX7_tenant_11 : decode cX7_tenant 11 = .ok (.invokestatic 37, 3) := by decide +kernel
theorem dX7_tenant_14 : decode cX7_tenant 14 = .ok (.iload_n 2, 1) := by decide +kernel
theorem dX7_tenant_15 : decode cX7_tenant 15 = .ok (.tableswitch 96 0 4 #[33, 46, 58, 70, 83], 33) := by decide +kernel
theorem dX7_tenant_48 : decode cX7_tenant 48 = .ok (.aload_n 0, 1) := by decide +kernel
theorem dX7_tenant_49 : decode cX7_tenant 49 = .ok (.getfield 10, 3) := by decide +kernel
theorem dX7_tenant_52 : decode cX7_tenant 52 = .ok (.getfield 41, 3) := by decide +kernel
theorem dX7_tenant_55 : decode cX7_tenant 55 = .ok (.getfield 99, 3) := by decide +kernel
theorem dX7_tenant_58 : decode cX7_tenant 58 = .ok (.iload_n 1, 1) := by decide +kernel
theorem dX7_tenant_59 : decode cX7_tenant 59 = .ok (.iaload, 1) := by decide +kernel
theorem dX7_tenant_60 : decode cX7_tenant 60 = .ok (.ireturn, 1) := by decide +kernel
theorem dX7_tenant_61 : decode cX7_tenant 61 = .ok (.aload_n 0, 1) := by decide +kernel
theorem dX7_tenant_62 : decode cX7_tenant 62 = .ok (.getfield 10, 3) := by decide +kernel
theorem dX7_tenant_65 : decode cX7_tenant 65 = .ok (.getfield 89, 3) := by decide +kernel
theorem dX7_tenant_68 : decode cX7_tenant 68 = .ok (.iload_n 1, 1) := by decide +kernel
theorem dX7_tenant_69 : decode cX7_tenant 69 = .ok (.invokevirtual 216, 3) := by decide +kernel
theorem dX7_tenant_72 : decode cX7_tenant 72 = .ok (.ireturn, 1) := by decide +kernel
theorem dX7_tenant_73 : decode cX7_tenant 73 = .ok (.aload_n 0, 1) := by decide +kernel
theorem dX7_tenant_74 : decode cX7_tenant 74 = .ok (.getfield 10, 3) := by decide +kernel
theorem dX7_tenant_77 : decode cX7_tenant 77 = .ok (.getfield 89, 3) := by decide +kernel
theorem dX7_tenant_80 : decode cX7_tenant 80 = .ok (.iload_n 1, 1) := by decide +kernel
theorem dX7_tenant_81 : decode cX7_tenant 81 = .ok (.invokevirtual 219, 3) := by decide +kernel
theorem dX7_tenant_84 : decode cX7_tenant 84 = .ok (.ireturn, 1) := by decide +kernel
theorem dX7_tenant_85 : decode cX7_tenant 85 = .ok (.aload_n 0, 1) := by decide +kernel
theorem dX7_tenant_86 : decode cX7_tenant 86 = .ok (.getfield 10, 3) := by decide +kernel
theorem dX7_tenant_89 : decode cX7_tenant 89 = .ok (.getfield 41, 3) := by decide +kernel
theorem dX7_tenant_92 : decode cX7_tenant 92 = .ok (.getfield 222, 3) := by decide +kernel
theorem dX7_tenant_95 : decode cX7_tenant 95 = .ok (.iload_n 1, 1) := by decide +kernel
theorem dX7_tenant_96 : decode cX7_tenant 96 = .ok (.iaload, 1) := by decide +kernel
theorem dX7_tenant_97 : decode cX7_tenant 97 = .ok (.ireturn, 1) := by decide +kernel
theorem dX7_tenant_98 : decode cX7_tenant 98 = .ok (.aload_n 0, 1) := by decide +kernel
theorem dX7_tenant_99 : decode cX7_tenant 99 = .ok (.getfield 10, 3) := by decide +kernel
theorem dX7_tenant_102 : decode cX7_tenant 102 = .ok (.getfield 41, 3) := by decide +kernel
theorem dX7_tenant_105 : decode cX7_tenant 105 = .ok (.getfield 223, 3) := by decide +kernel
theorem dX7_tenant_108 : decode cX7_tenant 108 = .ok (.iload_n 1, 1) := by decide +kernel
theorem dX7_tenant_109 : decode cX7_tenant 109 = .ok (.iaload, 1) := by decide +kernel
theorem dX7_tenant_110 : decode cX7_tenant 110 = .ok (.ireturn, 1) := by decide +kernel
theorem dX7_tenant_111 : decode cX7_tenant 111 = .ok (.aload_n 0, 1) := by decide +kernel
theorem dX7_tenant_112 : decode cX7_tenant 112 = .ok (.getfield 10, 3) := by decide +kernel
theorem dX7_tenant_115 : decode cX7_tenant 115 = .ok (.iload_n 1, 1) := by decide +kernel
theorem dX7_tenant_116 : decode cX7_tenant 116 = .ok (.invokevirtual 226, 3) := by decide +kernel
theorem dX7_tenant_119 : decode cX7_tenant 119 = .ok (.ireturn, 1) := by decide +kernel
theorem dX7_insurer_0 : decode cX7_insurer 0 = .ok (.aload_n 0, 1) := by decide +kernel
theorem dX7_insurer_1 : decode cX7_insurer 1 = .ok (.iload_n 1, 1) := by decide +kernel
theorem dX7_insurer_2 : decode cX7_insurer 2 = .ok (.invokevirtual 109, 3) := by decide +kernel
theorem dX7_insurer_5 : decode cX7_insurer 5 = .ok (.iload_n 2, 1) := by decide +kernel
theorem dX7_insurer_6 : decode cX7_insurer 6 = .ok (.iconst 0, 1) := by decide +kernel
theorem dX7_insurer_7 : decode cX7_insurer 7 = .ok (.bipush 6, 2) := by decide +kernel
theorem dX7_insurer_9 : decode cX7_insurer 9 = .ok (.invokestatic 33, 3) := by decide +kernel
theorem dX7_insurer_12 : decode cX7_insurer 12 = .ok (.invokestatic 37, 3) := by decide +kernel
theorem dX7_insurer_15 : decode cX7_insurer 15 = .ok (.iload_n 2, 1) := by decide +kernel
theorem dX7_insurer_16 : decode cX7_insurer 16 = .ok (.tableswitch 113 0 5 #[40, 53, 66, 79, 91, 104], 40) := by decide +kernel
theorem dX7_insurer_56 : decode cX7_insurer 56 = .ok (.aload_n 0, 1) := by decide +kernel
theorem dX7_insurer_57 : decode cX7_insurer 57 = .ok (.getfield 10, 3) := by decide +kernel
theorem dX7_insurer_60 : decode cX7_insurer 60 = .ok (.getfield 62, 3) := by decide +kernel
theorem dX7_insurer_63 : decode cX7_insurer 63 = .ok (.getfield 229, 3) := by decide +kernel
theorem dX7_insurer_66 : decode cX7_insurer 66 = .ok (.iload_n 1, 1) := by decide +kernel
theorem dX7_insurer_67 : decode cX7_insurer 67 = .ok (.iaload, 1) := by decide +kernel
theorem dX7_insurer_68 : decode cX7_insurer 68 = .ok (.ireturn, 1) := by decide +kernel
theorem dX7_insurer_69 : decode cX7_insurer 69 = .ok (.aload_n 0, 1) := by decide +kernel
theorem dX7_insurer_70 : decode cX7_insurer 70 = .ok (.getfield 10, 3) := by decide +kernel
theorem dX7_insurer_73 : decode cX7_insurer 73 = .ok (.getfield 62, 3) := by decide +kernel
theorem dX7_insurer_76 : decode cX7_insurer 76 = .ok (.getfield 232, 3) := by decide +kernel
theorem dX7_insurer_79 : decode cX7_insurer 79 = .ok (.iload_n 1, 1) := by decide +kernel
theorem dX7_insurer_80 : decode cX7_insurer 80 = .ok (.iaload, 1) := by decide +kernel
theorem dX7_insurer_81 : decode cX7_insurer 81 = .ok (.ireturn, 1) := by decide +kernel
theorem dX7_insurer_82 : decode cX7_insurer 82 = .ok (.aload_n 0, 1) := by decide +kernel
theorem dX7_insurer_83 : decode cX7_insurer 83 = .ok (.getfield 10, 3) := by decide +kernel
theorem dX7_insurer_86 : decode cX7_insurer 86 = .ok (.getfield 62, 3) := by decide +kernel
theorem dX7_insurer_89 : decode cX7_insurer 89 = .ok (.getfield 235, 3) := by decide +kernel
theorem dX7_insurer_92 : decode cX7_insurer 92 = .ok (.iload_n 1, 1) := by decide +kernel
theorem dX7_insurer_93 : decode cX7_insurer 93 = .ok (.iaload, 1) := by decide +kernel
theorem dX7_insurer_94 : decode cX7_insurer 94 = .ok (.ireturn, 1) := by decide +kernel
theorem dX7_insurer_95 : decode cX7_insurer 95 = .ok (.aload_n 0, 1) := by decide +kernel
theorem dX7_insurer_96 : decode cX7_insurer 96 = .ok (.getfield 10, 3) := by decide +kernel
theorem dX7_insurer_99 : decode cX7_insurer 99 = .ok (.getfield 89, 3) := by decide +kernel
theorem dX7_insurer_102 : decode cX7_insurer 102 = .ok (.iload_n 1, 1) := by decide +kernel
theorem dX7_insurer_103 : decode cX7_insurer 103 = .ok (.invokevirtual 238, 3) := by decide +kernel
theorem dX7_insurer_106 : decode cX7_insurer 106 = .ok (.ireturn, 1) := by decide +kernel
theorem dX7_insurer_107 : decode cX7_insurer 107 = .ok (.aload_n 0, 1) := by decide +kernel
theorem dX7_insurer_108 : decode cX7_insurer 108 = .ok (.getfield 10, 3) := by decide +kernel
theorem dX7_insurer_111 : decode cX7_insurer 111 = .ok (.getfield 62, 3) := by decide +kernel
theorem dX7_insurer_114 : decode cX7_insurer 114 = .ok (.getfield 241, 3) := by decide +kernel
theorem dX7_insurer_117 : decode cX7_insurer 117 = .ok (.iload_n 1, 1) := by decide +kernel
theorem dX7_insurer_118 : decode cX7_insurer 118 = .ok (.iaload, 1) := by decide +kernel
theorem dX7_insurer_119 : decode cX7_insurer 119 = .ok (.ireturn, 1) := by decide +kernel
theorem dX7_insurer_120 : decode cX7_insurer 120 = .ok (.aload_n 0, 1) := by decide +kernel
theorem dX7_insurer_121 : decode cX7_insurer 121 = .ok (.getfield 10, 3) := by decide +kernel
theorem dX7_insurer_124 : decode cX7_insurer 124 = .ok (.iload_n 1, 1) := by decide +kernel
theorem dX7_insurer_125 : decode cX7_insurer 125 = .ok (.invokevirtual 244, 3) := by decide +kernel
theorem dX7_insurer_128 : decode cX7_insurer 128 = .ok (.ireturn, 1) := by decide +kernel
theorem dX7_insurer_129 : decode cX7_insurer 129 = .ok (.aload_n 0, 1) := by decide +kernel
theorem dX7_insurer_130 : decode cX7_insurer 130 = .ok (.getfield 10, 3) := by decide +kernel
theorem dX7_insurer_133 : decode cX7_insurer 133 = .ok (.getfield 62, 3) := by decide +kernel
theorem dX7_insurer_136 : decode cX7_insurer 136 = .ok (.getfield 247, 3) := by decide +kernel
theorem dX7_insurer_139 : decode cX7_insurer 139 = .ok (.iload_n 1, 1) := by decide +kernel
theorem dX7_insurer_140 : decode cX7_insurer 140 = .ok (.iaload, 1) := by decide +kernel
theorem dX7_insurer_141 : decode cX7_insurer 141 = .ok (.ireturn, 1) := by decide +kernel
theorem dX7_owed_0 : decode cX7_owed 0 = .ok (.iload_n 1, 1) := by decide +kernel
theorem dX7_owed_1 : decode cX7_owed 1 = .ok (.iconst 0, 1) := by decide +kernel
theorem dX7_owed_2 : decode cX7_owed 2 = .ok (.bipush 63, 2) := by decide +kernel
theorem dX7_owed_4 : decode cX7_owed 4 = .ok (.invokestatic 33, 3) := by decide +kernel
theorem dX7_owed_7 : decode cX7_owed 7 = .ok (.invokestatic 37, 3) := by decide +kernel
theorem dX7_owed_10 : decode cX7_owed 10 = .ok (.iload_n 2, 1) := by decide +kernel
theorem dX7_owed_11 : decode cX7_owed 11 = .ok (.iconst 0, 1) := by decide +kernel
theorem dX7_owed_12 : decode cX7_owed 12 = .ok (.iconst 1, 1) := by decide +kernel
theorem dX7_owed_13 : decode cX7_owed 13 = .ok (.invokestatic 33, 3) := by decide +kernel
theorem dX7_owed_16 : decode cX7_owed 16 = .ok (.invokestatic 37, 3) := by decide +kernel
theorem dX7_owed_19 : decode cX7_owed 19 = .ok (.iload_n 1, 1) := by decide +kernel
theorem dX7_owed_20 : decode cX7_owed 20 = .ok (.aload_n 0, 1) := by decide +kernel
theorem dX7_owed_21 : decode cX7_owed 21 = .ok (.getfield 10, 3) := by decide +kernel
theorem dX7_owed_24 : decode cX7_owed 24 = .ok (.getfield 157, 3) := by decide +kernel
theorem dX7_owed_27 : decode cX7_owed 27 = .ok (.getfield 161, 3) := by decide +kernel
theorem dX7_owed_30 : decode cX7_owed 30 = .ok (.if_icmp .lt 5, 3) := by decide +kernel
theorem dX7_owed_33 : decode cX7_owed 33 = .ok (.iconst (-1), 1) := by decide +kernel
theorem dX7_owed_34 : decode cX7_owed 34 = .ok (.ireturn, 1) := by decide +kernel
theorem dX7_owed_35 : decode cX7_owed 35 = .ok (.aload_n 0, 1) := by decide +kernel
theorem dX7_owed_36 : decode cX7_owed 36 = .ok (.getfield 10, 3) := by decide +kernel
theorem dX7_owed_39 : decode cX7_owed 39 = .ok (.getfield 157, 3) := by decide +kernel
theorem dX7_owed_42 : decode cX7_owed 42 = .ok (.getfield 250, 3) := by decide +kernel
theorem dX7_owed_45 : decode cX7_owed 45 = .ok (.iload_n 1, 1) := by decide +kernel
theorem dX7_owed_46 : decode cX7_owed 46 = .ok (.iaload, 1) := by decide +kernel
theorem dX7_owed_47 : decode cX7_owed 47 = .ok (.istore_n 3, 1) := by decide +kernel
theorem dX7_owed_48 : decode cX7_owed 48 = .ok (.iload_n 2, 1) := by decide +kernel
theorem dX7_owed_49 : decode cX7_owed 49 = .ok (.ifCond .ne 7, 3) := by decide +kernel
theorem dX7_owed_52 : decode cX7_owed 52 = .ok (.iload_n 3, 1) := by decide +kernel
theorem dX7_owed_53 : decode cX7_owed 53 = .ok (.goto 14, 3) := by decide +kernel
theorem dX7_owed_56 : decode cX7_owed 56 = .ok (.aload_n 0, 1) := by decide +kernel
theorem dX7_owed_57 : decode cX7_owed 57 = .ok (.getfield 10, 3) := by decide +kernel
theorem dX7_owed_60 : decode cX7_owed 60 = .ok (.getfield 157, 3) := by decide +kernel
theorem dX7_owed_63 : decode cX7_owed 63 = .ok (.iload_n 3, 1) := by decide +kernel
theorem dX7_owed_64 : decode cX7_owed 64 = .ok (.invokevirtual 253, 3) := by decide +kernel
theorem dX7_owed_67 : decode cX7_owed 67 = .ok (.ireturn, 1) := by decide +kernel
theorem dX7_weakest_0 : decode cX7_weakest 0 = .ok (.iload_n 1, 1) := by decide +kernel
theorem dX7_weakest_1 : decode cX7_weakest 1 = .ok (.iconst 0, 1) := by decide +kernel
theorem dX7_weakest_2 : decode cX7_weakest 2 = .ok (.bipush 63, 2) := by decide +kernel
theorem dX7_weakest_4 : decode cX7_weakest 4 = .ok (.invokestatic 33, 3) := by decide +kernel
theorem dX7_weakest_7 : decode cX7_weakest 7 = .ok (.invokestatic 37, 3) := by decide +kernel
theorem dX7_weakest_10 : decode cX7_weakest 10 = .ok (.iconst (-1), 1) := by decide +kernel
theorem dX7_weakest_11 : decode cX7_weakest 11 = .ok (.istore_n 2, 1) := by decide +kernel
theorem dX7_weakest_12 : decode cX7_weakest 12 = .ok (.iconst 0, 1) := by decide +kernel
theorem dX7_weakest_13 : decode cX7_weakest 13 = .ok (.istore_n 3, 1) := by decide +kernel
theorem dX7_weakest_14 : decode cX7_weakest 14 = .ok (.iload_n 3, 1) := by decide +kernel
theorem dX7_weakest_15 : decode cX7_weakest 15 = .ok (.iload_n 1, 1) := by decide +kernel
theorem dX7_weakest_16 : decode cX7_weakest 16 = .ok (.if_icmp .gt 21, 3) := by decide +kernel
theorem dX7_weakest_19 : decode cX7_weakest 19 = .ok (.aload_n 0, 1) := by decide +kernel
theorem dX7_weakest_20 : decode cX7_weakest 20 = .ok (.getfield 10, 3) := by decide +kernel
theorem dX7_weakest_23 : decode cX7_weakest 23 = .ok (.getfield 89, 3) := by decide +kernel
theorem dX7_weakest_26 : decode cX7_weakest 26 = .ok (.iload_n 2, 1) := by decide +kernel
theorem dX7_weakest_27 : decode cX7_weakest 27 = .ok (.invokevirtual 256, 3) := by decide +kernel
theorem dX7_weakest_30 : decode cX7_weakest 30 = .ok (.istore_n 2, 1) := by decide +kernel
theorem dX7_weakest_31 : decode cX7_weakest 31 = .ok (.iinc 3 1, 3) := by decide +kernel
theorem dX7_weakest_34 : decode cX7_weakest 34 = .ok (.goto (-20), 3) := by decide +kernel
theorem dX7_weakest_37 : decode cX7_weakest 37 = .ok (.iload_n 2, 1) := by decide +kernel
theorem dX7_weakest_38 : decode cX7_weakest 38 = .ok (.ireturn, 1) := by decide +kernel
theorem dX7_count_0 : decode cX7_count 0 = .ok (.iload_n 1, 1) := by decide +kernel
theorem dX7_count_1 : decode cX7_count 1 = .ok (.iconst 0, 1) := by decide +kernel
theorem dX7_count_2 : decode cX7_count 2 = .ok (.bipush 18, 2) := by decide +kernel
theorem dX7_count_4 : decode cX7_count 4 = .ok (.invokestatic 33, 3) := by decide +kernel
theorem dX7_count_7 : decode cX7_count 7 = .ok (.invokestatic 37, 3) := by decide +kernel
theorem dX7_count_10 : decode cX7_count 10 = .ok (.iload_n 1, 1) := by decide +kernel
theorem dX7_count_11 : decode cX7_count 11 = .ok (.tableswitch 190 0 18 #[89, 97, 105, 116, 127, 138, 149, 160, 190, 190, 190, 190, 190, 190, 190, 190, 174, 190, 182], 89) := by decide +kernel
theorem dX7_count_100 : decode cX7_count 100 = .ok (.aload_n 0, 1) := by decide +kernel
theorem dX7_count_101 : decode cX7_count 101 = .ok (.getfield 10, 3) := by decide +kernel
theorem dX7_count_104 : decode cX7_count 104 = .ok (.getfield 168, 3) := by decide +kernel
theorem dX7_count_107 : decode cX7_count 107 = .ok (.ireturn, 1) := by decide +kernel
theorem dX7_count_108 : decode cX7_count 108 = .ok (.aload_n 0, 1) := by decide +kernel
theorem dX7_count_109 : decode cX7_count 109 = .ok (.getfield 10, 3) := by decide +kernel
theorem dX7_count_112 : decode cX7_count 112 = .ok (.getfield 124, 3) := by decide +kernel
theorem dX7_count_115 : decode cX7_count 115 = .ok (.ireturn, 1) := by decide +kernel
theorem dX7_count_116 : decode cX7_count 116 = .ok (.aload_n 0, 1) := by decide +kernel
theorem dX7_count_117 : decode cX7_count 117 = .ok (.getfield 10, 3) := by decide +kernel
theorem dX7_count_120 : decode cX7_count 120 = .ok (.getfield 41, 3) := by decide +kernel
theorem dX7_count_123 : decode cX7_count 123 = .ok (.getfield 45, 3) := by decide +kernel
theorem dX7_count_126 : decode cX7_count 126 = .ok (.ireturn, 1) := by decide +kernel
theorem dX7_count_127 : decode cX7_count 127 = .ok (.aload_n 0, 1) := by decide +kernel
theorem dX7_count_128 : decode cX7_count 128 = .ok (.getfield 10, 3) := by decide +kernel
theorem dX7_count_131 : decode cX7_count 131 = .ok (.getfield 62, 3) := by decide +kernel
theorem dX7_count_134 : decode cX7_count 134 = .ok (.getfield 66, 3) := by decide +kernel
theorem dX7_count_137 : decode cX7_count 137 = .ok (.ireturn, 1) := by decide +kernel
theorem dX7_count_138 : decode cX7_count 138 = .ok (.aload_n 0, 1) := by decide +kernel
theorem dX7_count_139 : decode cX7_count 139 = .ok (.getfield 10, 3) := by decide +kernel
theorem dX7_count_142 : decode cX7_count 142 = .ok (.getfield 89, 3) := by decide +kernel
theorem dX7_count_145 : decode cX7_count 145 = .ok (.invokevirtual 259, 3) := by decide +kernel
theorem dX7_count_148 : decode cX7_count 148 = .ok (.ireturn, 1) := by decide +kernel
theorem dX7_count_149 : decode cX7_count 149 = .ok (.aload_n 0, 1) := by decide +kernel
theorem dX7_count_150 : decode cX7_count 150 = .ok (.getfield 10, 3) := by decide +kernel
theorem dX7_count_153 : decode cX7_count 153 = .ok (.getfield 89, 3) := by decide +kernel
theorem dX7_count_156 : decode cX7_count 156 = .ok (.invokevirtual 262, 3) := by decide +kernel
theorem dX7_count_159 : decode cX7_count 159 = .ok (.ireturn, 1) := by decide +kernel
theorem dX7_count_160 : decode cX7_count 160 = .ok (.aload_n 0, 1) := by decide +kernel
theorem dX7_count_161 : decode cX7_count 161 = .ok (.getfield 10, 3) := by decide +kernel
theorem dX7_count_164 : decode cX7_count 164 = .ok (.getfield 157, 3) := by decide +kernel
theorem dX7_count_167 : decode cX7_count 167 = .ok (.getfield 161, 3) := by decide +kernel
theorem dX7_count_170 : decode cX7_count 170 = .ok (.ireturn, 1) := by decide +kernel
theorem dX7_count_171 : decode cX7_count 171 = .ok (.aload_n 0, 1) := by decide +kernel
theorem dX7_count_172 : decode cX7_count 172 = .ok (.getfield 10, 3) := by decide +kernel
theorem dX7_count_175 : decode cX7_count 175 = .ok (.getfield 89, 3) := by decide +kernel
theorem dX7_count_178 : decode cX7_count 178 = .ok (.getfield 265, 3) := by decide +kernel
theorem dX7_count_181 : decode cX7_count 181 = .ok (.invokestatic 269, 3) := by decide +kernel
theorem dX7_count_184 : decode cX7_count 184 = .ok (.ireturn, 1) := by decide +kernel
theorem dX7_count_185 : decode cX7_count 185 = .ok (.aload_n 0, 1) := by decide +kernel
theorem dX7_count_186 : decode cX7_count 186 = .ok (.getfield 10, 3) := by decide +kernel
theorem dX7_count_189 : decode cX7_count 189 = .ok (.getfield 135, 3) := by decide +kernel
theorem dX7_count_192 : decode cX7_count 192 = .ok (.ireturn, 1) := by decide +kernel
theorem dX7_count_193 : decode cX7_count 193 = .ok (.aload_n 0, 1) := by decide +kernel
theorem dX7_count_194 : decode cX7_count 194 = .ok (.getfield 22, 3) := by decide +kernel
theorem dX7_count_197 : decode cX7_count 197 = .ok (.getfield 197, 3) := by decide +kernel
theorem dX7_count_200 : decode cX7_count 200 = .ok (.ireturn, 1) := by decide +kernel
theorem dX7_count_201 : decode cX7_count 201 = .ok (.aload_n 0, 1) := by decide +kernel
theorem dX7_count_202 : decode cX7_count 202 = .ok (.getfield 10, 3) := by decide +kernel
theorem dX7_count_205 : decode cX7_count 205 = .ok (.getfield 275, 3) := by decide +kernel
theorem dX7_count_208 : decode cX7_count 208 = .ok (.iload_n 1, 1) := by decide +kernel
theorem dX7_count_209 : decode cX7_count 209 = .ok (.iaload, 1) := by decide +kernel
theorem dX7_count_210 : decode cX7_count 210 = .ok (.ireturn, 1) := by decide +kernel
theorem dX7_setting_0 : decode cX7_setting 0 = .ok (.iload_n 1, 1) := by decide +kernel
theorem dX7_setting_1 : decode cX7_setting 1 = .ok (.invokestatic 72, 3) := by decide +kernel
theorem dX7_setting_4 : decode cX7_setting 4 = .ok (.aload_n 0, 1) := by decide +kernel
theorem dX7_setting_5 : decode cX7_setting 5 = .ok (.getfield 10, 3) := by decide +kernel
theorem dX7_setting_8 : decode cX7_setting 8 = .ok (.getfield 80, 3) := by decide +kernel
theorem dX7_setting_11 : decode cX7_setting 11 = .ok (.iload_n 1, 1) := by decide +kernel
theorem dX7_setting_12 : decode cX7_setting 12 = .ok (.iaload, 1) := by decide +kernel
theorem dX7_setting_13 : decode cX7_setting 13 = .ok (.ireturn, 1) := by decide +kernel
theorem dX7_premium_0 : decode cX7_premium 0 = .ok (.iload_n 1, 1) := by decide +kernel
theorem dX7_premium_1 : decode cX7_premium 1 = .ok (.invokestatic 83, 3) := by decide +kernel
theorem dX7_premium_4 : decode cX7_premium 4 = .ok (.aload_n 0, 1) := by decide +kernel
theorem dX7_premium_5 : decode cX7_premium 5 = .ok (.iload_n 2, 1) := by decide +kernel
theorem dX7_premium_6 : decode cX7_premium 6 = .ok (.invokevirtual 109, 3) := by decide +kernel
theorem dX7_premium_9 : decode cX7_premium 9 = .ok (.iload_n 3, 1) := by decide +kernel
theorem dX7_premium_10 : decode cX7_premium 10 = .ok (.iconst 1, 1) := by decide +kernel
theorem dX7_premium_11 : decode cX7_premium 11 = .ok (.sipush 200, 3) := by decide +kernel
theorem dX7_premium_14 : decode cX7_premium 14 = .ok (.invokestatic 33, 3) := by decide +kernel
theorem dX7_premium_17 : decode cX7_premium 17 = .ok (.invokestatic 37, 3) := by decide +kernel
theorem dX7_premium_20 : decode cX7_premium 20 = .ok (.aload_n 0, 1) := by decide +kernel
theorem dX7_premium_21 : decode cX7_premium 21 = .ok (.getfield 10, 3) := by decide +kernel
theorem dX7_premium_24 : decode cX7_premium 24 = .ok (.iload_n 1, 1) := by decide +kernel
theorem dX7_premium_25 : decode cX7_premium 25 = .ok (.iload_n 2, 1) := by decide +kernel
theorem dX7_premium_26 : decode cX7_premium 26 = .ok (.iload_n 3, 1) := by decide +kernel
theorem dX7_premium_27 : decode cX7_premium 27 = .ok (.aload_n 0, 1) := by decide +kernel
theorem dX7_premium_28 : decode cX7_premium 28 = .ok (.getfield 10, 3) := by decide +kernel
theorem dX7_premium_31 : decode cX7_premium 31 = .ok (.getfield 124, 3) := by decide +kernel
theorem dX7_premium_34 : decode cX7_premium 34 = .ok (.invokevirtual 127, 3) := by decide +kernel
theorem dX7_premium_37 : decode cX7_premium 37 = .ok (.ireturn, 1) := by decide +kernel
theorem dX7_cheapest_0 : decode cX7_cheapest 0 = .ok (.iload_n 1, 1) := by decide +kernel
theorem dX7_cheapest_1 : decode cX7_cheapest 1 = .ok (.invokestatic 83, 3) := by decide +kernel
theorem dX7_cheapest_4 : decode cX7_cheapest 4 = .ok (.iload_n 2, 1) := by decide +kernel
theorem dX7_cheapest_5 : decode cX7_cheapest 5 = .ok (.iconst 1, 1) := by decide +kernel
theorem dX7_cheapest_6 : decode cX7_cheapest 6 = .ok (.sipush 500, 3) := by decide +kernel
theorem dX7_cheapest_9 : decode cX7_cheapest 9 = .ok (.invokestatic 33, 3) := by decide +kernel
theorem dX7_cheapest_12 : decode cX7_cheapest 12 = .ok (.invokestatic 37, 3) := by decide +kernel
theorem dX7_cheapest_15 : decode cX7_cheapest 15 = .ok (.iload_n 3, 1) := by decide +kernel
theorem dX7_cheapest_16 : decode cX7_cheapest 16 = .ok (.iconst 1, 1) := by decide +kernel
theorem dX7_cheapest_17 : decode cX7_cheapest 17 = .ok (.sipush 200, 3) := by decide +kernel
theorem dX7_cheapest_20 : decode cX7_cheapest 20 = .ok (.invokestatic 33, 3) := by decide +kernel
theorem dX7_cheapest_23 : decode cX7_cheapest 23 = .ok (.invokestatic 37, 3) := by decide +kernel
theorem dX7_cheapest_26 : decode cX7_cheapest 26 = .ok (.iconst (-1), 1) := by decide +kernel
theorem dX7_cheapest_27 : decode cX7_cheapest 27 = .ok (.istore 4, 2) := by decide +kernel
theorem dX7_cheapest_29 : decode cX7_cheapest 29 = .ok (.iconst 0, 1) := by decide +kernel
theorem dX7_cheapest_30 : decode cX7_cheapest 30 = .ok (.istore 5, 2) := by decide +kernel
theorem dX7_cheapest_32 : decode cX7_cheapest 32 = .ok (.iconst 0, 1) := by decide +kernel
theorem dX7_cheapest_33 : decode cX7_cheapest 33 = .ok (.istore 6, 2) := by decide +kernel
theorem dX7_cheapest_35 : decode cX7_cheapest 35 = .ok (.iload 6, 2) := by decide +kernel
theorem dX7_cheapest_37 : decode cX7_cheapest 37 = .ok (.aload_n 0, 1) := by decide +kernel
theorem dX7_cheapest_38 : decode cX7_cheapest 38 = .ok (.getfield 10, 3) := by decide +kernel
theorem dX7_cheapest_41 : decode cX7_cheapest 41 = .ok (.getfield 62, 3) := by decide +kernel
theorem dX7_cheapest_44 : decode cX7_cheapest 44 = .ok (.getfield 66, 3) := by decide +kernel
theorem dX7_cheapest_47 : decode cX7_cheapest 47 = .ok (.if_icmp .ge 67, 3) := by decide +kernel
theorem dX7_cheapest_50 : decode cX7_cheapest 50 = .ok (.aload_n 0, 1) := by decide +kernel
theorem dX7_cheapest_51 : decode cX7_cheapest 51 = .ok (.getfield 10, 3) := by decide +kernel
theorem dX7_cheapest_54 : decode cX7_cheapest 54 = .ok (.iload_n 1, 1) := by decide +kernel
theorem dX7_cheapest_55 : decode cX7_cheapest 55 = .ok (.iload 6, 2) := by decide +kernel
theorem dX7_cheapest_57 : decode cX7_cheapest 57 = .ok (.iload_n 3, 1) := by decide +kernel
theorem dX7_cheapest_58 : decode cX7_cheapest 58 = .ok (.aload_n 0, 1) := by decide +kernel
theorem dX7_cheapest_59 : decode cX7_cheapest 59 = .ok (.getfield 10, 3) := by decide +kernel
theorem dX7_cheapest_62 : decode cX7_cheapest 62 = .ok (.getfield 124, 3) := by decide +kernel
theorem dX7_cheapest_65 : decode cX7_cheapest 65 = .ok (.invokevirtual 127, 3) := by decide +kernel
theorem dX7_cheapest_68 : decode cX7_cheapest 68 = .ok (.istore 7, 2) := by decide +kernel
theorem dX7_cheapest_70 : decode cX7_cheapest 70 = .ok (.aload_n 0, 1) := by decide +kernel
theorem dX7_cheapest_71 : decode cX7_cheapest 71 = .ok (.getfield 10, 3) := by decide +kernel
theorem dX7_cheapest_74 : decode cX7_cheapest 74 = .ok (.getfield 62, 3) := by decide +kernel
theorem dX7_cheapest_77 : decode cX7_cheapest 77 = .ok (.getfield 235, 3) := by decide +kernel
theorem dX7_cheapest_80 : decode cX7_cheapest 80 = .ok (.iload 6, 2) := by decide +kernel
theorem dX7_cheapest_82 : decode cX7_cheapest 82 = .ok (.iaload, 1) := by decide +kernel
theorem dX7_cheapest_83 : decode cX7_cheapest 83 = .ok (.iload_n 2, 1) := by decide +kernel
theorem dX7_cheapest_84 : decode cX7_cheapest 84 = .ok (.if_icmp .lt 24, 3) := by decide +kernel
theorem dX7_cheapest_87 : decode cX7_cheapest 87 = .ok (.iload 4, 2) := by decide +kernel
theorem dX7_cheapest_89 : decode cX7_cheapest 89 = .ok (.iconst (-1), 1) := by decide +kernel
theorem dX7_cheapest_90 : decode cX7_cheapest 90 = .ok (.if_icmp .eq 10, 3) := by decide +kernel
theorem dX7_cheapest_93 : decode cX7_cheapest 93 = .ok (.iload 7, 2) := by decide +kernel
theorem dX7_cheapest_95 : decode cX7_cheapest 95 = .ok (.iload 5, 2) := by decide +kernel
theorem dX7_cheapest_97 : decode cX7_cheapest 97 = .ok (.if_icmp .ge 11, 3) := by decide +kernel
theorem dX7_cheapest_100 : decode cX7_cheapest 100 = .ok (.iload 6, 2) := by decide +kernel
theorem dX7_cheapest_102 : decode cX7_cheapest 102 = .ok (.istore 4, 2) := by decide +kernel
theorem dX7_cheapest_104 : decode cX7_cheapest 104 = .ok (.iload 7, 2) := by decide +kernel
theorem dX7_cheapest_106 : decode cX7_cheapest 106 = .ok (.istore 5, 2) := by decide +kernel
theorem dX7_cheapest_108 : decode cX7_cheapest 108 = .ok (.iinc 6 1, 3) := by decide +kernel
theorem dX7_cheapest_111 : decode cX7_cheapest 111 = .ok (.goto (-76), 3) := by decide +kernel
theorem dX7_cheapest_114 : decode cX7_cheapest 114 = .ok (.iload 4, 2) := by decide +kernel
theorem dX7_cheapest_116 : decode cX7_cheapest 116 = .ok (.ireturn, 1) := by decide +kernel
theorem dX7_waitFor_0 : decode cX7_waitFor 0 = .ok (.iload_n 1, 1) := by decide +kernel
theorem dX7_waitFor_1 : decode cX7_waitFor 1 = .ok (.invokestatic 83, 3) := by decide +kernel
theorem dX7_waitFor_4 : decode cX7_waitFor 4 = .ok (.aload_n 0, 1) := by decide +kernel
theorem dX7_waitFor_5 : decode cX7_waitFor 5 = .ok (.iload_n 2, 1) := by decide +kernel
theorem dX7_waitFor_6 : decode cX7_waitFor 6 = .ok (.invokevirtual 109, 3) := by decide +kernel
theorem dX7_waitFor_9 : decode cX7_waitFor 9 = .ok (.iload_n 3, 1) := by decide +kernel
theorem dX7_waitFor_10 : decode cX7_waitFor 10 = .ok (.iconst 1, 1) := by decide +kernel
theorem dX7_waitFor_11 : decode cX7_waitFor 11 = .ok (.sipush 200, 3) := by decide +kernel
theorem dX7_waitFor_14 : decode cX7_waitFor 14 = .ok (.invokestatic 33, 3) := by decide +kernel
theorem dX7_waitFor_17 : decode cX7_waitFor 17 = .ok (.invokestatic 37, 3) := by decide +kernel
theorem dX7_waitFor_20 : decode cX7_waitFor 20 = .ok (.iload 4, 2) := by decide +kernel
theorem dX7_waitFor_22 : decode cX7_waitFor 22 = .ok (.iconst 1, 1) := by decide +kernel
theorem dX7_waitFor_23 : decode cX7_waitFor 23 = .ok (.sipush 10000, 3) := by decide +kernel
theorem dX7_waitFor_26 : decode cX7_waitFor 26 = .ok (.invokestatic 33, 3) := by decide +kernel
theorem dX7_waitFor_29 : decode cX7_waitFor 29 = .ok (.invokestatic 37, 3) := by decide +kernel
theorem dX7_waitFor_32 : decode cX7_waitFor 32 = .ok (.iconst 0, 1) := by decide +kernel
theorem dX7_waitFor_33 : decode cX7_waitFor 33 = .ok (.istore 5, 2) := by decide +kernel
theorem dX7_waitFor_35 : decode cX7_waitFor 35 = .ok (.iload 5, 2) := by decide +kernel
theorem dX7_waitFor_37 : decode cX7_waitFor 37 = .ok (.sipush 200, 3) := by decide +kernel
theorem dX7_waitFor_40 : decode cX7_waitFor 40 = .ok (.if_icmp .gt 56, 3) := by decide +kernel
theorem dX7_waitFor_43 : decode cX7_waitFor 43 = .ok (.iconst 0, 1) := by decide +kernel
theorem dX7_waitFor_44 : decode cX7_waitFor 44 = .ok (.aload_n 0, 1) := by decide +kernel
theorem dX7_waitFor_45 : decode cX7_waitFor 45 = .ok (.getfield 10, 3) := by decide +kernel
theorem dX7_waitFor_48 : decode cX7_waitFor 48 = .ok (.getfield 124, 3) := by decide +kernel
theorem dX7_waitFor_51 : decode cX7_waitFor 51 = .ok (.iload 5, 2) := by decide +kernel
theorem dX7_waitFor_53 : decode cX7_waitFor 53 = .ok (.aload_n 0, 1) := by decide +kernel
theorem dX7_waitFor_54 : decode cX7_waitFor 54 = .ok (.getfield 10, 3) := by decide +kernel
theorem dX7_waitFor_57 : decode cX7_waitFor 57 = .ok (.getfield 80, 3) := by decide +kernel
theorem dX7_waitFor_60 : decode cX7_waitFor 60 = .ok (.bipush 6, 2) := by decide +kernel
theorem dX7_waitFor_62 : decode cX7_waitFor 62 = .ok (.iaload, 1) := by decide +kernel
theorem dX7_waitFor_63 : decode cX7_waitFor 63 = .ok (.imul, 1) := by decide +kernel
theorem dX7_waitFor_64 : decode cX7_waitFor 64 = .ok (.isub, 1) := by decide +kernel
theorem dX7_waitFor_65 : decode cX7_waitFor 65 = .ok (.invokestatic 278, 3) := by decide +kernel
theorem dX7_waitFor_68 : decode cX7_waitFor 68 = .ok (.istore 6, 2) := by decide +kernel
theorem dX7_waitFor_70 : decode cX7_waitFor 70 = .ok (.aload_n 0, 1) := by decide +kernel
theorem dX7_waitFor_71 : decode cX7_waitFor 71 = .ok (.getfield 10, 3) := by decide +kernel
theorem dX7_waitFor_74 : decode cX7_waitFor 74 = .ok (.iload_n 1, 1) := by decide +kernel
theorem dX7_waitFor_75 : decode cX7_waitFor 75 = .ok (.iload_n 2, 1) := by decide +kernel
theorem dX7_waitFor_76 : decode cX7_waitFor 76 = .ok (.iload_n 3, 1) := by decide +kernel
theorem dX7_waitFor_77 : decode cX7_waitFor 77 = .ok (.iload 6, 2) := by decide +kernel
theorem dX7_waitFor_79 : decode cX7_waitFor 79 = .ok (.invokevirtual 127, 3) := by decide +kernel
theorem dX7_waitFor_82 : decode cX7_waitFor 82 = .ok (.iload 4, 2) := by decide +kernel
theorem dX7_waitFor_84 : decode cX7_waitFor 84 = .ok (.if_icmp .gt 6, 3) := by decide +kernel
theorem dX7_waitFor_87 : decode cX7_waitFor 87 = .ok (.iload 5, 2) := by decide +kernel
theorem dX7_waitFor_89 : decode cX7_waitFor 89 = .ok (.ireturn, 1) := by decide +kernel
theorem dX7_waitFor_90 : decode cX7_waitFor 90 = .ok (.iinc 5 1, 3) := by decide +kernel
theorem dX7_waitFor_93 : decode cX7_waitFor 93 = .ok (.goto (-58), 3) := by decide +kernel
theorem dX7_waitFor_96 : decode cX7_waitFor 96 = .ok (.iconst (-1), 1) := by decide +kernel
theorem dX7_waitFor_97 : decode cX7_waitFor 97 = .ok (.ireturn, 1) := by decide +kernel
theorem dX7_ifRead_0 : decode cX7_ifRead 0 = .ok (.iload_n 1, 1) := by decide +kernel
theorem dX7_ifRead_1 : decode cX7_ifRead 1 = .ok (.invokestatic 83, 3) := by decide +kernel
theorem dX7_ifRead_4 : decode cX7_ifRead 4 = .ok (.iload_n 2, 1) := by decide +kernel
theorem dX7_ifRead_5 : decode cX7_ifRead 5 = .ok (.iconst 0, 1) := by decide +kernel
theorem dX7_ifRead_6 : decode cX7_ifRead 6 = .ok (.iconst 4, 1) := by decide +kernel
theorem dX7_ifRead_7 : decode cX7_ifRead 7 = .ok (.invokestatic 33, 3) := by decide +kernel
theorem dX7_ifRead_10 : decode cX7_ifRead 10 = .ok (.invokestatic 37, 3) := by decide +kernel
theorem dX7_ifRead_13 : decode cX7_ifRead 13 = .ok (.iload_n 2, 1) := by decide +kernel
theorem dX7_ifRead_14 : decode cX7_ifRead 14 = .ok (.tableswitch 84 0 3 #[30, 42, 58, 75], 30) := by decide +kernel
theorem dX7_ifRead_44 : decode cX7_ifRead 44 = .ok (.aload_n 0, 1) := by decide +kernel
theorem dX7_ifRead_45 : decode cX7_ifRead 45 = .ok (.getfield 10, 3) := by decide +kernel
theorem dX7_ifRead_48 : decode cX7_ifRead 48 = .ok (.getfield 89, 3) := by decide +kernel
theorem dX7_ifRead_51 : decode cX7_ifRead 51 = .ok (.iload_n 1, 1) := by decide +kernel
theorem dX7_ifRead_52 : decode cX7_ifRead 52 = .ok (.invokevirtual 148, 3) := by decide +kernel
theorem dX7_ifRead_55 : decode cX7_ifRead 55 = .ok (.ireturn, 1) := by decide +kernel
theorem dX7_ifRead_56 : decode cX7_ifRead 56 = .ok (.aload_n 0, 1) := by decide +kernel
theorem dX7_ifRead_57 : decode cX7_ifRead 57 = .ok (.getfield 10, 3) := by decide +kernel
theorem dX7_ifRead_60 : decode cX7_ifRead 60 = .ok (.invokevirtual 284, 3) := by decide +kernel
theorem dX7_ifRead_63 : decode cX7_ifRead 63 = .ok (.iload_n 1, 1) := by decide +kernel
theorem dX7_ifRead_64 : decode cX7_ifRead 64 = .ok (.invokestatic 288, 3) := by decide +kernel
theorem dX7_ifRead_67 : decode cX7_ifRead 67 = .ok (.land, 1) := by decide +kernel
theorem dX7_ifRead_68 : decode cX7_ifRead 68 = .ok (.invokestatic 269, 3) := by decide +kernel
theorem dX7_ifRead_71 : decode cX7_ifRead 71 = .ok (.ireturn, 1) := by decide +kernel
theorem dX7_ifRead_72 : decode cX7_ifRead 72 = .ok (.aload_n 0, 1) := by decide +kernel
theorem dX7_ifRead_73 : decode cX7_ifRead 73 = .ok (.getfield 10, 3) := by decide +kernel
theorem dX7_ifRead_76 : decode cX7_ifRead 76 = .ok (.aload_n 0, 1) := by decide +kernel
theorem dX7_ifRead_77 : decode cX7_ifRead 77 = .ok (.getfield 10, 3) := by decide +kernel
theorem dX7_ifRead_80 : decode cX7_ifRead 80 = .ok (.getfield 80, 3) := by decide +kernel
theorem dX7_ifRead_83 : decode cX7_ifRead 83 = .ok (.iconst 2, 1) := by decide +kernel
theorem dX7_ifRead_84 : decode cX7_ifRead 84 = .ok (.iaload, 1) := by decide +kernel
theorem dX7_ifRead_85 : decode cX7_ifRead 85 = .ok (.invokevirtual 292, 3) := by decide +kernel
theorem dX7_ifRead_88 : decode cX7_ifRead 88 = .ok (.ireturn, 1) := by decide +kernel
theorem dX7_ifRead_89 : decode cX7_ifRead 89 = .ok (.aload_n 0, 1) := by decide +kernel
theorem dX7_ifRead_90 : decode cX7_ifRead 90 = .ok (.getfield 10, 3) := by decide +kernel
theorem dX7_ifRead_93 : decode cX7_ifRead 93 = .ok (.iload_n 1, 1) := by decide +kernel
theorem dX7_ifRead_94 : decode cX7_ifRead 94 = .ok (.invokevirtual 295, 3) := by decide +kernel
theorem dX7_ifRead_97 : decode cX7_ifRead 97 = .ok (.ireturn, 1) := by decide +kernel
theorem dX7_ifRead_98 : decode cX7_ifRead 98 = .ok (.aload_n 0, 1) := by decide +kernel
theorem dX7_ifRead_99 : decode cX7_ifRead 99 = .ok (.getfield 10, 3) := by decide +kernel
theorem dX7_ifRead_102 : decode cX7_ifRead 102 = .ok (.invokevirtual 284, 3) := by decide +kernel
theorem dX7_ifRead_105 : decode cX7_ifRead 105 = .ok (.iload_n 1, 1) := by decide +kernel
theorem dX7_ifRead_106 : decode cX7_ifRead 106 = .ok (.invokestatic 288, 3) := by decide +kernel
theorem dX7_ifRead_109 : decode cX7_ifRead 109 = .ok (.land, 1) := by decide +kernel
theorem dX7_ifRead_110 : decode cX7_ifRead 110 = .ok (.aload_n 0, 1) := by decide +kernel
theorem dX7_ifRead_111 : decode cX7_ifRead 111 = .ok (.getfield 10, 3) := by decide +kernel
theorem dX7_ifRead_114 : decode cX7_ifRead 114 = .ok (.getfield 89, 3) := by decide +kernel
theorem dX7_ifRead_117 : decode cX7_ifRead 117 = .ok (.invokevirtual 298, 3) := by decide +kernel
theorem dX7_ifRead_120 : decode cX7_ifRead 120 = .ok (.land, 1) := by decide +kernel
theorem dX7_ifRead_121 : decode cX7_ifRead 121 = .ok (.invokestatic 269, 3) := by decide +kernel
theorem dX7_ifRead_124 : decode cX7_ifRead 124 = .ok (.ireturn, 1) := by decide +kernel
theorem dX7_gentlest_0 : decode cX7_gentlest 0 = .ok (.aload_n 0, 1) := by decide +kernel
theorem dX7_gentlest_1 : decode cX7_gentlest 1 = .ok (.getfield 10, 3) := by decide +kernel
theorem dX7_gentlest_4 : decode cX7_gentlest 4 = .ok (.invokevirtual 284, 3) := by decide +kernel
theorem dX7_gentlest_7 : decode cX7_gentlest 7 = .ok (.lstore_n 1, 1) := by decide +kernel
theorem dX7_gentlest_8 : decode cX7_gentlest 8 = .ok (.iconst (-1), 1) := by decide +kernel
theorem dX7_gentlest_9 : decode cX7_gentlest 9 = .ok (.istore_n 3, 1) := by decide +kernel
theorem dX7_gentlest_10 : decode cX7_gentlest 10 = .ok (.bipush 64, 2) := by decide +kernel
theorem dX7_gentlest_12 : decode cX7_gentlest 12 = .ok (.istore 4, 2) := by decide +kernel
theorem dX7_gentlest_14 : decode cX7_gentlest 14 = .ok (.iconst 0, 1) := by decide +kernel
theorem dX7_gentlest_15 : decode cX7_gentlest 15 = .ok (.istore 5, 2) := by decide +kernel
theorem dX7_gentlest_17 : decode cX7_gentlest 17 = .ok (.iconst 0, 1) := by decide +kernel
theorem dX7_gentlest_18 : decode cX7_gentlest 18 = .ok (.istore 6, 2) := by decide +kernel
theorem dX7_gentlest_20 : decode cX7_gentlest 20 = .ok (.iload 6, 2) := by decide +kernel
theorem dX7_gentlest_22 : decode cX7_gentlest 22 = .ok (.bipush 64, 2) := by decide +kernel
theorem dX7_gentlest_24 : decode cX7_gentlest 24 = .ok (.if_icmp .ge 100, 3) := by decide +kernel
theorem dX7_gentlest_27 : decode cX7_gentlest 27 = .ok (.aload_n 0, 1) := by decide +kernel
theorem dX7_gentlest_28 : decode cX7_gentlest 28 = .ok (.getfield 10, 3) := by decide +kernel
theorem dX7_gentlest_31 : decode cX7_gentlest 31 = .ok (.getfield 89, 3) := by decide +kernel
theorem dX7_gentlest_34 : decode cX7_gentlest 34 = .ok (.iload 6, 2) := by decide +kernel
theorem dX7_gentlest_36 : decode cX7_gentlest 36 = .ok (.invokevirtual 301, 3) := by decide +kernel
theorem dX7_gentlest_39 : decode cX7_gentlest 39 = .ok (.ifCond .eq 79, 3) := by decide +kernel
theorem dX7_gentlest_42 : decode cX7_gentlest 42 = .ok (.aload_n 0, 1) := by decide +kernel
theorem dX7_gentlest_43 : decode cX7_gentlest 43 = .ok (.getfield 10, 3) := by decide +kernel
theorem dX7_gentlest_46 : decode cX7_gentlest 46 = .ok (.iload 6, 2) := by decide +kernel
theorem dX7_gentlest_48 : decode cX7_gentlest 48 = .ok (.invokevirtual 151, 3) := by decide +kernel
theorem dX7_gentlest_51 : decode cX7_gentlest 51 = .ok (.ifCond .eq 67, 3) := by decide +kernel
theorem dX7_gentlest_54 : decode cX7_gentlest 54 = .ok (.lload_n 1, 1) := by decide +kernel
theorem dX7_gentlest_55 : decode cX7_gentlest 55 = .ok (.iload 6, 2) := by decide +kernel
theorem dX7_gentlest_57 : decode cX7_gentlest 57 = .ok (.invokestatic 288, 3) := by decide +kernel
theorem dX7_gentlest_60 : decode cX7_gentlest 60 = .ok (.land, 1) := by decide +kernel
theorem dX7_gentlest_61 : decode cX7_gentlest 61 = .ok (.invokestatic 269, 3) := by decide +kernel
theorem dX7_gentlest_64 : decode cX7_gentlest 64 = .ok (.istore 7, 2) := by decide +kernel
theorem dX7_gentlest_66 : decode cX7_gentlest 66 = .ok (.aload_n 0, 1) := by decide +kernel
theorem dX7_gentlest_67 : decode cX7_gentlest 67 = .ok (.getfield 10, 3) := by decide +kernel
theorem dX7_gentlest_70 : decode cX7_gentlest 70 = .ok (.getfield 89, 3) := by decide +kernel
theorem dX7_gentlest_73 : decode cX7_gentlest 73 = .ok (.getfield 138, 3) := by decide +kernel
theorem dX7_gentlest_76 : decode cX7_gentlest 76 = .ok (.iload 6, 2) := by decide +kernel
theorem dX7_gentlest_78 : decode cX7_gentlest 78 = .ok (.iaload, 1) := by decide +kernel
theorem dX7_gentlest_79 : decode cX7_gentlest 79 = .ok (.istore 8, 2) := by decide +kernel
theorem dX7_gentlest_81 : decode cX7_gentlest 81 = .ok (.iload_n 3, 1) := by decide +kernel
theorem dX7_gentlest_82 : decode cX7_gentlest 82 = .ok (.iconst (-1), 1) := by decide +kernel
theorem dX7_gentlest_83 : decode cX7_gentlest 83 = .ok (.if_icmp .eq 24, 3) := by decide +kernel
theorem dX7_gentlest_86 : decode cX7_gentlest 86 = .ok (.iload 7, 2) := by decide +kernel
theorem dX7_gentlest_88 : decode cX7_gentlest 88 = .ok (.iload 4, 2) := by decide +kernel
theorem dX7_gentlest_90 : decode cX7_gentlest 90 = .ok (.if_icmp .lt 17, 3) := by decide +kernel
theorem dX7_gentlest_93 : decode cX7_gentlest 93 = .ok (.iload 7, 2) := by decide +kernel
theorem dX7_gentlest_95 : decode cX7_gentlest 95 = .ok (.iload 4, 2) := by decide +kernel
theorem dX7_gentlest_97 : decode cX7_gentlest 97 = .ok (.if_icmp .ne 21, 3) := by decide +kernel
theorem dX7_gentlest_100 : decode cX7_gentlest 100 = .ok (.iload 8, 2) := by decide +kernel
theorem dX7_gentlest_102 : decode cX7_gentlest 102 = .ok (.iload 5, 2) := by decide +kernel
theorem dX7_gentlest_104 : decode cX7_gentlest 104 = .ok (.if_icmp .le 14, 3) := by decide +kernel
theorem dX7_gentlest_107 : decode cX7_gentlest 107 = .ok (.iload 6, 2) := by decide +kernel
theorem dX7_gentlest_109 : decode cX7_gentlest 109 = .ok (.istore_n 3, 1) := by decide +kernel
theorem dX7_gentlest_110 : decode cX7_gentlest 110 = .ok (.iload 7, 2) := by decide +kernel
theorem dX7_gentlest_112 : decode cX7_gentlest 112 = .ok (.istore 4, 2) := by decide +kernel
theorem dX7_gentlest_114 : decode cX7_gentlest 114 = .ok (.iload 8, 2) := by decide +kernel
theorem dX7_gentlest_116 : decode cX7_gentlest 116 = .ok (.istore 5, 2) := by decide +kernel
theorem dX7_gentlest_118 : decode cX7_gentlest 118 = .ok (.iinc 6 1, 3) := by decide +kernel
theorem dX7_gentlest_121 : decode cX7_gentlest 121 = .ok (.goto (-101), 3) := by decide +kernel
theorem dX7_gentlest_124 : decode cX7_gentlest 124 = .ok (.iload_n 3, 1) := by decide +kernel
theorem dX7_gentlest_125 : decode cX7_gentlest 125 = .ok (.ireturn, 1) := by decide +kernel
theorem dX7_savable_0 : decode cX7_savable 0 = .ok (.iload_n 1, 1) := by decide +kernel
theorem dX7_savable_1 : decode cX7_savable 1 = .ok (.iconst 1, 1) := by decide +kernel
theorem dX7_savable_2 : decode cX7_savable 2 = .ok (.bipush 9, 2) := by decide +kernel
theorem dX7_savable_4 : decode cX7_savable 4 = .ok (.invokestatic 33, 3) := by decide +kernel
theorem dX7_savable_7 : decode cX7_savable 7 = .ok (.invokestatic 37, 3) := by decide +kernel
theorem dX7_savable_10 : decode cX7_savable 10 = .ok (.aload_n 0, 1) := by decide +kernel
theorem dX7_savable_11 : decode cX7_savable 11 = .ok (.getfield 16, 3) := by decide +kernel
theorem dX7_savable_14 : decode cX7_savable 14 = .ok (.aload_n 0, 1) := by decide +kernel
theorem dX7_savable_15 : decode cX7_savable 15 = .ok (.getfield 10, 3) := by decide +kernel
theorem dX7_savable_18 : decode cX7_savable 18 = .ok (.invokevirtual 304, 3) := by decide +kernel
theorem dX7_savable_21 : decode cX7_savable 21 = .ok (.iconst 0, 1) := by decide +kernel
theorem dX7_savable_22 : decode cX7_savable 22 = .ok (.istore_n 2, 1) := by decide +kernel
theorem dX7_savable_23 : decode cX7_savable 23 = .ok (.iload_n 2, 1) := by decide +kernel
theorem dX7_savable_24 : decode cX7_savable 24 = .ok (.bipush 64, 2) := by decide +kernel
theorem dX7_savable_26 : decode cX7_savable 26 = .ok (.if_icmp .ge 63, 3) := by decide +kernel
theorem dX7_savable_29 : decode cX7_savable 29 = .ok (.aload_n 0, 1) := by decide +kernel
theorem dX7_savable_30 : decode cX7_savable 30 = .ok (.getfield 16, 3) := by decide +kernel
theorem dX7_savable_33 : decode cX7_savable 33 = .ok (.getfield 157, 3) := by decide +kernel
theorem dX7_savable_36 : decode cX7_savable 36 = .ok (.getfield 161, 3) := by decide +kernel
theorem dX7_savable_39 : decode cX7_savable 39 = .ok (.ifCond .le 50, 3) := by decide +kernel
theorem dX7_savable_42 : decode cX7_savable 42 = .ok (.iconst 0, 1) := by decide +kernel
theorem dX7_savable_43 : decode cX7_savable 43 = .ok (.istore_n 3, 1) := by decide +kernel
theorem dX7_savable_44 : decode cX7_savable 44 = .ok (.iload_n 3, 1) := by decide +kernel
theorem dX7_savable_45 : decode cX7_savable 45 = .ok (.iload_n 1, 1) := by decide +kernel
theorem dX7_savable_46 : decode cX7_savable 46 = .ok (.if_icmp .ge 30, 3) := by decide +kernel
theorem dX7_savable_49 : decode cX7_savable 49 = .ok (.aload_n 0, 1) := by decide +kernel
theorem dX7_savable_50 : decode cX7_savable 50 = .ok (.getfield 16, 3) := by decide +kernel
theorem dX7_savable_53 : decode cX7_savable 53 = .ok (.getfield 157, 3) := by decide +kernel
theorem dX7_savable_56 : decode cX7_savable 56 = .ok (.getfield 161, 3) := by decide +kernel
theorem dX7_savable_59 : decode cX7_savable 59 = .ok (.ifCond .le 17, 3) := by decide +kernel
theorem dX7_savable_62 : decode cX7_savable 62 = .ok (.aload_n 0, 1) := by decide +kernel
theorem dX7_savable_63 : decode cX7_savable 63 = .ok (.getfield 16, 3) := by decide +kernel
theorem dX7_savable_66 : decode cX7_savable 66 = .ok (.invokevirtual 164, 3) := by decide +kernel
theorem dX7_savable_69 : decode cX7_savable 69 = .ok (.pop, 1) := by decide +kernel
theorem dX7_savable_70 : decode cX7_savable 70 = .ok (.iinc 3 1, 3) := by decide +kernel
theorem dX7_savable_73 : decode cX7_savable 73 = .ok (.goto (-29), 3) := by decide +kernel
theorem dX7_savable_76 : decode cX7_savable 76 = .ok (.aload_n 0, 1) := by decide +kernel
theorem dX7_savable_77 : decode cX7_savable 77 = .ok (.getfield 16, 3) := by decide +kernel
theorem dX7_savable_80 : decode cX7_savable 80 = .ok (.invokevirtual 307, 3) := by decide +kernel
theorem dX7_savable_83 : decode cX7_savable 83 = .ok (.iinc 2 1, 3) := by decide +kernel
theorem dX7_savable_86 : decode cX7_savable 86 = .ok (.goto (-63), 3) := by decide +kernel
theorem dX7_savable_89 : decode cX7_savable 89 = .ok (.aload_n 0, 1) := by decide +kernel
theorem dX7_savable_90 : decode cX7_savable 90 = .ok (.getfield 16, 3) := by decide +kernel
theorem dX7_savable_93 : decode cX7_savable 93 = .ok (.getfield 275, 3) := by decide +kernel
theorem dX7_savable_96 : decode cX7_savable 96 = .ok (.bipush 10, 2) := by decide +kernel
theorem dX7_savable_98 : decode cX7_savable 98 = .ok (.iaload, 1) := by decide +kernel
theorem dX7_savable_99 : decode cX7_savable 99 = .ok (.aload_n 0, 1) := by decide +kernel
theorem dX7_savable_100 : decode cX7_savable 100 = .ok (.getfield 10, 3) := by decide +kernel
theorem dX7_savable_103 : decode cX7_savable 103 = .ok (.getfield 275, 3) := by decide +kernel
theorem dX7_savable_106 : decode cX7_savable 106 = .ok (.bipush 10, 2) := by decide +kernel
theorem dX7_savable_108 : decode cX7_savable 108 = .ok (.iaload, 1) := by decide +kernel
theorem dX7_savable_109 : decode cX7_savable 109 = .ok (.isub, 1) := by decide +kernel
theorem dX7_savable_110 : decode cX7_savable 110 = .ok (.ireturn, 1) := by decide +kernel
theorem dX7_atRisk_0 : decode cX7_atRisk 0 = .ok (.aload_n 0, 1) := by decide +kernel
theorem dX7_atRisk_1 : decode cX7_atRisk 1 = .ok (.iload_n 1, 1) := by decide +kernel
theorem dX7_atRisk_2 : decode cX7_atRisk 2 = .ok (.invokevirtual 86, 3) := by decide +kernel
theorem dX7_atRisk_5 : decode cX7_atRisk 5 = .ok (.aload_n 0, 1) := by decide +kernel
theorem dX7_atRisk_6 : decode cX7_atRisk 6 = .ok (.getfield 10, 3) := by decide +kernel
theorem dX7_atRisk_9 : decode cX7_atRisk 9 = .ok (.invokevirtual 284, 3) := by decide +kernel
theorem dX7_atRisk_12 : decode cX7_atRisk 12 = .ok (.aload_n 0, 1) := by decide +kernel
theorem dX7_atRisk_13 : decode cX7_atRisk 13 = .ok (.getfield 10, 3) := by decide +kernel
theorem dX7_atRisk_16 : decode cX7_atRisk 16 = .ok (.getfield 89, 3) := by decide +kernel
theorem dX7_atRisk_19 : decode cX7_atRisk 19 = .ok (.iload_n 1, 1) := by decide +kernel
theorem dX7_atRisk_20 : decode cX7_atRisk 20 = .ok (.invokevirtual 310, 3) := by decide +kernel
theorem dX7_atRisk_23 : decode cX7_atRisk 23 = .ok (.land, 1) := by decide +kernel
theorem dX7_atRisk_24 : decode cX7_atRisk 24 = .ok (.lstore_n 2, 1) := by decide +kernel
theorem dX7_atRisk_25 : decode cX7_atRisk 25 = .ok (.iconst 0, 1) := by decide +kernel
theorem dX7_atRisk_26 : decode cX7_atRisk 26 = .ok (.istore 4, 2) := by decide +kernel
theorem dX7_atRisk_28 : decode cX7_atRisk 28 = .ok (.iconst 0, 1) := by decide +kernel
theorem dX7_atRisk_29 : decode cX7_atRisk 29 = .ok (.istore 5, 2) := by decide +kernel
theorem dX7_atRisk_31 : decode cX7_atRisk 31 = .ok (.iload 5, 2) := by decide +kernel
theorem dX7_atRisk_33 : decode cX7_atRisk 33 = .ok (.bipush 64, 2) := by decide +kernel
theorem dX7_atRisk_35 : decode cX7_atRisk 35 = .ok (.if_icmp .ge 38, 3) := by decide +kernel
theorem dX7_atRisk_38 : decode cX7_atRisk 38 = .ok (.aload_n 0, 1) := by decide +kernel
theorem dX7_atRisk_39 : decode cX7_atRisk 39 = .ok (.getfield 10, 3) := by decide +kernel
theorem dX7_atRisk_42 : decode cX7_atRisk 42 = .ok (.iload 5, 2) := by decide +kernel
theorem dX7_atRisk_44 : decode cX7_atRisk 44 = .ok (.invokevirtual 151, 3) := by decide +kernel
theorem dX7_atRisk_47 : decode cX7_atRisk 47 = .ok (.ifCond .eq 20, 3) := by decide +kernel
theorem dX7_atRisk_50 : decode cX7_atRisk 50 = .ok (.iload 4, 2) := by decide +kernel
theorem dX7_atRisk_52 : decode cX7_atRisk 52 = .ok (.lload_n 2, 1) := by decide +kernel
theorem dX7_atRisk_53 : decode cX7_atRisk 53 = .ok (.iload 5, 2) := by decide +kernel
theorem dX7_atRisk_55 : decode cX7_atRisk 55 = .ok (.invokestatic 288, 3) := by decide +kernel
theorem dX7_atRisk_58 : decode cX7_atRisk 58 = .ok (.land, 1) := by decide +kernel
theorem dX7_atRisk_59 : decode cX7_atRisk 59 = .ok (.invokestatic 269, 3) := by decide +kernel
theorem dX7_atRisk_62 : decode cX7_atRisk 62 = .ok (.invokestatic 278, 3) := by decide +kernel
theorem dX7_atRisk_65 : decode cX7_atRisk 65 = .ok (.istore 4, 2) := by decide +kernel
theorem dX7_atRisk_67 : decode cX7_atRisk 67 = .ok (.iinc 5 1, 3) := by decide +kernel
theorem dX7_atRisk_70 : decode cX7_atRisk 70 = .ok (.goto (-39), 3) := by decide +kernel
theorem dX7_atRisk_73 : decode cX7_atRisk 73 = .ok (.iload 4, 2) := by decide +kernel
theorem dX7_atRisk_75 : decode cX7_atRisk 75 = .ok (.ireturn, 1) := by decide +kernel
theorem dX7_backShare_0 : decode cX7_backShare 0 = .ok (.aload_n 0, 1) := by decide +kernel
theorem dX7_backShare_1 : decode cX7_backShare 1 = .ok (.getfield 10, 3) := by decide +kernel
theorem dX7_backShare_4 : decode cX7_backShare 4 = .ok (.getfield 275, 3) := by decide +kernel
theorem dX7_backShare_7 : decode cX7_backShare 7 = .ok (.bipush 9, 2) := by decide +kernel
theorem dX7_backShare_9 : decode cX7_backShare 9 = .ok (.iaload, 1) := by decide +kernel
theorem dX7_backShare_10 : decode cX7_backShare 10 = .ok (.istore_n 1, 1) := by decide +kernel
theorem dX7_backShare_11 : decode cX7_backShare 11 = .ok (.iload_n 1, 1) := by decide +kernel
theorem dX7_backShare_12 : decode cX7_backShare 12 = .ok (.ifCond .ne 5, 3) := by decide +kernel
theorem dX7_backShare_15 : decode cX7_backShare 15 = .ok (.dconst 0, 1) := by decide +kernel
theorem dX7_backShare_16 : decode cX7_backShare 16 = .ok (.dreturn, 1) := by decide +kernel
theorem dX7_backShare_17 : decode cX7_backShare 17 = .ok (.aload_n 0, 1) := by decide +kernel
theorem dX7_backShare_18 : decode cX7_backShare 18 = .ok (.getfield 10, 3) := by decide +kernel
theorem dX7_backShare_21 : decode cX7_backShare 21 = .ok (.getfield 275, 3) := by decide +kernel
theorem dX7_backShare_24 : decode cX7_backShare 24 = .ok (.bipush 10, 2) := by decide +kernel
theorem dX7_backShare_26 : decode cX7_backShare 26 = .ok (.iaload, 1) := by decide +kernel
theorem dX7_backShare_27 : decode cX7_backShare 27 = .ok (.i2d, 1) := by decide +kernel
theorem dX7_backShare_28 : decode cX7_backShare 28 = .ok (.iload_n 1, 1) := by decide +kernel
theorem dX7_backShare_29 : decode cX7_backShare 29 = .ok (.i2d, 1) := by decide +kernel
theorem dX7_backShare_30 : decode cX7_backShare 30 = .ok (.ddiv, 1) := by decide +kernel
theorem dX7_backShare_31 : decode cX7_backShare 31 = .ok (.dreturn, 1) := by decide +kernel
theorem dX7_digest_0 : decode cX7_digest 0 = .ok (.ldc2_w 313, 3) := by decide +kernel
theorem dX7_digest_3 : decode cX7_digest 3 = .ok (.lstore_n 1, 1) := by decide +kernel
theorem dX7_digest_4 : decode cX7_digest 4 = .ok (.iconst 0, 1) := by decide +kernel
theorem dX7_digest_5 : decode cX7_digest 5 = .ok (.istore_n 3, 1) := by decide +kernel
theorem dX7_digest_6 : decode cX7_digest 6 = .ok (.iload_n 3, 1) := by decide +kernel
theorem dX7_digest_7 : decode cX7_digest 7 = .ok (.bipush 19, 2) := by decide +kernel
theorem dX7_digest_9 : decode cX7_digest 9 = .ok (.if_icmp .ge 20, 3) := by decide +kernel
theorem dX7_digest_12 : decode cX7_digest 12 = .ok (.lload_n 1, 1) := by decide +kernel
theorem dX7_digest_13 : decode cX7_digest 13 = .ok (.aload_n 0, 1) := by decide +kernel
theorem dX7_digest_14 : decode cX7_digest 14 = .ok (.iload_n 3, 1) := by decide +kernel
theorem dX7_digest_15 : decode cX7_digest 15 = .ok (.invokevirtual 315, 3) := by decide +kernel
theorem dX7_digest_18 : decode cX7_digest 18 = .ok (.i2l, 1) := by decide +kernel
theorem dX7_digest_19 : decode cX7_digest 19 = .ok (.invokestatic 318, 3) := by decide +kernel
theorem dX7_digest_22 : decode cX7_digest 22 = .ok (.lstore_n 1, 1) := by decide +kernel
theorem dX7_digest_23 : decode cX7_digest 23 = .ok (.iinc 3 1, 3) := by decide +kernel
theorem dX7_digest_26 : decode cX7_digest 26 = .ok (.goto (-20), 3) := by decide +kernel
theorem dX7_digest_29 : decode cX7_digest 29 = .ok (.iconst 0, 1) := by decide +kernel
theorem dX7_digest_30 : decode cX7_digest 30 = .ok (.istore_n 3, 1) := by decide +kernel
theorem dX7_digest_31 : decode cX7_digest 31 = .ok (.iload_n 3, 1) := by decide +kernel
theorem dX7_digest_32 : decode cX7_digest 32 = .ok (.bipush 8, 2) := by decide +kernel
theorem dX7_digest_34 : decode cX7_digest 34 = .ok (.if_icmp .ge 20, 3) := by decide +kernel
theorem dX7_digest_37 : decode cX7_digest 37 = .ok (.lload_n 1, 1) := by decide +kernel
theorem dX7_digest_38 : decode cX7_digest 38 = .ok (.aload_n 0, 1) := by decide +kernel
theorem dX7_digest_39 : decode cX7_digest 39 = .ok (.iload_n 3, 1) := by decide +kernel
theorem dX7_digest_40 : decode cX7_digest 40 = .ok (.invokevirtual 322, 3) := by decide +kernel
theorem dX7_digest_43 : decode cX7_digest 43 = .ok (.i2l, 1) := by decide +kernel
theorem dX7_digest_44 : decode cX7_digest 44 = .ok (.invokestatic 318, 3) := by decide +kernel
theorem dX7_digest_47 : decode cX7_digest 47 = .ok (.lstore_n 1, 1) := by decide +kernel
theorem dX7_digest_48 : decode cX7_digest 48 = .ok (.iinc 3 1, 3) := by decide +kernel
theorem dX7_digest_51 : decode cX7_digest 51 = .ok (.goto (-20), 3) := by decide +kernel
theorem dX7_digest_54 : decode cX7_digest 54 = .ok (.aload_n 0, 1) := by decide +kernel
theorem dX7_digest_55 : decode cX7_digest 55 = .ok (.lload_n 1, 1) := by decide +kernel
theorem dX7_digest_56 : decode cX7_digest 56 = .ok (.invokevirtual 325, 3) := by decide +kernel
theorem dX7_digest_59 : decode cX7_digest 59 = .ok (.lstore_n 1, 1) := by decide +kernel
theorem dX7_digest_60 : decode cX7_digest 60 = .ok (.aload_n 0, 1) := by decide +kernel
theorem dX7_digest_61 : decode cX7_digest 61 = .ok (.lload_n 1, 1) := by decide +kernel
theorem dX7_digest_62 : decode cX7_digest 62 = .ok (.invokevirtual 329, 3) := by decide +kernel
theorem dX7_digest_65 : decode cX7_digest 65 = .ok (.lstore_n 1, 1) := by decide +kernel
theorem dX7_digest_66 : decode cX7_digest 66 = .ok (.aload_n 0, 1) := by decide +kernel
theorem dX7_digest_67 : decode cX7_digest 67 = .ok (.lload_n 1, 1) := by decide +kernel
theorem dX7_digest_68 : decode cX7_digest 68 = .ok (.invokevirtual 332, 3) := by decide +kernel
theorem dX7_digest_71 : decode cX7_digest 71 = .ok (.lstore_n 1, 1) := by decide +kernel
theorem dX7_digest_72 : decode cX7_digest 72 = .ok (.aload_n 0, 1) := by decide +kernel
theorem dX7_digest_73 : decode cX7_digest 73 = .ok (.lload_n 1, 1) := by decide +kernel
theorem dX7_digest_74 : decode cX7_digest 74 = .ok (.invokevirtual 335, 3) := by decide +kernel
theorem dX7_digest_77 : decode cX7_digest 77 = .ok (.lstore_n 1, 1) := by decide +kernel
theorem dX7_digest_78 : decode cX7_digest 78 = .ok (.iconst (-1), 1) := by decide +kernel
theorem dX7_digest_79 : decode cX7_digest 79 = .ok (.istore_n 3, 1) := by decide +kernel
theorem dX7_digest_80 : decode cX7_digest 80 = .ok (.iconst 0, 1) := by decide +kernel
theorem dX7_digest_81 : decode cX7_digest 81 = .ok (.istore 4, 2) := by decide +kernel
theorem dX7_digest_83 : decode cX7_digest 83 = .ok (.iload 4, 2) := by decide +kernel
theorem dX7_digest_85 : decode cX7_digest 85 = .ok (.bipush 8, 2) := by decide +kernel
theorem dX7_digest_87 : decode cX7_digest 87 = .ok (.if_icmp .ge 28, 3) := by decide +kernel
theorem dX7_digest_90 : decode cX7_digest 90 = .ok (.aload_n 0, 1) := by decide +kernel
theorem dX7_digest_91 : decode cX7_digest 91 = .ok (.getfield 10, 3) := by decide +kernel
theorem dX7_digest_94 : decode cX7_digest 94 = .ok (.getfield 89, 3) := by decide +kernel
theorem dX7_digest_97 : decode cX7_digest 97 = .ok (.iload_n 3, 1) := by decide +kernel
theorem dX7_digest_98 : decode cX7_digest 98 = .ok (.invokevirtual 256, 3) := by decide +kernel
theorem dX7_digest_101 : decode cX7_digest 101 = .ok (.istore_n 3, 1) := by decide +kernel
theorem dX7_digest_102 : decode cX7_digest 102 = .ok (.lload_n 1, 1) := by decide +kernel
theorem dX7_digest_103 : decode cX7_digest 103 = .ok (.iload_n 3, 1) := by decide +kernel
theorem dX7_digest_104 : decode cX7_digest 104 = .ok (.i2l, 1) := by decide +kernel
theorem dX7_digest_105 : decode cX7_digest 105 = .ok (.invokestatic 318, 3) := by decide +kernel
theorem dX7_digest_108 : decode cX7_digest 108 = .ok (.lstore_n 1, 1) := by decide +kernel
theorem dX7_digest_109 : decode cX7_digest 109 = .ok (.iinc 4 1, 3) := by decide +kernel
theorem dX7_digest_112 : decode cX7_digest 112 = .ok (.goto (-29), 3) := by decide +kernel
theorem dX7_digest_115 : decode cX7_digest 115 = .ok (.lload_n 1, 1) := by decide +kernel
theorem dX7_digest_116 : decode cX7_digest 116 = .ok (.aload_n 0, 1) := by decide +kernel
theorem dX7_digest_117 : decode cX7_digest 117 = .ok (.invokevirtual 338, 3) := by decide +kernel
theorem dX7_digest_120 : decode cX7_digest 120 = .ok (.i2l, 1) := by decide +kernel
theorem dX7_digest_121 : decode cX7_digest 121 = .ok (.invokestatic 318, 3) := by decide +kernel
theorem dX7_digest_124 : decode cX7_digest 124 = .ok (.lstore_n 1, 1) := by decide +kernel
theorem dX7_digest_125 : decode cX7_digest 125 = .ok (.lload_n 1, 1) := by decide +kernel
theorem dX7_digest_126 : decode cX7_digest 126 = .ok (.aload_n 0, 1) := by decide +kernel
theorem dX7_digest_127 : decode cX7_digest 127 = .ok (.iconst 1, 1) := by decide +kernel
theorem dX7_digest_128 : decode cX7_digest 128 = .ok (.invokevirtual 341, 3) := by decide +kernel
theorem dX7_digest_131 : decode cX7_digest 131 = .ok (.i2l, 1) := by decide +kernel
theorem dX7_digest_132 : decode cX7_digest 132 = .ok (.invokestatic 318, 3) := by decide +kernel
theorem dX7_digest_135 : decode cX7_digest 135 = .ok (.lstore_n 1, 1) := by decide +kernel
theorem dX7_digest_136 : decode cX7_digest 136 = .ok (.lload_n 1, 1) := by decide +kernel
theorem dX7_digest_137 : decode cX7_digest 137 = .ok (.aload_n 0, 1) := by decide +kernel
theorem dX7_digest_138 : decode cX7_digest 138 = .ok (.iconst 3, 1) := by decide +kernel
theorem dX7_digest_139 : decode cX7_digest 139 = .ok (.invokevirtual 341, 3) := by decide +kernel
theorem dX7_digest_142 : decode cX7_digest 142 = .ok (.i2l, 1) := by decide +kernel
theorem dX7_digest_143 : decode cX7_digest 143 = .ok (.invokestatic 318, 3) := by decide +kernel
theorem dX7_digest_146 : decode cX7_digest 146 = .ok (.lstore_n 1, 1) := by decide +kernel
theorem dX7_digest_147 : decode cX7_digest 147 = .ok (.lload_n 1, 1) := by decide +kernel
theorem dX7_digest_148 : decode cX7_digest 148 = .ok (.aload_n 0, 1) := by decide +kernel
theorem dX7_digest_149 : decode cX7_digest 149 = .ok (.invokevirtual 344, 3) := by decide +kernel
theorem dX7_digest_152 : decode cX7_digest 152 = .ok (.invokestatic 348, 3) := by decide +kernel
theorem dX7_digest_155 : decode cX7_digest 155 = .ok (.invokestatic 318, 3) := by decide +kernel
theorem dX7_digest_158 : decode cX7_digest 158 = .ok (.lstore_n 1, 1) := by decide +kernel
theorem dX7_digest_159 : decode cX7_digest 159 = .ok (.aload_n 0, 1) := by decide +kernel
theorem dX7_digest_160 : decode cX7_digest 160 = .ok (.lload_n 1, 1) := by decide +kernel
theorem dX7_digest_161 : decode cX7_digest 161 = .ok (.invokevirtual 352, 3) := by decide +kernel
theorem dX7_digest_164 : decode cX7_digest 164 = .ok (.lreturn, 1) := by decide +kernel
theorem dX7_mixed_0 : decode cX7_mixed 0 = .ok (.ldc2_w 355, 3) := by decide +kernel
theorem dX7_mixed_3 : decode cX7_mixed 3 = .ok (.lload_n 0, 1) := by decide +kernel
theorem dX7_mixed_4 : decode cX7_mixed 4 = .ok (.lmul, 1) := by decide +kernel
theorem dX7_mixed_5 : decode cX7_mixed 5 = .ok (.lload_n 2, 1) := by decide +kernel
theorem dX7_mixed_6 : decode cX7_mixed 6 = .ok (.ladd, 1) := by decide +kernel
theorem dX7_mixed_7 : decode cX7_mixed 7 = .ok (.lreturn, 1) := by decide +kernel
theorem dX7_withCores_0 : decode cX7_withCores 0 = .ok (.aload_n 0, 1) := by decide +kernel
theorem dX7_withCores_1 : decode cX7_withCores 1 = .ok (.getfield 10, 3) := by decide +kernel
theorem dX7_withCores_4 : decode cX7_withCores 4 = .ok (.invokevirtual 284, 3) := by decide +kernel
theorem dX7_withCores_7 : decode cX7_withCores 7 = .ok (.lstore_n 3, 1) := by decide +kernel
theorem dX7_withCores_8 : decode cX7_withCores 8 = .ok (.lload_n 1, 1) := by decide +kernel
theorem dX7_withCores_9 : decode cX7_withCores 9 = .ok (.lstore 5, 2) := by decide +kernel
theorem dX7_withCores_11 : decode cX7_withCores 11 = .ok (.iconst 0, 1) := by decide +kernel
theorem dX7_withCores_12 : decode cX7_withCores 12 = .ok (.istore 7, 2) := by decide +kernel
theorem dX7_withCores_14 : decode cX7_withCores 14 = .ok (.iload 7, 2) := by decide +kernel
theorem dX7_withCores_16 : decode cX7_withCores 16 = .ok (.bipush 64, 2) := by decide +kernel
theorem dX7_withCores_18 : decode cX7_withCores 18 = .ok (.if_icmp .ge 59, 3) := by decide +kernel
theorem dX7_withCores_21 : decode cX7_withCores 21 = .ok (.iconst 0, 1) := by decide +kernel
theorem dX7_withCores_22 : decode cX7_withCores 22 = .ok (.istore 8, 2) := by decide +kernel
theorem dX7_withCores_24 : decode cX7_withCores 24 = .ok (.iload 8, 2) := by decide +kernel
theorem dX7_withCores_26 : decode cX7_withCores 26 = .ok (.bipush 9, 2) := by decide +kernel
theorem dX7_withCores_28 : decode cX7_withCores 28 = .ok (.if_icmp .ge 25, 3) := by decide +kernel
theorem dX7_withCores_31 : decode cX7_withCores 31 = .ok (.lload 5, 2) := by decide +kernel
theorem dX7_withCores_33 : decode cX7_withCores 33 = .ok (.aload_n 0, 1) := by decide +kernel
theorem dX7_withCores_34 : decode cX7_withCores 34 = .ok (.iload 7, 2) := by decide +kernel
theorem dX7_withCores_36 : decode cX7_withCores 36 = .ok (.iload 8, 2) := by decide +kernel
theorem dX7_withCores_38 : decode cX7_withCores 38 = .ok (.invokevirtual 357, 3) := by decide +kernel
theorem dX7_withCores_41 : decode cX7_withCores 41 = .ok (.i2l, 1) := by decide +kernel
theorem dX7_withCores_42 : decode cX7_withCores 42 = .ok (.invokestatic 318, 3) := by decide +kernel
theorem dX7_withCores_45 : decode cX7_withCores 45 = .ok (.lstore 5, 2) := by decide +kernel
theorem dX7_withCores_47 : decode cX7_withCores 47 = .ok (.iinc 8 1, 3) := by decide +kernel
theorem dX7_withCores_50 : decode cX7_withCores 50 = .ok (.goto (-26), 3) := by decide +kernel
theorem dX7_withCores_53 : decode cX7_withCores 53 = .ok (.lload 5, 2) := by decide +kernel
theorem dX7_withCores_55 : decode cX7_withCores 55 = .ok (.lload_n 3, 1) := by decide +kernel
theorem dX7_withCores_56 : decode cX7_withCores 56 = .ok (.iload 7, 2) := by decide +kernel
theorem dX7_withCores_58 : decode cX7_withCores 58 = .ok (.invokestatic 288, 3) := by decide +kernel
theorem dX7_withCores_61 : decode cX7_withCores 61 = .ok (.land, 1) := by decide +kernel
theorem dX7_withCores_62 : decode cX7_withCores 62 = .ok (.invokestatic 269, 3) := by decide +kernel
theorem dX7_withCores_65 : decode cX7_withCores 65 = .ok (.i2l, 1) := by decide +kernel
theorem dX7_withCores_66 : decode cX7_withCores 66 = .ok (.invokestatic 318, 3) := by decide +kernel
theorem dX7_withCores_69 : decode cX7_withCores 69 = .ok (.lstore 5, 2) := by decide +kernel
theorem dX7_withCores_71 : decode cX7_withCores 71 = .ok (.iinc 7 1, 3) := by decide +kernel
theorem dX7_withCores_74 : decode cX7_withCores 74 = .ok (.goto (-60), 3) := by decide +kernel
theorem dX7_withCores_77 : decode cX7_withCores 77 = .ok (.lload 5, 2) := by decide +kernel
theorem dX7_withCores_79 : decode cX7_withCores 79 = .ok (.lreturn, 1) := by decide +kernel
theorem dX7_withTenants_0 : decode cX7_withTenants 0 = .ok (.lload_n 1, 1) := by decide +kernel
theorem dX7_withTenants_1 : decode cX7_withTenants 1 = .ok (.lstore_n 3, 1) := by decide +kernel
theorem dX7_withTenants_2 : decode cX7_withTenants 2 = .ok (.iconst 0, 1) := by decide +kernel
theorem dX7_withTenants_3 : decode cX7_withTenants 3 = .ok (.istore 5, 2) := by decide +kernel
theorem dX7_withTenants_5 : decode cX7_withTenants 5 = .ok (.iload 5, 2) := by decide +kernel
theorem dX7_withTenants_7 : decode cX7_withTenants 7 = .ok (.aload_n 0, 1) := by decide +kernel
theorem dX7_withTenants_8 : decode cX7_withTenants 8 = .ok (.getfield 10, 3) := by decide +kernel
theorem dX7_withTenants_11 : decode cX7_withTenants 11 = .ok (.getfield 41, 3) := by decide +kernel
theorem dX7_withTenants_14 : decode cX7_withTenants 14 = .ok (.getfield 45, 3) := by decide +kernel
theorem dX7_withTenants_17 : decode cX7_withTenants 17 = .ok (.if_icmp .ge 51, 3) := by decide +kernel
theorem dX7_withTenants_20 : decode cX7_withTenants 20 = .ok (.iconst 0, 1) := by decide +kernel
theorem dX7_withTenants_21 : decode cX7_withTenants 21 = .ok (.istore 6, 2) := by decide +kernel
theorem dX7_withTenants_23 : decode cX7_withTenants 23 = .ok (.iload 6, 2) := by decide +kernel
theorem dX7_withTenants_25 : decode cX7_withTenants 25 = .ok (.bipush 6, 2) := by decide +kernel
theorem dX7_withTenants_27 : decode cX7_withTenants 27 = .ok (.if_icmp .ge 23, 3) := by decide +kernel
theorem dX7_withTenants_30 : decode cX7_withTenants 30 = .ok (.lload_n 3, 1) := by decide +kernel
theorem dX7_withTenants_31 : decode cX7_withTenants 31 = .ok (.aload_n 0, 1) := by decide +kernel
theorem dX7_withTenants_32 : decode cX7_withTenants 32 = .ok (.iload 5, 2) := by decide +kernel
theorem dX7_withTenants_34 : decode cX7_withTenants 34 = .ok (.iload 6, 2) := by decide +kernel
theorem dX7_withTenants_36 : decode cX7_withTenants 36 = .ok (.invokevirtual 360, 3) := by decide +kernel
theorem dX7_withTenants_39 : decode cX7_withTenants 39 = .ok (.i2l, 1) := by decide +kernel
theorem dX7_withTenants_40 : decode cX7_withTenants 40 = .ok (.invokestatic 318, 3) := by decide +kernel
theorem dX7_withTenants_43 : decode cX7_withTenants 43 = .ok (.lstore_n 3, 1) := by decide +kernel
theorem dX7_withTenants_44 : decode cX7_withTenants 44 = .ok (.iinc 6 1, 3) := by decide +kernel
theorem dX7_withTenants_47 : decode cX7_withTenants 47 = .ok (.goto (-24), 3) := by decide +kernel
theorem dX7_withTenants_50 : decode cX7_withTenants 50 = .ok (.lload_n 3, 1) := by decide +kernel
theorem dX7_withTenants_51 : decode cX7_withTenants 51 = .ok (.aload_n 0, 1) := by decide +kernel
theorem dX7_withTenants_52 : decode cX7_withTenants 52 = .ok (.iload 5, 2) := by decide +kernel
theorem dX7_withTenants_54 : decode cX7_withTenants 54 = .ok (.invokevirtual 363, 3) := by decide +kernel
theorem dX7_withTenants_57 : decode cX7_withTenants 57 = .ok (.i2l, 1) := by decide +kernel
theorem dX7_withTenants_58 : decode cX7_withTenants 58 = .ok (.invokestatic 318, 3) := by decide +kernel
theorem dX7_withTenants_61 : decode cX7_withTenants 61 = .ok (.lstore_n 3, 1) := by decide +kernel
theorem dX7_withTenants_62 : decode cX7_withTenants 62 = .ok (.iinc 5 1, 3) := by decide +kernel
theorem dX7_withTenants_65 : decode cX7_withTenants 65 = .ok (.goto (-60), 3) := by decide +kernel
theorem dX7_withTenants_68 : decode cX7_withTenants 68 = .ok (.lload_n 3, 1) := by decide +kernel
theorem dX7_withTenants_69 : decode cX7_withTenants 69 = .ok (.lreturn, 1) := by decide +kernel
theorem dX7_withInsurers_0 : decode cX7_withInsurers 0 = .ok (.lload_n 1, 1) := by decide +kernel
theorem dX7_withInsurers_1 : decode cX7_withInsurers 1 = .ok (.lstore_n 3, 1) := by decide +kernel
theorem dX7_withInsurers_2 : decode cX7_withInsurers 2 = .ok (.iconst 0, 1) := by decide +kernel
theorem dX7_withInsurers_3 : decode cX7_withInsurers 3 = .ok (.istore 5, 2) := by decide +kernel
theorem dX7_withInsurers_5 : decode cX7_withInsurers 5 = .ok (.iload 5, 2) := by decide +kernel
theorem dX7_withInsurers_7 : decode cX7_withInsurers 7 = .ok (.aload_n 0, 1) := by decide +kernel
theorem dX7_withInsurers_8 : decode cX7_withInsurers 8 = .ok (.getfield 10, 3) := by decide +kernel
theorem dX7_withInsurers_11 : decode cX7_withInsurers 11 = .ok (.getfield 62, 3) := by decide +kernel
theorem dX7_withInsurers_14 : decode cX7_withInsurers 14 = .ok (.getfield 66, 3) := by decide +kernel
theorem dX7_withInsurers_17 : decode cX7_withInsurers 17 = .ok (.if_icmp .ge 39, 3) := by decide +kernel
theorem dX7_withInsurers_20 : decode cX7_withInsurers 20 = .ok (.iconst 0, 1) := by decide +kernel
theorem dX7_withInsurers_21 : decode cX7_withInsurers 21 = .ok (.istore 6, 2) := by decide +kernel
theorem dX7_withInsurers_23 : decode cX7_withInsurers 23 = .ok (.iload 6, 2) := by decide +kernel
theorem dX7_withInsurers_25 : decode cX7_withInsurers 25 = .ok (.bipush 7, 2) := by decide +kernel
theorem dX7_withInsurers_27 : decode cX7_withInsurers 27 = .ok (.if_icmp .ge 23, 3) := by decide +kernel
theorem dX7_withInsurers_30 : decode cX7_withInsurers 30 = .ok (.lload_n 3, 1) := by decide +kernel
theorem dX7_withInsurers_31 : decode cX7_withInsurers 31 = .ok (.aload_n 0, 1) := by decide +kernel
theorem dX7_withInsurers_32 : decode cX7_withInsurers 32 = .ok (.iload 5, 2) := by decide +kernel
theorem dX7_withInsurers_34 : decode cX7_withInsurers 34 = .ok (.iload 6, 2) := by decide +kernel
theorem dX7_withInsurers_36 : decode cX7_withInsurers 36 = .ok (.invokevirtual 366, 3) := by decide +kernel
theorem dX7_withInsurers_39 : decode cX7_withInsurers 39 = .ok (.i2l, 1) := by decide +kernel
theorem dX7_withInsurers_40 : decode cX7_withInsurers 40 = .ok (.invokestatic 318, 3) := by decide +kernel
theorem dX7_withInsurers_43 : decode cX7_withInsurers 43 = .ok (.lstore_n 3, 1) := by decide +kernel
theorem dX7_withInsurers_44 : decode cX7_withInsurers 44 = .ok (.iinc 6 1, 3) := by decide +kernel
theorem dX7_withInsurers_47 : decode cX7_withInsurers 47 = .ok (.goto (-24), 3) := by decide +kernel
theorem dX7_withInsurers_50 : decode cX7_withInsurers 50 = .ok (.iinc 5 1, 3) := by decide +kernel
theorem dX7_withInsurers_53 : decode cX7_withInsurers 53 = .ok (.goto (-48), 3) := by decide +kernel
theorem dX7_withInsurers_56 : decode cX7_withInsurers 56 = .ok (.lload_n 3, 1) := by decide +kernel
theorem dX7_withInsurers_57 : decode cX7_withInsurers 57 = .ok (.lreturn, 1) := by decide +kernel
theorem dX7_withDebts_0 : decode cX7_withDebts 0 = .ok (.lload_n 1, 1) := by decide +kernel
theorem dX7_withDebts_1 : decode cX7_withDebts 1 = .ok (.lstore_n 3, 1) := by decide +kernel
theorem dX7_withDebts_2 : decode cX7_withDebts 2 = .ok (.iconst 0, 1) := by decide +kernel
theorem dX7_withDebts_3 : decode cX7_withDebts 3 = .ok (.istore 5, 2) := by decide +kernel
theorem dX7_withDebts_5 : decode cX7_withDebts 5 = .ok (.iload 5, 2) := by decide +kernel
theorem dX7_withDebts_7 : decode cX7_withDebts 7 = .ok (.aload_n 0, 1) := by decide +kernel
theorem dX7_withDebts_8 : decode cX7_withDebts 8 = .ok (.getfield 10, 3) := by decide +kernel
theorem dX7_withDebts_11 : decode cX7_withDebts 11 = .ok (.getfield 157, 3) := by decide +kernel
theorem dX7_withDebts_14 : decode cX7_withDebts 14 = .ok (.getfield 161, 3) := by decide +kernel
theorem dX7_withDebts_17 : decode cX7_withDebts 17 = .ok (.if_icmp .ge 35, 3) := by decide +kernel
theorem dX7_withDebts_20 : decode cX7_withDebts 20 = .ok (.lload_n 3, 1) := by decide +kernel
theorem dX7_withDebts_21 : decode cX7_withDebts 21 = .ok (.aload_n 0, 1) := by decide +kernel
theorem dX7_withDebts_22 : decode cX7_withDebts 22 = .ok (.iload 5, 2) := by decide +kernel
theorem dX7_withDebts_24 : decode cX7_withDebts 24 = .ok (.iconst 0, 1) := by decide +kernel
theorem dX7_withDebts_25 : decode cX7_withDebts 25 = .ok (.invokevirtual 369, 3) := by decide +kernel
theorem dX7_withDebts_28 : decode cX7_withDebts 28 = .ok (.i2l, 1) := by decide +kernel
theorem dX7_withDebts_29 : decode cX7_withDebts 29 = .ok (.invokestatic 318, 3) := by decide +kernel
theorem dX7_withDebts_32 : decode cX7_withDebts 32 = .ok (.lstore_n 3, 1) := by decide +kernel
theorem dX7_withDebts_33 : decode cX7_withDebts 33 = .ok (.lload_n 3, 1) := by decide +kernel
theorem dX7_withDebts_34 : decode cX7_withDebts 34 = .ok (.aload_n 0, 1) := by decide +kernel
theorem dX7_withDebts_35 : decode cX7_withDebts 35 = .ok (.iload 5, 2) := by decide +kernel
theorem dX7_withDebts_37 : decode cX7_withDebts 37 = .ok (.iconst 1, 1) := by decide +kernel
theorem dX7_withDebts_38 : decode cX7_withDebts 38 = .ok (.invokevirtual 369, 3) := by decide +kernel
theorem dX7_withDebts_41 : decode cX7_withDebts 41 = .ok (.i2l, 1) := by decide +kernel
theorem dX7_withDebts_42 : decode cX7_withDebts 42 = .ok (.invokestatic 318, 3) := by decide +kernel
theorem dX7_withDebts_45 : decode cX7_withDebts 45 = .ok (.lstore_n 3, 1) := by decide +kernel
theorem dX7_withDebts_46 : decode cX7_withDebts 46 = .ok (.iinc 5 1, 3) := by decide +kernel
theorem dX7_withDebts_49 : decode cX7_withDebts 49 = .ok (.goto (-44), 3) := by decide +kernel
theorem dX7_withDebts_52 : decode cX7_withDebts 52 = .ok (.lload_n 3, 1) := by decide +kernel
theorem dX7_withDebts_53 : decode cX7_withDebts 53 = .ok (.lreturn, 1) := by decide +kernel
theorem dX7_withText_0 : decode cX7_withText 0 = .ok (.lload_n 1, 1) := by decide +kernel
theorem dX7_withText_1 : decode cX7_withText 1 = .ok (.aload_n 0, 1) := by decide +kernel
theorem dX7_withText_2 : decode cX7_withText 2 = .ok (.getfield 29, 3) := by decide +kernel
theorem dX7_withText_5 : decode cX7_withText 5 = .ok (.getfield 174, 3) := by decide +kernel
theorem dX7_withText_8 : decode cX7_withText 8 = .ok (.i2l, 1) := by decide +kernel
theorem dX7_withText_9 : decode cX7_withText 9 = .ok (.invokestatic 318, 3) := by decide +kernel
theorem dX7_withText_12 : decode cX7_withText 12 = .ok (.lstore_n 3, 1) := by decide +kernel
theorem dX7_withText_13 : decode cX7_withText 13 = .ok (.iconst 0, 1) := by decide +kernel
theorem dX7_withText_14 : decode cX7_withText 14 = .ok (.istore 5, 2) := by decide +kernel
theorem dX7_withText_16 : decode cX7_withText 16 = .ok (.iload 5, 2) := by decide +kernel
theorem dX7_withText_18 : decode cX7_withText 18 = .ok (.aload_n 0, 1) := by decide +kernel
theorem dX7_withText_19 : decode cX7_withText 19 = .ok (.getfield 29, 3) := by decide +kernel
theorem dX7_withText_22 : decode cX7_withText 22 = .ok (.getfield 174, 3) := by decide +kernel
theorem dX7_withText_25 : decode cX7_withText 25 = .ok (.if_icmp .ge 24, 3) := by decide +kernel
theorem dX7_withText_28 : decode cX7_withText 28 = .ok (.lload_n 3, 1) := by decide +kernel
theorem dX7_withText_29 : decode cX7_withText 29 = .ok (.aload_n 0, 1) := by decide +kernel
theorem dX7_withText_30 : decode cX7_withText 30 = .ok (.getfield 29, 3) := by decide +kernel
theorem dX7_withText_33 : decode cX7_withText 33 = .ok (.iload 5, 2) := by decide +kernel
theorem dX7_withText_35 : decode cX7_withText 35 = .ok (.invokevirtual 372, 3) := by decide +kernel
theorem dX7_withText_38 : decode cX7_withText 38 = .ok (.i2l, 1) := by decide +kernel
theorem dX7_withText_39 : decode cX7_withText 39 = .ok (.invokestatic 318, 3) := by decide +kernel
theorem dX7_withText_42 : decode cX7_withText 42 = .ok (.lstore_n 3, 1) := by decide +kernel
theorem dX7_withText_43 : decode cX7_withText 43 = .ok (.iinc 5 1, 3) := by decide +kernel
theorem dX7_withText_46 : decode cX7_withText 46 = .ok (.goto (-30), 3) := by decide +kernel
theorem dX7_withText_49 : decode cX7_withText 49 = .ok (.lload_n 3, 1) := by decide +kernel
theorem dX7_withText_50 : decode cX7_withText 50 = .ok (.lreturn, 1) := by decide +kernel
theorem dX7_bitsOfShare_0 : decode cX7_bitsOfShare 0 = .ok (.dload_n 0, 1) := by decide +kernel
theorem dX7_bitsOfShare_1 : decode cX7_bitsOfShare 1 = .ok (.dconst 0, 1) := by decide +kernel
theorem dX7_bitsOfShare_2 : decode cX7_bitsOfShare 2 = .ok (.dcmp .g, 1) := by decide +kernel
theorem dX7_bitsOfShare_3 : decode cX7_bitsOfShare 3 = .ok (.ifCond .gt 5, 3) := by decide +kernel
theorem dX7_bitsOfShare_6 : decode cX7_bitsOfShare 6 = .ok (.lconst 0, 1) := by decide +kernel
theorem dX7_bitsOfShare_7 : decode cX7_bitsOfShare 7 = .ok (.lreturn, 1) := by decide +kernel
theorem dX7_bitsOfShare_8 : decode cX7_bitsOfShare 8 = .ok (.dload_n 0, 1) := by decide +kernel
theorem dX7_bitsOfShare_9 : decode cX7_bitsOfShare 9 = .ok (.dstore_n 2, 1) := by decide +kernel
theorem dX7_bitsOfShare_10 : decode cX7_bitsOfShare 10 = .ok (.ldc2_w 375, 3) := by decide +kernel
theorem dX7_bitsOfShare_13 : decode cX7_bitsOfShare 13 = .ok (.lstore 4, 2) := by decide +kernel
theorem dX7_bitsOfShare_15 : decode cX7_bitsOfShare 15 = .ok (.iconst 1, 1) := by decide +kernel
theorem dX7_bitsOfShare_16 : decode cX7_bitsOfShare 16 = .ok (.istore 6, 2) := by decide +kernel
theorem dX7_bitsOfShare_18 : decode cX7_bitsOfShare 18 = .ok (.iload 6, 2) := by decide +kernel
theorem dX7_bitsOfShare_20 : decode cX7_bitsOfShare 20 = .ok (.sipush 1023, 3) := by decide +kernel
theorem dX7_bitsOfShare_23 : decode cX7_bitsOfShare 23 = .ok (.if_icmp .ge 27, 3) := by decide +kernel
theorem dX7_bitsOfShare_26 : decode cX7_bitsOfShare 26 = .ok (.dload_n 2, 1) := by decide +kernel
theorem dX7_bitsOfShare_27 : decode cX7_bitsOfShare 27 = .ok (.dconst 1, 1) := by decide +kernel
theorem dX7_bitsOfShare_28 : decode cX7_bitsOfShare 28 = .ok (.dcmp .g, 1) := by decide +kernel
theorem dX7_bitsOfShare_29 : decode cX7_bitsOfShare 29 = .ok (.ifCond .ge 21, 3) := by decide +kernel
theorem dX7_bitsOfShare_32 : decode cX7_bitsOfShare 32 = .ok (.dload_n 2, 1) := by decide +kernel
theorem dX7_bitsOfShare_33 : decode cX7_bitsOfShare 33 = .ok (.ldc2_w 377, 3) := by decide +kernel
theorem dX7_bitsOfShare_36 : decode cX7_bitsOfShare 36 = .ok (.dmul, 1) := by decide +kernel
theorem dX7_bitsOfShare_37 : decode cX7_bitsOfShare 37 = .ok (.dstore_n 2, 1) := by decide +kernel
theorem dX7_bitsOfShare_38 : decode cX7_bitsOfShare 38 = .ok (.lload 4, 2) := by decide +kernel
theorem dX7_bitsOfShare_40 : decode cX7_bitsOfShare 40 = .ok (.lconst 1, 1) := by decide +kernel
theorem dX7_bitsOfShare_41 : decode cX7_bitsOfShare 41 = .ok (.lsub, 1) := by decide +kernel
theorem dX7_bitsOfShare_42 : decode cX7_bitsOfShare 42 = .ok (.lstore 4, 2) := by decide +kernel
theorem dX7_bitsOfShare_44 : decode cX7_bitsOfShare 44 = .ok (.iinc 6 1, 3) := by decide +kernel
theorem dX7_bitsOfShare_47 : decode cX7_bitsOfShare 47 = .ok (.goto (-29), 3) := by decide +kernel
theorem dX7_bitsOfShare_50 : decode cX7_bitsOfShare 50 = .ok (.dload_n 2, 1) := by decide +kernel
theorem dX7_bitsOfShare_51 : decode cX7_bitsOfShare 51 = .ok (.dconst 1, 1) := by decide +kernel
theorem dX7_bitsOfShare_52 : decode cX7_bitsOfShare 52 = .ok (.dsub, 1) := by decide +kernel
theorem dX7_bitsOfShare_53 : decode cX7_bitsOfShare 53 = .ok (.ldc2_w 379, 3) := by decide +kernel
theorem dX7_bitsOfShare_56 : decode cX7_bitsOfShare 56 = .ok (.dmul, 1) := by decide +kernel
theorem dX7_bitsOfShare_57 : decode cX7_bitsOfShare 57 = .ok (.d2l, 1) := by decide +kernel
theorem dX7_bitsOfShare_58 : decode cX7_bitsOfShare 58 = .ok (.lstore 6, 2) := by decide +kernel
theorem dX7_bitsOfShare_60 : decode cX7_bitsOfShare 60 = .ok (.lload 4, 2) := by decide +kernel
theorem dX7_bitsOfShare_62 : decode cX7_bitsOfShare 62 = .ok (.bipush 52, 2) := by decide +kernel
theorem dX7_bitsOfShare_64 : decode cX7_bitsOfShare 64 = .ok (.lshl, 1) := by decide +kernel
theorem dX7_bitsOfShare_65 : decode cX7_bitsOfShare 65 = .ok (.lload 6, 2) := by decide +kernel
theorem dX7_bitsOfShare_67 : decode cX7_bitsOfShare 67 = .ok (.ladd, 1) := by decide +kernel
theorem dX7_bitsOfShare_68 : decode cX7_bitsOfShare 68 = .ok (.lreturn, 1) := by decide +kernel
theorem dX7_canDoStep_0 : decode cX7_canDoStep 0 = .ok (.aload_n 0, 1) := by decide +kernel
theorem dX7_canDoStep_1 : decode cX7_canDoStep 1 = .ok (.getfield 29, 3) := by decide +kernel
theorem dX7_canDoStep_4 : decode cX7_canDoStep 4 = .ok (.iload_n 2, 1) := by decide +kernel
theorem dX7_canDoStep_5 : decode cX7_canDoStep 5 = .ok (.iconst 1, 1) := by decide +kernel
theorem dX7_canDoStep_6 : decode cX7_canDoStep 6 = .ok (.iadd, 1) := by decide +kernel
theorem dX7_canDoStep_7 : decode cX7_canDoStep 7 = .ok (.invokevirtual 381, 3) := by decide +kernel
theorem dX7_canDoStep_10 : decode cX7_canDoStep 10 = .ok (.istore_n 3, 1) := by decide +kernel
theorem dX7_canDoStep_11 : decode cX7_canDoStep 11 = .ok (.aload_n 0, 1) := by decide +kernel
theorem dX7_canDoStep_12 : decode cX7_canDoStep 12 = .ok (.getfield 29, 3) := by decide +kernel
theorem dX7_canDoStep_15 : decode cX7_canDoStep 15 = .ok (.iload_n 2, 1) := by decide +kernel
theorem dX7_canDoStep_16 : decode cX7_canDoStep 16 = .ok (.invokevirtual 372, 3) := by decide +kernel
theorem dX7_canDoStep_19 : decode cX7_canDoStep 19 = .ok (.lookupswitch 97 #[(98, 78), (114, 33), (119, 65)], 33) := by decide +kernel
theorem dX7_canDoStep_52 : decode cX7_canDoStep 52 = .ok (.aload_n 0, 1) := by decide +kernel
theorem dX7_canDoStep_53 : decode cX7_canDoStep 53 = .ok (.getfield 10, 3) := by decide +kernel
theorem dX7_canDoStep_56 : decode cX7_canDoStep 56 = .ok (.getfield 89, 3) := by decide +kernel
theorem dX7_canDoStep_59 : decode cX7_canDoStep 59 = .ok (.iload_n 3, 1) := by decide +kernel
theorem dX7_canDoStep_60 : decode cX7_canDoStep 60 = .ok (.iload_n 1, 1) := by decide +kernel
theorem dX7_canDoStep_61 : decode cX7_canDoStep 61 = .ok (.invokevirtual 384, 3) := by decide +kernel
theorem dX7_canDoStep_64 : decode cX7_canDoStep 64 = .ok (.ifCond .eq 18, 3) := by decide +kernel
theorem dX7_canDoStep_67 : decode cX7_canDoStep 67 = .ok (.aload_n 0, 1) := by decide +kernel
theorem dX7_canDoStep_68 : decode cX7_canDoStep 68 = .ok (.getfield 10, 3) := by decide +kernel
theorem dX7_canDoStep_71 : decode cX7_canDoStep 71 = .ok (.iload_n 3, 1) := by decide +kernel
theorem dX7_canDoStep_72 : decode cX7_canDoStep 72 = .ok (.invokevirtual 151, 3) := by decide +kernel
theorem dX7_canDoStep_75 : decode cX7_canDoStep 75 = .ok (.ifCond .eq 7, 3) := by decide +kernel
theorem dX7_canDoStep_78 : decode cX7_canDoStep 78 = .ok (.iconst 1, 1) := by decide +kernel
theorem dX7_canDoStep_79 : decode cX7_canDoStep 79 = .ok (.goto 4, 3) := by decide +kernel
theorem dX7_canDoStep_82 : decode cX7_canDoStep 82 = .ok (.iconst 0, 1) := by decide +kernel
theorem dX7_canDoStep_83 : decode cX7_canDoStep 83 = .ok (.ireturn, 1) := by decide +kernel
theorem dX7_canDoStep_84 : decode cX7_canDoStep 84 = .ok (.aload_n 0, 1) := by decide +kernel
theorem dX7_canDoStep_85 : decode cX7_canDoStep 85 = .ok (.getfield 10, 3) := by decide +kernel
theorem dX7_canDoStep_88 : decode cX7_canDoStep 88 = .ok (.getfield 89, 3) := by decide +kernel
theorem dX7_canDoStep_91 : decode cX7_canDoStep 91 = .ok (.iload_n 3, 1) := by decide +kernel
theorem dX7_canDoStep_92 : decode cX7_canDoStep 92 = .ok (.iload_n 1, 1) := by decide +kernel
theorem dX7_canDoStep_93 : decode cX7_canDoStep 93 = .ok (.invokevirtual 384, 3) := by decide +kernel
theorem dX7_canDoStep_96 : decode cX7_canDoStep 96 = .ok (.ireturn, 1) := by decide +kernel
theorem dX7_canDoStep_97 : decode cX7_canDoStep 97 = .ok (.aload_n 0, 1) := by decide +kernel
theorem dX7_canDoStep_98 : decode cX7_canDoStep 98 = .ok (.getfield 10, 3) := by decide +kernel
theorem dX7_canDoStep_101 : decode cX7_canDoStep 101 = .ok (.getfield 157, 3) := by decide +kernel
theorem dX7_canDoStep_104 : decode cX7_canDoStep 104 = .ok (.getfield 161, 3) := by decide +kernel
theorem dX7_canDoStep_107 : decode cX7_canDoStep 107 = .ok (.ifCond .le 7, 3) := by decide +kernel
theorem dX7_canDoStep_110 : decode cX7_canDoStep 110 = .ok (.iconst 1, 1) := by decide +kernel
theorem dX7_canDoStep_111 : decode cX7_canDoStep 111 = .ok (.goto 4, 3) := by decide +kernel
theorem dX7_canDoStep_114 : decode cX7_canDoStep 114 = .ok (.iconst 0, 1) := by decide +kernel
theorem dX7_canDoStep_115 : decode cX7_canDoStep 115 = .ok (.ireturn, 1) := by decide +kernel
theorem dX7_canDoStep_116 : decode cX7_canDoStep 116 = .ok (.aload_n 0, 1) := by decide +kernel
theorem dX7_canDoStep_117 : decode cX7_canDoStep 117 = .ok (.getfield 10, 3) := by decide +kernel
theorem dX7_canDoStep_120 : decode cX7_canDoStep 120 = .ok (.getfield 168, 3) := by decide +kernel
theorem dX7_canDoStep_123 : decode cX7_canDoStep 123 = .ok (.aload_n 0, 1) := by decide +kernel
theorem dX7_canDoStep_124 : decode cX7_canDoStep 124 = .ok (.getfield 29, 3) := by decide +kernel
theorem dX7_canDoStep_127 : decode cX7_canDoStep 127 = .ok (.iload_n 2, 1) := by decide +kernel
theorem dX7_canDoStep_128 : decode cX7_canDoStep 128 = .ok (.iconst 1, 1) := by decide +kernel
theorem dX7_canDoStep_129 : decode cX7_canDoStep 129 = .ok (.iadd, 1) := by decide +kernel
theorem dX7_canDoStep_130 : decode cX7_canDoStep 130 = .ok (.invokevirtual 387, 3) := by decide +kernel
theorem dX7_canDoStep_133 : decode cX7_canDoStep 133 = .ok (.iadd, 1) := by decide +kernel
theorem dX7_canDoStep_134 : decode cX7_canDoStep 134 = .ok (.sipush 10000, 3) := by decide +kernel
theorem dX7_canDoStep_137 : decode cX7_canDoStep 137 = .ok (.if_icmp .gt 7, 3) := by decide +kernel
theorem dX7_canDoStep_140 : decode cX7_canDoStep 140 = .ok (.iconst 1, 1) := by decide +kernel
theorem dX7_canDoStep_141 : decode cX7_canDoStep 141 = .ok (.goto 4, 3) := by decide +kernel
theorem dX7_canDoStep_144 : decode cX7_canDoStep 144 = .ok (.iconst 0, 1) := by decide +kernel
theorem dX7_canDoStep_145 : decode cX7_canDoStep 145 = .ok (.ireturn, 1) := by decide +kernel
theorem dX7_doStep_0 : decode cX7_doStep 0 = .ok (.aload_n 0, 1) := by decide +kernel
theorem dX7_doStep_1 : decode cX7_doStep 1 = .ok (.getfield 29, 3) := by decide +kernel
theorem dX7_doStep_4 : decode cX7_doStep 4 = .ok (.iload_n 1, 1) := by decide +kernel
theorem dX7_doStep_5 : decode cX7_doStep 5 = .ok (.iconst 1, 1) := by decide +kernel
theorem dX7_doStep_6 : decode cX7_doStep 6 = .ok (.iadd, 1) := by decide +kernel
theorem dX7_doStep_7 : decode cX7_doStep 7 = .ok (.invokevirtual 381, 3) := by decide +kernel
theorem dX7_doStep_10 : decode cX7_doStep 10 = .ok (.istore_n 2, 1) := by decide +kernel
theorem dX7_doStep_11 : decode cX7_doStep 11 = .ok (.aload_n 0, 1) := by decide +kernel
theorem dX7_doStep_12 : decode cX7_doStep 12 = .ok (.getfield 29, 3) := by decide +kernel
theorem dX7_doStep_15 : decode cX7_doStep 15 = .ok (.iload_n 1, 1) := by decide +kernel
theorem dX7_doStep_16 : decode cX7_doStep 16 = .ok (.invokevirtual 372, 3) := by decide +kernel
theorem dX7_doStep_19 : decode cX7_doStep 19 = .ok (.lookupswitch 87 #[(98, 76), (114, 33), (119, 45)], 33) := by decide +kernel
theorem dX7_doStep_52 : decode cX7_doStep 52 = .ok (.aload_n 0, 1) := by decide +kernel
theorem dX7_doStep_53 : decode cX7_doStep 53 = .ok (.getfield 10, 3) := by decide +kernel
theorem dX7_doStep_56 : decode cX7_doStep 56 = .ok (.iload_n 2, 1) := by decide +kernel
theorem dX7_doStep_57 : decode cX7_doStep 57 = .ok (.invokevirtual 154, 3) := by decide +kernel
theorem dX7_doStep_60 : decode cX7_doStep 60 = .ok (.pop, 1) := by decide +kernel
theorem dX7_doStep_61 : decode cX7_doStep 61 = .ok (.goto 62, 3) := by decide +kernel
theorem dX7_doStep_64 : decode cX7_doStep 64 = .ok (.aload_n 0, 1) := by decide +kernel
theorem dX7_doStep_65 : decode cX7_doStep 65 = .ok (.getfield 10, 3) := by decide +kernel
theorem dX7_doStep_68 : decode cX7_doStep 68 = .ok (.iload_n 2, 1) := by decide +kernel
theorem dX7_doStep_69 : decode cX7_doStep 69 = .ok (.aload_n 0, 1) := by decide +kernel
theorem dX7_doStep_70 : decode cX7_doStep 70 = .ok (.getfield 29, 3) := by decide +kernel
theorem dX7_doStep_73 : decode cX7_doStep 73 = .ok (.iload_n 1, 1) := by decide +kernel
theorem dX7_doStep_74 : decode cX7_doStep 74 = .ok (.iconst 4, 1) := by decide +kernel
theorem dX7_doStep_75 : decode cX7_doStep 75 = .ok (.iadd, 1) := by decide +kernel
theorem dX7_doStep_76 : decode cX7_doStep 76 = .ok (.invokevirtual 372, 3) := by decide +kernel
theorem dX7_doStep_79 : decode cX7_doStep 79 = .ok (.bipush 49, 2) := by decide +kernel
theorem dX7_doStep_81 : decode cX7_doStep 81 = .ok (.if_icmp .ne 7, 3) := by decide +kernel
theorem dX7_doStep_84 : decode cX7_doStep 84 = .ok (.iconst 1, 1) := by decide +kernel
theorem dX7_doStep_85 : decode cX7_doStep 85 = .ok (.goto 4, 3) := by decide +kernel
theorem dX7_doStep_88 : decode cX7_doStep 88 = .ok (.iconst 0, 1) := by decide +kernel
theorem dX7_doStep_89 : decode cX7_doStep 89 = .ok (.invokevirtual 144, 3) := by decide +kernel
theorem dX7_doStep_92 : decode cX7_doStep 92 = .ok (.goto 31, 3) := by decide +kernel
theorem dX7_doStep_95 : decode cX7_doStep 95 = .ok (.aload_n 0, 1) := by decide +kernel
theorem dX7_doStep_96 : decode cX7_doStep 96 = .ok (.getfield 10, 3) := by decide +kernel
theorem dX7_doStep_99 : decode cX7_doStep 99 = .ok (.invokevirtual 164, 3) := by decide +kernel
theorem dX7_doStep_102 : decode cX7_doStep 102 = .ok (.pop, 1) := by decide +kernel
theorem dX7_doStep_103 : decode cX7_doStep 103 = .ok (.goto 20, 3) := by decide +kernel
theorem dX7_doStep_106 : decode cX7_doStep 106 = .ok (.aload_n 0, 1) := by decide +kernel
theorem dX7_doStep_107 : decode cX7_doStep 107 = .ok (.getfield 10, 3) := by decide +kernel
theorem dX7_doStep_110 : decode cX7_doStep 110 = .ok (.aload_n 0, 1) := by decide +kernel
theorem dX7_doStep_111 : decode cX7_doStep 111 = .ok (.getfield 29, 3) := by decide +kernel
theorem dX7_doStep_114 : decode cX7_doStep 114 = .ok (.iload_n 1, 1) := by decide +kernel
theorem dX7_doStep_115 : decode cX7_doStep 115 = .ok (.iconst 1, 1) := by decide +kernel
theorem dX7_doStep_116 : decode cX7_doStep 116 = .ok (.iadd, 1) := by decide +kernel
theorem dX7_doStep_117 : decode cX7_doStep 117 = .ok (.invokevirtual 387, 3) := by decide +kernel
theorem dX7_doStep_120 : decode cX7_doStep 120 = .ok (.invokevirtual 171, 3) := by decide +kernel
theorem dX7_doStep_123 : decode cX7_doStep 123 = .ok (.return_, 1) := by decide +kernel
theorem dX7_within_0 : decode cX7_within 0 = .ok (.iload_n 1, 1) := by decide +kernel
theorem dX7_within_1 : decode cX7_within 1 = .ok (.iload_n 0, 1) := by decide +kernel
theorem dX7_within_2 : decode cX7_within 2 = .ok (.if_icmp .gt 12, 3) := by decide +kernel
theorem dX7_within_5 : decode cX7_within 5 = .ok (.iload_n 0, 1) := by decide +kernel
theorem dX7_within_6 : decode cX7_within 6 = .ok (.iload_n 2, 1) := by decide +kernel
theorem dX7_within_7 : decode cX7_within 7 = .ok (.if_icmp .gt 7, 3) := by decide +kernel
theorem dX7_within_10 : decode cX7_within 10 = .ok (.iconst 1, 1) := by decide +kernel
theorem dX7_within_11 : decode cX7_within 11 = .ok (.goto 4, 3) := by decide +kernel
theorem dX7_within_14 : decode cX7_within 14 = .ok (.iconst 0, 1) := by decide +kernel
theorem dX7_within_15 : decode cX7_within 15 = .ok (.ireturn, 1) := by decide +kernel
theorem dX7_isCore_0 : decode cX7_isCore 0 = .ok (.iload_n 0, 1) := by decide +kernel
theorem dX7_isCore_1 : decode cX7_isCore 1 = .ok (.iconst 0, 1) := by decide +kernel
theorem dX7_isCore_2 : decode cX7_isCore 2 = .ok (.bipush 63, 2) := by decide +kernel
theorem dX7_isCore_4 : decode cX7_isCore 4 = .ok (.invokestatic 33, 3) := by decide +kernel
theorem dX7_isCore_7 : decode cX7_isCore 7 = .ok (.ireturn, 1) := by decide +kernel
theorem dX7_requireCore_0 : decode cX7_requireCore 0 = .ok (.iload_n 0, 1) := by decide +kernel
theorem dX7_requireCore_1 : decode cX7_requireCore 1 = .ok (.invokestatic 390, 3) := by decide +kernel
theorem dX7_requireCore_4 : decode cX7_requireCore 4 = .ok (.ifCond .ne 14, 3) := by decide +kernel
theorem dX7_requireCore_7 : decode cX7_requireCore 7 = .ok (.new 393, 3) := by decide +kernel
theorem dX7_requireCore_10 : decode cX7_requireCore 10 = .ok (.dup, 1) := by decide +kernel
theorem dX7_requireCore_11 : decode cX7_requireCore 11 = .ok (.ldc_w 395, 3) := by decide +kernel
theorem dX7_requireCore_14 : decode cX7_requireCore 14 = .ok (.invokespecial 397, 3) := by decide +kernel
theorem dX7_requireCore_17 : decode cX7_requireCore 17 = .ok (.athrow, 1) := by decide +kernel
theorem dX7_requireCore_18 : decode cX7_requireCore 18 = .ok (.return_, 1) := by decide +kernel
theorem dX7_requireTenant_0 : decode cX7_requireTenant 0 = .ok (.aload_n 0, 1) := by decide +kernel
theorem dX7_requireTenant_1 : decode cX7_requireTenant 1 = .ok (.getfield 10, 3) := by decide +kernel
theorem dX7_requireTenant_4 : decode cX7_requireTenant 4 = .ok (.getfield 41, 3) := by decide +kernel
theorem dX7_requireTenant_7 : decode cX7_requireTenant 7 = .ok (.iload_n 1, 1) := by decide +kernel
theorem dX7_requireTenant_8 : decode cX7_requireTenant 8 = .ok (.invokevirtual 115, 3) := by decide +kernel
theorem dX7_requireTenant_11 : decode cX7_requireTenant 11 = .ok (.ifCond .ne 14, 3) := by decide +kernel
theorem dX7_requireTenant_14 : decode cX7_requireTenant 14 = .ok (.new 393, 3) := by decide +kernel
theorem dX7_requireTenant_17 : decode cX7_requireTenant 17 = .ok (.dup, 1) := by decide +kernel
theorem dX7_requireTenant_18 : decode cX7_requireTenant 18 = .ok (.ldc_w 400, 3) := by decide +kernel
theorem dX7_requireTenant_21 : decode cX7_requireTenant 21 = .ok (.invokespecial 397, 3) := by decide +kernel
theorem dX7_requireTenant_24 : decode cX7_requireTenant 24 = .ok (.athrow, 1) := by decide +kernel
theorem dX7_requireTenant_25 : decode cX7_requireTenant 25 = .ok (.return_, 1) := by decide +kernel
theorem dX7_requireInsurer_0 : decode cX7_requireInsurer 0 = .ok (.aload_n 0, 1) := by decide +kernel
theorem dX7_requireInsurer_1 : decode cX7_requireInsurer 1 = .ok (.getfield 10, 3) := by decide +kernel
theorem dX7_requireInsurer_4 : decode cX7_requireInsurer 4 = .ok (.getfield 62, 3) := by decide +kernel
theorem dX7_requireInsurer_7 : decode cX7_requireInsurer 7 = .ok (.iload_n 1, 1) := by decide +kernel
theorem dX7_requireInsurer_8 : decode cX7_requireInsurer 8 = .ok (.invokevirtual 402, 3) := by decide +kernel
theorem dX7_requireInsurer_11 : decode cX7_requireInsurer 11 = .ok (.ifCond .ne 14, 3) := by decide +kernel
theorem dX7_requireInsurer_14 : decode cX7_requireInsurer 14 = .ok (.new 393, 3) := by decide +kernel
theorem dX7_requireInsurer_17 : decode cX7_requireInsurer 17 = .ok (.dup, 1) := by decide +kernel
theorem dX7_requireInsurer_18 : decode cX7_requireInsurer 18 = .ok (.ldc_w 403, 3) := by decide +kernel
theorem dX7_requireInsurer_21 : decode cX7_requireInsurer 21 = .ok (.invokespecial 397, 3) := by decide +kernel
theorem dX7_requireInsurer_24 : decode cX7_requireInsurer 24 = .ok (.athrow, 1) := by decide +kernel
theorem dX7_requireInsurer_25 : decode cX7_requireInsurer 25 = .ok (.return_, 1) := by decide +kernel
theorem dX7_requireSetting_0 : decode cX7_requireSetting 0 = .ok (.iload_n 0, 1) := by decide +kernel
theorem dX7_requireSetting_1 : decode cX7_requireSetting 1 = .ok (.iconst 0, 1) := by decide +kernel
theorem dX7_requireSetting_2 : decode cX7_requireSetting 2 = .ok (.bipush 7, 2) := by decide +kernel
theorem dX7_requireSetting_4 : decode cX7_requireSetting 4 = .ok (.invokestatic 33, 3) := by decide +kernel
theorem dX7_requireSetting_7 : decode cX7_requireSetting 7 = .ok (.ifCond .ne 14, 3) := by decide +kernel
theorem dX7_requireSetting_10 : decode cX7_requireSetting 10 = .ok (.new 393, 3) := by decide +kernel
theorem dX7_requireSetting_13 : decode cX7_requireSetting 13 = .ok (.dup, 1) := by decide +kernel
theorem dX7_requireSetting_14 : decode cX7_requireSetting 14 = .ok (.ldc_w 405, 3) := by decide +kernel
theorem dX7_requireSetting_17 : decode cX7_requireSetting 17 = .ok (.invokespecial 397, 3) := by decide +kernel
theorem dX7_requireSetting_20 : decode cX7_requireSetting 20 = .ok (.athrow, 1) := by decide +kernel
theorem dX7_requireSetting_21 : decode cX7_requireSetting 21 = .ok (.return_, 1) := by decide +kernel
theorem dX7_requireArgument_0 : decode cX7_requireArgument 0 = .ok (.iload_n 0, 1) := by decide +kernel
theorem dX7_requireArgument_1 : decode cX7_requireArgument 1 = .ok (.ifCond .ne 14, 3) := by decide +kernel
theorem dX7_requireArgument_4 : decode cX7_requireArgument 4 = .ok (.new 407, 3) := by decide +kernel
theorem dX7_requireArgument_7 : decode cX7_requireArgument 7 = .ok (.dup, 1) := by decide +kernel
theorem dX7_requireArgument_8 : decode cX7_requireArgument 8 = .ok (.ldc_w 409, 3) := by decide +kernel
theorem dX7_requireArgument_11 : decode cX7_requireArgument 11 = .ok (.invokespecial 411, 3) := by decide +kernel
theorem dX7_requireArgument_14 : decode cX7_requireArgument 14 = .ok (.athrow, 1) := by decide +kernel
theorem dX7_requireArgument_15 : decode cX7_requireArgument 15 = .ok (.return_, 1) := by decide +kernel
theorem dX7_requireState_0 : decode cX7_requireState 0 = .ok (.iload_n 0, 1) := by decide +kernel
theorem dX7_requireState_1 : decode cX7_requireState 1 = .ok (.ifCond .ne 14, 3) := by decide +kernel
theorem dX7_requireState_4 : decode cX7_requireState 4 = .ok (.new 412, 3) := by decide +kernel
theorem dX7_requireState_7 : decode cX7_requireState 7 = .ok (.dup, 1) := by decide +kernel
theorem dX7_requireState_8 : decode cX7_requireState 8 = .ok (.ldc_w 414, 3) := by decide +kernel
theorem dX7_requireState_11 : decode cX7_requireState 11 = .ok (.invokespecial 416, 3) := by decide +kernel
theorem dX7_requireState_14 : decode cX7_requireState 14 = .ok (.athrow, 1) := by decide +kernel
theorem dX7_requireState_15 : decode cX7_requireState 15 = .ok (.return_, 1) := by decide +kernel
theorem dX7_maskOf_0 : decode cX7_maskOf 0 = .ok (.lconst 1, 1) := by decide +kernel
theorem dX7_maskOf_1 : decode cX7_maskOf 1 = .ok (.iload_n 0, 1) := by decide +kernel
theorem dX7_maskOf_2 : decode cX7_maskOf 2 = .ok (.lshl, 1) := by decide +kernel
theorem dX7_maskOf_3 : decode cX7_maskOf 3 = .ok (.lreturn, 1) := by decide +kernel
theorem dX7_linesOf_0 : decode cX7_linesOf 0 = .ok (.ldc2_w 417, 3) := by decide +kernel
theorem dX7_linesOf_3 : decode cX7_linesOf 3 = .ok (.iload_n 0, 1) := by decide +kernel
theorem dX7_linesOf_4 : decode cX7_linesOf 4 = .ok (.bipush 8, 2) := by decide +kernel
theorem dX7_linesOf_6 : decode cX7_linesOf 6 = .ok (.idiv, 1) := by decide +kernel
theorem dX7_linesOf_7 : decode cX7_linesOf 7 = .ok (.bipush 8, 2) := by decide +kernel
theorem dX7_linesOf_9 : decode cX7_linesOf 9 = .ok (.imul, 1) := by decide +kernel
theorem dX7_linesOf_10 : decode cX7_linesOf 10 = .ok (.lshl, 1) := by decide +kernel
theorem dX7_linesOf_11 : decode cX7_linesOf 11 = .ok (.lstore_n 1, 1) := by decide +kernel
theorem dX7_linesOf_12 : decode cX7_linesOf 12 = .ok (.ldc2_w 419, 3) := by decide +kernel
theorem dX7_linesOf_15 : decode cX7_linesOf 15 = .ok (.iload_n 0, 1) := by decide +kernel
theorem dX7_linesOf_16 : decode cX7_linesOf 16 = .ok (.bipush 8, 2) := by decide +kernel
theorem dX7_linesOf_18 : decode cX7_linesOf 18 = .ok (.irem, 1) := by decide +kernel
theorem dX7_linesOf_19 : decode cX7_linesOf 19 = .ok (.lshl, 1) := by decide +kernel
theorem dX7_linesOf_20 : decode cX7_linesOf 20 = .ok (.lstore_n 3, 1) := by decide +kernel
theorem dX7_linesOf_21 : decode cX7_linesOf 21 = .ok (.lload_n 1, 1) := by decide +kernel
theorem dX7_linesOf_22 : decode cX7_linesOf 22 = .ok (.lload_n 3, 1) := by decide +kernel
theorem dX7_linesOf_23 : decode cX7_linesOf 23 = .ok (.lor, 1) := by decide +kernel
theorem dX7_linesOf_24 : decode cX7_linesOf 24 = .ok (.iload_n 0, 1) := by decide +kernel
theorem dX7_linesOf_25 : decode cX7_linesOf 25 = .ok (.invokestatic 421, 3) := by decide +kernel
theorem dX7_linesOf_28 : decode cX7_linesOf 28 = .ok (.ldc2_w 424, 3) := by decide +kernel
theorem dX7_linesOf_31 : decode cX7_linesOf 31 = .ok (.lxor, 1) := by decide +kernel
theorem dX7_linesOf_32 : decode cX7_linesOf 32 = .ok (.land, 1) := by decide +kernel
theorem dX7_linesOf_33 : decode cX7_linesOf 33 = .ok (.lreturn, 1) := by decide +kernel
theorem dX7_copyRow_0 : decode cX7_copyRow 0 = .ok (.aload_n 0, 1) := by decide +kernel
theorem dX7_copyRow_1 : decode cX7_copyRow 1 = .ok (.iconst 0, 1) := by decide +kernel
theorem dX7_copyRow_2 : decode cX7_copyRow 2 = .ok (.aload_n 1, 1) := by decide +kernel
theorem dX7_copyRow_3 : decode cX7_copyRow 3 = .ok (.iconst 0, 1) := by decide +kernel
theorem dX7_copyRow_4 : decode cX7_copyRow 4 = .ok (.aload_n 0, 1) := by decide +kernel
theorem dX7_copyRow_5 : decode cX7_copyRow 5 = .ok (.arraylength, 1) := by decide +kernel
theorem dX7_copyRow_6 : decode cX7_copyRow 6 = .ok (.aload_n 1, 1) := by decide +kernel
theorem dX7_copyRow_7 : decode cX7_copyRow 7 = .ok (.arraylength, 1) := by decide +kernel
theorem dX7_copyRow_8 : decode cX7_copyRow 8 = .ok (.invokestatic 426, 3) := by decide +kernel
theorem dX7_copyRow_11 : decode cX7_copyRow 11 = .ok (.invokestatic 429, 3) := by decide +kernel
theorem dX7_copyRow_14 : decode cX7_copyRow 14 = .ok (.return_, 1) := by decide +kernel
theorem dX8_init_0 : decode cX8_init 0 = .ok (.aload_n 0, 1) := by decide +kernel
theorem dX8_init_1 : decode cX8_init 1 = .ok (.invokespecial 1, 3) := by decide +kernel
theorem dX8_init_4 : decode cX8_init 4 = .ok (.aload_n 0, 1) := by decide +kernel
theorem dX8_init_5 : decode cX8_init 5 = .ok (.sipush 2195, 3) := by decide +kernel
theorem dX8_init_8 : decode cX8_init 8 = .ok (.newarray .int, 2) := by decide +kernel
theorem dX8_init_10 : decode cX8_init 10 = .ok (.putfield 7, 3) := by decide +kernel
theorem dX8_init_13 : decode cX8_init 13 = .ok (.aload_n 0, 1) := by decide +kernel
theorem dX8_init_14 : decode cX8_init 14 = .ok (.sipush 2195, 3) := by decide +kernel
theorem dX8_init_17 : decode cX8_init 17 = .ok (.newarray .int, 2) := by decide +kernel
theorem dX8_init_19 : decode cX8_init 19 = .ok (.putfield 13, 3) := by decide +kernel
theorem dX8_init_22 : decode cX8_init 22 = .ok (.aload_n 0, 1) := by decide +kernel
theorem dX8_init_23 : decode cX8_init 23 = .ok (.sipush 13170, 3) := by decide +kernel
theorem dX8_init_26 : decode cX8_init 26 = .ok (.newarray .int, 2) := by decide +kernel
theorem dX8_init_28 : decode cX8_init 28 = .ok (.putfield 16, 3) := by decide +kernel
theorem dX8_init_31 : decode cX8_init 31 = .ok (.aload_n 0, 1) := by decide +kernel
theorem dX8_init_32 : decode cX8_init 32 = .ok (.bipush 60, 2) := by decide +kernel
theorem dX8_init_34 : decode cX8_init 34 = .ok (.newarray .int, 2) := by decide +kernel
theorem dX8_init_36 : decode cX8_init 36 = .ok (.putfield 19, 3) := by decide +kernel
theorem dX8_init_39 : decode cX8_init 39 = .ok (.aload_n 0, 1) := by decide +kernel
theorem dX8_init_40 : decode cX8_init 40 = .ok (.bipush 32, 2) := by decide +kernel
theorem dX8_init_42 : decode cX8_init 42 = .ok (.newarray .int, 2) := by decide +kernel
theorem dX8_init_44 : decode cX8_init 44 = .ok (.putfield 22, 3) := by decide +kernel
theorem dX8_init_47 : decode cX8_init 47 = .ok (.aload_n 0, 1) := by decide +kernel
theorem dX8_init_48 : decode cX8_init 48 = .ok (.bipush 32, 2) := by decide +kernel
theorem dX8_init_50 : decode cX8_init 50 = .ok (.newarray .int, 2) := by decide +kernel
theorem dX8_init_52 : decode cX8_init 52 = .ok (.putfield 25, 3) := by decide +kernel
theorem dX8_init_55 : decode cX8_init 55 = .ok (.aload_n 0, 1) := by decide +kernel
theorem dX8_init_56 : decode cX8_init 56 = .ok (.bipush 32, 2) := by decide +kernel
theorem dX8_init_58 : decode cX8_init 58 = .ok (.newarray .int, 2) := by decide +kernel
theorem dX8_init_60 : decode cX8_init 60 = .ok (.putfield 28, 3) := by decide +kernel
theorem dX8_init_63 : decode cX8_init 63 = .ok (.aload_n 0, 1) := by decide +kernel
theorem dX8_init_64 : decode cX8_init 64 = .ok (.bipush 64, 2) := by decide +kernel
theorem dX8_init_66 : decode cX8_init 66 = .ok (.newarray .int, 2) := by decide +kernel
theorem dX8_init_68 : decode cX8_init 68 = .ok (.putfield 31, 3) := by decide +kernel
theorem dX8_init_71 : decode cX8_init 71 = .ok (.aload_n 0, 1) := by decide +kernel
theorem dX8_init_72 : decode cX8_init 72 = .ok (.getfield 7, 3) := by decide +kernel
theorem dX8_init_75 : decode cX8_init 75 = .ok (.bipush 15, 2) := by decide +kernel
theorem dX8_init_77 : decode cX8_init 77 = .ok (.iconst 2, 1) := by decide +kernel
theorem dX8_init_78 : decode cX8_init 78 = .ok (.iastore, 1) := by decide +kernel
theorem dX8_init_79 : decode cX8_init 79 = .ok (.aload_n 0, 1) := by decide +kernel
theorem dX8_init_80 : decode cX8_init 80 = .ok (.getfield 7, 3) := by decide +kernel
theorem dX8_init_83 : decode cX8_init 83 = .ok (.bipush 16, 2) := by decide +kernel
theorem dX8_init_85 : decode cX8_init 85 = .ok (.iconst 4, 1) := by decide +kernel
theorem dX8_init_86 : decode cX8_init 86 = .ok (.iastore, 1) := by decide +kernel
theorem dX8_init_87 : decode cX8_init 87 = .ok (.aload_n 0, 1) := by decide +kernel
theorem dX8_init_88 : decode cX8_init 88 = .ok (.getfield 7, 3) := by decide +kernel
theorem dX8_init_91 : decode cX8_init 91 = .ok (.bipush 17, 2) := by decide +kernel
theorem dX8_init_93 : decode cX8_init 93 = .ok (.iconst 3, 1) := by decide +kernel
theorem dX8_init_94 : decode cX8_init 94 = .ok (.iastore, 1) := by decide +kernel
theorem dX8_init_95 : decode cX8_init 95 = .ok (.aload_n 0, 1) := by decide +kernel
theorem dX8_init_96 : decode cX8_init 96 = .ok (.getfield 7, 3) := by decide +kernel
theorem dX8_init_99 : decode cX8_init 99 = .ok (.bipush 18, 2) := by decide +kernel
theorem dX8_init_101 : decode cX8_init 101 = .ok (.iconst 5, 1) := by decide +kernel
theorem dX8_init_102 : decode cX8_init 102 = .ok (.iastore, 1) := by decide +kernel
theorem dX8_init_103 : decode cX8_init 103 = .ok (.aload_n 0, 1) := by decide +kernel
theorem dX8_init_104 : decode cX8_init 104 = .ok (.getfield 7, 3) := by decide +kernel
theorem dX8_init_107 : decode cX8_init 107 = .ok (.bipush 19, 2) := by decide +kernel
theorem dX8_init_109 : decode cX8_init 109 = .ok (.bipush 20, 2) := by decide +kernel
theorem dX8_init_111 : decode cX8_init 111 = .ok (.iastore, 1) := by decide +kernel
theorem dX8_init_112 : decode cX8_init 112 = .ok (.aload_n 0, 1) := by decide +kernel
theorem dX8_init_113 : decode cX8_init 113 = .ok (.getfield 7, 3) := by decide +kernel
theorem dX8_init_116 : decode cX8_init 116 = .ok (.bipush 20, 2) := by decide +kernel
theorem dX8_init_118 : decode cX8_init 118 = .ok (.bipush 60, 2) := by decide +kernel
theorem dX8_init_120 : decode cX8_init 120 = .ok (.iastore, 1) := by decide +kernel
theorem dX8_init_121 : decode cX8_init 121 = .ok (.aload_n 0, 1) := by decide +kernel
theorem dX8_init_122 : decode cX8_init 122 = .ok (.getfield 7, 3) := by decide +kernel
theorem dX8_init_125 : decode cX8_init 125 = .ok (.bipush 21, 2) := by decide +kernel
theorem dX8_init_127 : decode cX8_init 127 = .ok (.iconst 2, 1) := by decide +kernel
theorem dX8_init_128 : decode cX8_init 128 = .ok (.iastore, 1) := by decide +kernel
theorem dX8_init_129 : decode cX8_init 129 = .ok (.aload_n 0, 1) := by decide +kernel
theorem dX8_init_130 : decode cX8_init 130 = .ok (.getfield 7, 3) := by decide +kernel
theorem dX8_init_133 : decode cX8_init 133 = .ok (.bipush 22, 2) := by decide +kernel
theorem dX8_init_135 : decode cX8_init 135 = .ok (.bipush 10, 2) := by decide +kernel
theorem dX8_init_137 : decode cX8_init 137 = .ok (.iastore, 1) := by decide +kernel
theorem dX8_init_138 : decode cX8_init 138 = .ok (.iconst 0, 1) := by decide +kernel
theorem dX8_init_139 : decode cX8_init 139 = .ok (.istore_n 1, 1) := by decide +kernel
theorem dX8_init_140 : decode cX8_init 140 = .ok (.iload_n 1, 1) := by decide +kernel
theorem dX8_init_141 : decode cX8_init 141 = .ok (.bipush 64, 2) := by decide +kernel
theorem dX8_init_143 : decode cX8_init 143 = .ok (.if_icmp .ge 17, 3) := by decide +kernel
theorem dX8_init_146 : decode cX8_init 146 = .ok (.aload_n 0, 1) := by decide +kernel
theorem dX8_init_147 : decode cX8_init 147 = .ok (.iload_n 1, 1) := by decide +kernel
theorem dX8_init_148 : decode cX8_init 148 = .ok (.iconst 1, 1) := by decide +kernel
theorem dX8_init_149 : decode cX8_init 149 = .ok (.bipush 100, 2) := by decide +kernel
theorem dX8_init_151 : decode cX8_init 151 = .ok (.invokevirtual 34, 3) := by decide +kernel
theorem dX8_init_154 : decode cX8_init 154 = .ok (.iinc 1 1, 3) := by decide +kernel
theorem dX8_init_157 : decode cX8_init 157 = .ok (.goto (-17), 3) := by decide +kernel
theorem dX8_init_160 : decode cX8_init 160 = .ok (.return_, 1) := by decide +kernel
theorem dX8_thrown_0 : decode cX8_thrown 0 = .ok (.aload_n 0, 1) := by decide +kernel
theorem dX8_thrown_1 : decode cX8_thrown 1 = .ok (.getfield 38, 3) := by decide +kernel
theorem dX8_thrown_4 : decode cX8_thrown 4 = .ok (.ireturn, 1) := by decide +kernel
theorem dX8_fails_0 : decode cX8_fails 0 = .ok (.aload_n 0, 1) := by decide +kernel
theorem dX8_fails_1 : decode cX8_fails 1 = .ok (.iload_n 1, 1) := by decide +kernel
theorem dX8_fails_2 : decode cX8_fails 2 = .ok (.putfield 38, 3) := by decide +kernel
theorem dX8_fails_5 : decode cX8_fails 5 = .ok (.iconst 0, 1) := by decide +kernel
theorem dX8_fails_6 : decode cX8_fails 6 = .ok (.ireturn, 1) := by decide +kernel
theorem dX8_within_0 : decode cX8_within 0 = .ok (.iload_n 0, 1) := by decide +kernel
theorem dX8_within_1 : decode cX8_within 1 = .ok (.iload_n 1, 1) := by decide +kernel
theorem dX8_within_2 : decode cX8_within 2 = .ok (.if_icmp .lt 12, 3) := by decide +kernel
theorem dX8_within_5 : decode cX8_within 5 = .ok (.iload_n 0, 1) := by decide +kernel
theorem dX8_within_6 : decode cX8_within 6 = .ok (.iload_n 2, 1) := by decide +kernel
theorem dX8_within_7 : decode cX8_within 7 = .ok (.if_icmp .gt 7, 3) := by decide +kernel
theorem dX8_within_10 : decode cX8_within 10 = .ok (.iconst 1, 1) := by decide +kernel
theorem dX8_within_11 : decode cX8_within 11 = .ok (.goto 4, 3) := by decide +kernel
theorem dX8_within_14 : decode cX8_within 14 = .ok (.iconst 0, 1) := by decide +kernel
theorem dX8_within_15 : decode cX8_within 15 = .ok (.ireturn, 1) := by decide +kernel
theorem dX8_less_0 : decode cX8_less 0 = .ok (.iload_n 0, 1) := by decide +kernel
theorem dX8_less_1 : decode cX8_less 1 = .ok (.iload_n 1, 1) := by decide +kernel
theorem dX8_less_2 : decode cX8_less 2 = .ok (.if_icmp .ge 7, 3) := by decide +kernel
theorem dX8_less_5 : decode cX8_less 5 = .ok (.iload_n 0, 1) := by decide +kernel
theorem dX8_less_6 : decode cX8_less 6 = .ok (.goto 4, 3) := by decide +kernel
theorem dX8_less_9 : decode cX8_less 9 = .ok (.iload_n 1, 1) := by decide +kernel
theorem dX8_less_10 : decode cX8_less 10 = .ok (.ireturn, 1) := by decide +kernel
theorem dX8_notBelow_0 : decode cX8_notBelow 0 = .ok (.iload_n 0, 1) := by decide +kernel
theorem dX8_notBelow_1 : decode cX8_notBelow 1 = .ok (.ifCond .ge 7, 3) := by decide +kernel
theorem dX8_notBelow_4 : decode cX8_notBelow 4 = .ok (.iconst 0, 1) := by decide +kernel
theorem dX8_notBelow_5 : decode cX8_notBelow 5 = .ok (.goto 4, 3) := by decide +kernel
theorem dX8_notBelow_8 : decode cX8_notBelow 8 = .ok (.iload_n 0, 1) := by decide +kernel
theorem dX8_notBelow_9 : decode cX8_notBelow 9 = .ok (.ireturn, 1) := by decide +kernel
theorem dX8_isCore_0 : decode cX8_isCore 0 = .ok (.iload_n 0, 1) := by decide +kernel
theorem dX8_isCore_1 : decode cX8_isCore 1 = .ok (.iconst 0, 1) := by decide +kernel
theorem dX8_isCore_2 : decode cX8_isCore 2 = .ok (.bipush 63, 2) := by decide +kernel
theorem dX8_isCore_4 : decode cX8_isCore 4 = .ok (.invokestatic 42, 3) := by decide +kernel
theorem dX8_isCore_7 : decode cX8_isCore 7 = .ok (.ireturn, 1) := by decide +kernel
theorem dX8_isTenant_0 : decode cX8_isTenant 0 = .ok (.iload_n 1, 1) := by decide +kernel
theorem dX8_isTenant_1 : decode cX8_isTenant 1 = .ok (.iconst 0, 1) := by decide +kernel
theorem dX8_isTenant_2 : decode cX8_isTenant 2 = .ok (.aload_n 0, 1) := by decide +kernel
theorem dX8_isTenant_3 : decode cX8_isTenant 3 = .ok (.getfield 7, 3) := by decide +kernel
theorem dX8_isTenant_6 : decode cX8_isTenant 6 = .ok (.iconst 2, 1) := by decide +kernel
theorem dX8_isTenant_7 : decode cX8_isTenant 7 = .ok (.iaload, 1) := by decide +kernel
theorem dX8_isTenant_8 : decode cX8_isTenant 8 = .ok (.iconst 1, 1) := by decide +kernel
theorem dX8_isTenant_9 : decode cX8_isTenant 9 = .ok (.isub, 1) := by decide +kernel
theorem dX8_isTenant_10 : decode cX8_isTenant 10 = .ok (.invokestatic 42, 3) := by decide +kernel
theorem dX8_isTenant_13 : decode cX8_isTenant 13 = .ok (.ireturn, 1) := by decide +kernel
theorem dX8_isInsurer_0 : decode cX8_isInsurer 0 = .ok (.iload_n 1, 1) := by decide +kernel
theorem dX8_isInsurer_1 : decode cX8_isInsurer 1 = .ok (.iconst 0, 1) := by decide +kernel
theorem dX8_isInsurer_2 : decode cX8_isInsurer 2 = .ok (.aload_n 0, 1) := by decide +kernel
theorem dX8_isInsurer_3 : decode cX8_isInsurer 3 = .ok (.getfield 7, 3) := by decide +kernel
theorem dX8_isInsurer_6 : decode cX8_isInsurer 6 = .ok (.iconst 3, 1) := by decide +kernel
theorem dX8_isInsurer_7 : decode cX8_isInsurer 7 = .ok (.iaload, 1) := by decide +kernel
theorem dX8_isInsurer_8 : decode cX8_isInsurer 8 = .ok (.iconst 1, 1) := by decide +kernel
theorem dX8_isInsurer_9 : decode cX8_isInsurer 9 = .ok (.isub, 1) := by decide +kernel
theorem dX8_isInsurer_10 : decode cX8_isInsurer 10 = .ok (.invokestatic 42, 3) := by decide +kernel
theorem dX8_isInsurer_13 : decode cX8_isInsurer 13 = .ok (.ireturn, 1) := by decide +kernel
theorem dX8_of_0 : decode cX8_of 0 = .ok (.aload_n 0, 1) := by decide +kernel
theorem dX8_of_1 : decode cX8_of 1 = .ok (.getfield 7, 3) := by decide +kernel
theorem dX8_of_4 : decode cX8_of 4 = .ok (.bipush 59, 2) := by decide +kernel
theorem dX8_of_6 : decode cX8_of 6 = .ok (.bipush 9, 2) := by decide +kernel
theorem dX8_of_8 : decode cX8_of 8 = .ok (.iload_n 1, 1) := by decide +kernel
theorem dX8_of_9 : decode cX8_of 9 = .ok (.imul, 1) := by decide +kernel
theorem dX8_of_10 : decode cX8_of 10 = .ok (.iadd, 1) := by decide +kernel
theorem dX8_of_11 : decode cX8_of 11 = .ok (.iload_n 2, 1) := by decide +kernel
theorem dX8_of_12 : decode cX8_of 12 = .ok (.iadd, 1) := by decide +kernel
theorem dX8_of_13 : decode cX8_of 13 = .ok (.iaload, 1) := by decide +kernel
theorem dX8_of_14 : decode cX8_of 14 = .ok (.ireturn, 1) := by decide +kernel
theorem dX8_lay_0 : decode cX8_lay 0 = .ok (.aload_n 0, 1) := by decide +kernel
theorem dX8_lay_1 : decode cX8_lay 1 = .ok (.getfield 7, 3) := by decide +kernel
theorem dX8_lay_4 : decode cX8_lay 4 = .ok (.bipush 59, 2) := by decide +kernel
theorem dX8_lay_6 : decode cX8_lay 6 = .ok (.bipush 9, 2) := by decide +kernel
theorem dX8_lay_8 : decode cX8_lay 8 = .ok (.iload_n 1, 1) := by decide +kernel
theorem dX8_lay_9 : decode cX8_lay 9 = .ok (.imul, 1) := by decide +kernel
theorem dX8_lay_10 : decode cX8_lay 10 = .ok (.iadd, 1) := by decide +kernel
theorem dX8_lay_11 : decode cX8_lay 11 = .ok (.iload_n 2, 1) := by decide +kernel
theorem dX8_lay_12 : decode cX8_lay 12 = .ok (.iadd, 1) := by decide +kernel
theorem dX8_lay_13 : decode cX8_lay 13 = .ok (.iload_n 3, 1) := by decide +kernel
theorem dX8_lay_14 : decode cX8_lay 14 = .ok (.iastore, 1) := by decide +kernel
theorem dX8_lay_15 : decode cX8_lay 15 = .ok (.return_, 1) := by decide +kernel
theorem dX8_ofTenant_0 : decode cX8_ofTenant 0 = .ok (.aload_n 0, 1) := by decide +kernel
theorem dX8_ofTenant_1 : decode cX8_ofTenant 1 = .ok (.getfield 7, 3) := by decide +kernel
theorem dX8_ofTenant_4 : decode cX8_ofTenant 4 = .ok (.bipush 23, 2) := by decide +kernel
theorem dX8_ofTenant_6 : decode cX8_ofTenant 6 = .ok (.iconst 3, 1) := by decide +kernel
theorem dX8_ofTenant_7 : decode cX8_ofTenant 7 = .ok (.iload_n 1, 1) := by decide +kernel
theorem dX8_ofTenant_8 : decode cX8_ofTenant 8 = .ok (.imul, 1) := by decide +kernel
theorem dX8_ofTenant_9 : decode cX8_ofTenant 9 = .ok (.iadd, 1) := by decide +kernel
theorem dX8_ofTenant_10 : decode cX8_ofTenant 10 = .ok (.iload_n 2, 1) := by decide +kernel
theorem dX8_ofTenant_11 : decode cX8_ofTenant 11 = .ok (.iadd, 1) := by decide +kernel
theorem dX8_ofTenant_12 : decode cX8_ofTenant 12 = .ok (.iaload, 1) := by decide +kernel
theorem dX8_ofTenant_13 : decode cX8_ofTenant 13 = .ok (.ireturn, 1) := by decide +kernel
theorem dX8_ofInsurer_0 : decode cX8_ofInsurer 0 = .ok (.aload_n 0, 1) := by decide +kernel
theorem dX8_ofInsurer_1 : decode cX8_ofInsurer 1 = .ok (.getfield 7, 3) := by decide +kernel
theorem dX8_ofInsurer_4 : decode cX8_ofInsurer 4 = .ok (.bipush 41, 2) := by decide +kernel
theorem dX8_ofInsurer_6 : decode cX8_ofInsurer 6 = .ok (.bipush 6, 2) := by decide +kernel
theorem dX8_ofInsurer_8 : decode cX8_ofInsurer 8 = .ok (.iload_n 1, 1) := by decide +kernel
theorem dX8_ofInsurer_9 : decode cX8_ofInsurer 9 = .ok (.imul, 1) := by decide +kernel
theorem dX8_ofInsurer_10 : decode cX8_ofInsurer 10 = .ok (.iadd, 1) := by decide +kernel
theorem dX8_ofInsurer_11 : decode cX8_ofInsurer 11 = .ok (.iload_n 2, 1) := by decide +kernel
theorem dX8_ofInsurer_12 : decode cX8_ofInsurer 12 = .ok (.iadd, 1) := by decide +kernel
theorem dX8_ofInsurer_13 : decode cX8_ofInsurer 13 = .ok (.iaload, 1) := by decide +kernel
theorem dX8_ofInsurer_14 : decode cX8_ofInsurer 14 = .ok (.ireturn, 1) := by decide +kernel
theorem dX8_rule_0 : decode cX8_rule 0 = .ok (.aload_n 0, 1) := by decide +kernel
theorem dX8_rule_1 : decode cX8_rule 1 = .ok (.getfield 7, 3) := by decide +kernel
theorem dX8_rule_4 : decode cX8_rule 4 = .ok (.bipush 15, 2) := by decide +kernel
theorem dX8_rule_6 : decode cX8_rule 6 = .ok (.iload_n 1, 1) := by decide +kernel
theorem dX8_rule_7 : decode cX8_rule 7 = .ok (.iadd, 1) := by decide +kernel
theorem dX8_rule_8 : decode cX8_rule 8 = .ok (.iaload, 1) := by decide +kernel
theorem dX8_rule_9 : decode cX8_rule 9 = .ok (.ireturn, 1) := by decide +kernel
theorem dX8_save_0 : decode cX8_save 0 = .ok (.aload_n 0, 1) := by decide +kernel
theorem dX8_save_1 : decode cX8_save 1 = .ok (.getfield 46, 3) := by decide +kernel
theorem dX8_save_4 : decode cX8_save 4 = .ok (.bipush 6, 2) := by decide +kernel
theorem dX8_save_6 : decode cX8_save 6 = .ok (.if_icmp .ne 44, 3) := by decide +kernel
theorem dX8_save_9 : decode cX8_save 9 = .ok (.iconst 0, 1) := by decide +kernel
theorem dX8_save_10 : decode cX8_save 10 = .ok (.istore_n 1, 1) := by decide +kernel
theorem dX8_save_11 : decode cX8_save 11 = .ok (.iload_n 1, 1) := by decide +kernel
theorem dX8_save_12 : decode cX8_save 12 = .ok (.sipush 10975, 3) := by decide +kernel
theorem dX8_save_15 : decode cX8_save 15 = .ok (.if_icmp .ge 25, 3) := by decide +kernel
theorem dX8_save_18 : decode cX8_save 18 = .ok (.aload_n 0, 1) := by decide +kernel
theorem dX8_save_19 : decode cX8_save 19 = .ok (.getfield 16, 3) := by decide +kernel
theorem dX8_save_22 : decode cX8_save 22 = .ok (.iload_n 1, 1) := by decide +kernel
theorem dX8_save_23 : decode cX8_save 23 = .ok (.aload_n 0, 1) := by decide +kernel
theorem dX8_save_24 : decode cX8_save 24 = .ok (.getfield 16, 3) := by decide +kernel
theorem dX8_save_27 : decode cX8_save 27 = .ok (.sipush 2195, 3) := by decide +kernel
theorem dX8_save_30 : decode cX8_save 30 = .ok (.iload_n 1, 1) := by decide +kernel
theorem dX8_save_31 : decode cX8_save 31 = .ok (.iadd, 1) := by decide +kernel
theorem dX8_save_32 : decode cX8_save 32 = .ok (.iaload, 1) := by decide +kernel
theorem dX8_save_33 : decode cX8_save 33 = .ok (.iastore, 1) := by decide +kernel
theorem dX8_save_34 : decode cX8_save 34 = .ok (.iinc 1 1, 3) := by decide +kernel
theorem dX8_save_37 : decode cX8_save 37 = .ok (.goto (-26), 3) := by decide +kernel
theorem dX8_save_40 : decode cX8_save 40 = .ok (.aload_n 0, 1) := by decide +kernel
theorem dX8_save_41 : decode cX8_save 41 = .ok (.dup, 1) := by decide +kernel
theorem dX8_save_42 : decode cX8_save 42 = .ok (.getfield 46, 3) := by decide +kernel
theorem dX8_save_45 : decode cX8_save 45 = .ok (.iconst 1, 1) := by decide +kernel
theorem dX8_save_46 : decode cX8_save 46 = .ok (.isub, 1) := by decide +kernel
theorem dX8_save_47 : decode cX8_save 47 = .ok (.putfield 46, 3) := by decide +kernel
theorem dX8_save_50 : decode cX8_save 50 = .ok (.iconst 0, 1) := by decide +kernel
theorem dX8_save_51 : decode cX8_save 51 = .ok (.istore_n 1, 1) := by decide +kernel
theorem dX8_save_52 : decode cX8_save 52 = .ok (.iload_n 1, 1) := by decide +kernel
theorem dX8_save_53 : decode cX8_save 53 = .ok (.sipush 2195, 3) := by decide +kernel
theorem dX8_save_56 : decode cX8_save 56 = .ok (.if_icmp .ge 30, 3) := by decide +kernel
theorem dX8_save_59 : decode cX8_save 59 = .ok (.aload_n 0, 1) := by decide +kernel
theorem dX8_save_60 : decode cX8_save 60 = .ok (.getfield 16, 3) := by decide +kernel
theorem dX8_save_63 : decode cX8_save 63 = .ok (.sipush 2195, 3) := by decide +kernel
theorem dX8_save_66 : decode cX8_save 66 = .ok (.aload_n 0, 1) := by decide +kernel
theorem dX8_save_67 : decode cX8_save 67 = .ok (.getfield 46, 3) := by decide +kernel
theorem dX8_save_70 : decode cX8_save 70 = .ok (.imul, 1) := by decide +kernel
theorem dX8_save_71 : decode cX8_save 71 = .ok (.iload_n 1, 1) := by decide +kernel
theorem dX8_save_72 : decode cX8_save 72 = .ok (.iadd, 1) := by decide +kernel
theorem dX8_save_73 : decode cX8_save 73 = .ok (.aload_n 0, 1) := by decide +kernel
theorem dX8_save_74 : decode cX8_save 74 = .ok (.getfield 7, 3) := by decide +kernel
theorem dX8_save_77 : decode cX8_save 77 = .ok (.iload_n 1, 1) := by decide +kernel
theorem dX8_save_78 : decode cX8_save 78 = .ok (.iaload, 1) := by decide +kernel
theorem dX8_save_79 : decode cX8_save 79 = .ok (.iastore, 1) := by decide +kernel
theorem dX8_save_80 : decode cX8_save 80 = .ok (.iinc 1 1, 3) := by decide +kernel
theorem dX8_save_83 : decode cX8_save 83 = .ok (.goto (-31), 3) := by decide +kernel
theorem dX8_save_86 : decode cX8_save 86 = .ok (.aload_n 0, 1) := by decide +kernel
theorem dX8_save_87 : decode cX8_save 87 = .ok (.dup, 1) := by decide +kernel
theorem dX8_save_88 : decode cX8_save 88 = .ok (.getfield 46, 3) := by decide +kernel
theorem dX8_save_91 : decode cX8_save 91 = .ok (.iconst 1, 1) := by decide +kernel
theorem dX8_save_92 : decode cX8_save 92 = .ok (.iadd, 1) := by decide +kernel
theorem dX8_save_93 : decode cX8_save 93 = .ok (.putfield 46, 3) := by decide +kernel
theorem dX8_save_96 : decode cX8_save 96 = .ok (.return_, 1) := by decide +kernel
theorem dX8_keep_0 : decode cX8_keep 0 = .ok (.iconst 0, 1) := by decide +kernel
theorem dX8_keep_1 : decode cX8_keep 1 = .ok (.istore_n 1, 1) := by decide +kernel
theorem dX8_keep_2 : decode cX8_keep 2 = .ok (.iload_n 1, 1) := by decide +kernel
theorem dX8_keep_3 : decode cX8_keep 3 = .ok (.sipush 2195, 3) := by decide +kernel
theorem dX8_keep_6 : decode cX8_keep 6 = .ok (.if_icmp .ge 21, 3) := by decide +kernel
theorem dX8_keep_9 : decode cX8_keep 9 = .ok (.aload_n 0, 1) := by decide +kernel
theorem dX8_keep_10 : decode cX8_keep 10 = .ok (.getfield 13, 3) := by decide +kernel
theorem dX8_keep_13 : decode cX8_keep 13 = .ok (.iload_n 1, 1) := by decide +kernel
theorem dX8_keep_14 : decode cX8_keep 14 = .ok (.aload_n 0, 1) := by decide +kernel
theorem dX8_keep_15 : decode cX8_keep 15 = .ok (.getfield 7, 3) := by decide +kernel
theorem dX8_keep_18 : decode cX8_keep 18 = .ok (.iload_n 1, 1) := by decide +kernel
theorem dX8_keep_19 : decode cX8_keep 19 = .ok (.iaload, 1) := by decide +kernel
theorem dX8_keep_20 : decode cX8_keep 20 = .ok (.iastore, 1) := by decide +kernel
theorem dX8_keep_21 : decode cX8_keep 21 = .ok (.iinc 1 1, 3) := by decide +kernel
theorem dX8_keep_24 : decode cX8_keep 24 = .ok (.goto (-22), 3) := by decide +kernel
theorem dX8_keep_27 : decode cX8_keep 27 = .ok (.return_, 1) := by decide +kernel
theorem dX8_bring_0 : decode cX8_bring 0 = .ok (.iconst 0, 1) := by decide +kernel
theorem dX8_bring_1 : decode cX8_bring 1 = .ok (.istore_n 1, 1) := by decide +kernel
theorem dX8_bring_2 : decode cX8_bring 2 = .ok (.iload_n 1, 1) := by decide +kernel
theorem dX8_bring_3 : decode cX8_bring 3 = .ok (.sipush 2195, 3) := by decide +kernel
theorem dX8_bring_6 : decode cX8_bring 6 = .ok (.if_icmp .ge 21, 3) := by decide +kernel
theorem dX8_bring_9 : decode cX8_bring 9 = .ok (.aload_n 0, 1) := by decide +kernel
theorem dX8_bring_10 : decode cX8_bring 10 = .ok (.getfield 7, 3) := by decide +kernel
theorem dX8_bring_13 : decode cX8_bring 13 = .ok (.iload_n 1, 1) := by decide +kernel
theorem dX8_bring_14 : decode cX8_bring 14 = .ok (.aload_n 0, 1) := by decide +kernel
theorem dX8_bring_15 : decode cX8_bring 15 = .ok (.getfield 13, 3) := by decide +kernel
theorem dX8_bring_18 : decode cX8_bring 18 = .ok (.iload_n 1, 1) := by decide +kernel
theorem dX8_bring_19 : decode cX8_bring 19 = .ok (.iaload, 1) := by decide +kernel
theorem dX8_bring_20 : decode cX8_bring 20 = .ok (.iastore, 1) := by decide +kernel
theorem dX8_bring_21 : decode cX8_bring 21 = .ok (.iinc 1 1, 3) := by decide +kernel
theorem dX8_bring_24 : decode cX8_bring 24 = .ok (.goto (-22), 3) := by decide +kernel
theorem dX8_bring_27 : decode cX8_bring 27 = .ok (.return_, 1) := by decide +kernel
theorem dX8_addTenant_0 : decode cX8_addTenant 0 = .ok (.aload_n 0, 1) := by decide +kernel
theorem dX8_addTenant_1 : decode cX8_addTenant 1 = .ok (.iconst 0, 1) := by decide +kernel
theorem dX8_addTenant_2 : decode cX8_addTenant 2 = .ok (.putfield 38, 3) := by decide +kernel
theorem dX8_addTenant_5 : decode cX8_addTenant 5 = .ok (.iload_n 1, 1) := by decide +kernel
theorem dX8_addTenant_6 : decode cX8_addTenant 6 = .ok (.iconst 0, 1) := by decide +kernel
theorem dX8_addTenant_7 : decode cX8_addTenant 7 = .ok (.sipush 10000, 3) := by decide +kernel
theorem dX8_addTenant_10 : decode cX8_addTenant 10 = .ok (.invokestatic 42, 3) := by decide +kernel
theorem dX8_addTenant_13 : decode cX8_addTenant 13 = .ok (.ifCond .ne 9, 3) := by decide +kernel
theorem dX8_addTenant_16 : decode cX8_addTenant 16 = .ok (.aload_n 0, 1) := by decide +kernel
theorem dX8_addTenant_17 : decode cX8_addTenant 17 = .ok (.iconst 1, 1) := by decide +kernel
theorem dX8_addTenant_18 : decode cX8_addTenant 18 = .ok (.invokevirtual 49, 3) := by decide +kernel
theorem dX8_addTenant_21 : decode cX8_addTenant 21 = .ok (.ireturn, 1) := by decide +kernel
theorem dX8_addTenant_22 : decode cX8_addTenant 22 = .ok (.aload_n 0, 1) := by decide +kernel
theorem dX8_addTenant_23 : decode cX8_addTenant 23 = .ok (.getfield 7, 3) := by decide +kernel
theorem dX8_addTenant_26 : decode cX8_addTenant 26 = .ok (.iconst 2, 1) := by decide +kernel
theorem dX8_addTenant_27 : decode cX8_addTenant 27 = .ok (.iaload, 1) := by decide +kernel
theorem dX8_addTenant_28 : decode cX8_addTenant 28 = .ok (.bipush 6, 2) := by decide +kernel
theorem dX8_addTenant_30 : decode cX8_addTenant 30 = .ok (.if_icmp .ne 9, 3) := by decide +kernel
theorem dX8_addTenant_33 : decode cX8_addTenant 33 = .ok (.aload_n 0, 1) := by decide +kernel
theorem dX8_addTenant_34 : decode cX8_addTenant 34 = .ok (.iconst 2, 1) := by decide +kernel
theorem dX8_addTenant_35 : decode cX8_addTenant 35 = .ok (.invokevirtual 49, 3) := by decide +kernel
theorem dX8_addTenant_38 : decode cX8_addTenant 38 = .ok (.ireturn, 1) := by decide +kernel
theorem dX8_addTenant_39 : decode cX8_addTenant 39 = .ok (.aload_n 0, 1) := by decide +kernel
theorem dX8_addTenant_40 : decode cX8_addTenant 40 = .ok (.invokevirtual 53, 3) := by decide +kernel
theorem dX8_addTenant_43 : decode cX8_addTenant 43 = .ok (.aload_n 0, 1) := by decide +kernel
theorem dX8_addTenant_44 : decode cX8_addTenant 44 = .ok (.getfield 7, 3) := by decide +kernel
theorem dX8_addTenant_47 : decode cX8_addTenant 47 = .ok (.bipush 23, 2) := by decide +kernel
theorem dX8_addTenant_49 : decode cX8_addTenant 49 = .ok (.iconst 3, 1) := by decide +kernel
theorem dX8_addTenant_50 : decode cX8_addTenant 50 = .ok (.aload_n 0, 1) := by decide +kernel
theorem dX8_addTenant_51 : decode cX8_addTenant 51 = .ok (.getfield 7, 3) := by decide +kernel
theorem dX8_addTenant_54 : decode cX8_addTenant 54 = .ok (.iconst 2, 1) := by decide +kernel
theorem dX8_addTenant_55 : decode cX8_addTenant 55 = .ok (.iaload, 1) := by decide +kernel
theorem dX8_addTenant_56 : decode cX8_addTenant 56 = .ok (.imul, 1) := by decide +kernel
theorem dX8_addTenant_57 : decode cX8_addTenant 57 = .ok (.iadd, 1) := by decide +kernel
theorem dX8_addTenant_58 : decode cX8_addTenant 58 = .ok (.iload_n 1, 1) := by decide +kernel
theorem dX8_addTenant_59 : decode cX8_addTenant 59 = .ok (.iastore, 1) := by decide +kernel
theorem dX8_addTenant_60 : decode cX8_addTenant 60 = .ok (.aload_n 0, 1) := by decide +kernel
theorem dX8_addTenant_61 : decode cX8_addTenant 61 = .ok (.getfield 7, 3) := by decide +kernel
theorem dX8_addTenant_64 : decode cX8_addTenant 64 = .ok (.iconst 2, 1) := by decide +kernel
theorem dX8_addTenant_65 : decode cX8_addTenant 65 = .ok (.dup2, 1) := by decide +kernel
theorem dX8_addTenant_66 : decode cX8_addTenant 66 = .ok (.iaload, 1) := by decide +kernel
theorem dX8_addTenant_67 : decode cX8_addTenant 67 = .ok (.iconst 1, 1) := by decide +kernel
theorem dX8_addTenant_68 : decode cX8_addTenant 68 = .ok (.iadd, 1) := by decide +kernel
theorem dX8_addTenant_69 : decode cX8_addTenant 69 = .ok (.iastore, 1) := by decide +kernel
theorem dX8_addTenant_70 : decode cX8_addTenant 70 = .ok (.aload_n 0, 1) := by decide +kernel
theorem dX8_addTenant_71 : decode cX8_addTenant 71 = .ok (.getfield 7, 3) := by decide +kernel
theorem dX8_addTenant_74 : decode cX8_addTenant 74 = .ok (.iconst 2, 1) := by decide +kernel
theorem dX8_addTenant_75 : decode cX8_addTenant 75 = .ok (.iaload, 1) := by decide +kernel
theorem dX8_addTenant_76 : decode cX8_addTenant 76 = .ok (.iconst 1, 1) := by decide +kernel
theorem dX8_addTenant_77 : decode cX8_addTenant 77 = .ok (.isub, 1) := by decide +kernel
theorem dX8_addTenant_78 : decode cX8_addTenant 78 = .ok (.ireturn, 1) := by decide +kernel
theorem dX8_addInsurer_0 : decode cX8_addInsurer 0 = .ok (.aload_n 0, 1) := by decide +kernel
theorem dX8_addInsurer_1 : decode cX8_addInsurer 1 = .ok (.iconst 0, 1) := by decide +kernel
theorem dX8_addInsurer_2 : decode cX8_addInsurer 2 = .ok (.putfield 38, 3) := by decide +kernel
theorem dX8_addInsurer_5 : decode cX8_addInsurer 5 = .ok (.iload_n 1, 1) := by decide +kernel
theorem dX8_addInsurer_6 : decode cX8_addInsurer 6 = .ok (.iconst 0, 1) := by decide +kernel
theorem dX8_addInsurer_7 : decode cX8_addInsurer 7 = .ok (.sipush 10000, 3) := by decide +kernel
theorem dX8_addInsurer_10 : decode cX8_addInsurer 10 = .ok (.invokestatic 42, 3) := by decide +kernel
theorem dX8_addInsurer_13 : decode cX8_addInsurer 13 = .ok (.ifCond .eq 25, 3) := by decide +kernel
theorem dX8_addInsurer_16 : decode cX8_addInsurer 16 = .ok (.iload_n 2, 1) := by decide +kernel
theorem dX8_addInsurer_17 : decode cX8_addInsurer 17 = .ok (.iconst 1, 1) := by decide +kernel
theorem dX8_addInsurer_18 : decode cX8_addInsurer 18 = .ok (.sipush 200, 3) := by decide +kernel
theorem dX8_addInsurer_21 : decode cX8_addInsurer 21 = .ok (.invokestatic 42, 3) := by decide +kernel
theorem dX8_addInsurer_24 : decode cX8_addInsurer 24 = .ok (.ifCond .eq 14, 3) := by decide +kernel
theorem dX8_addInsurer_27 : decode cX8_addInsurer 27 = .ok (.iload_n 3, 1) := by decide +kernel
theorem dX8_addInsurer_28 : decode cX8_addInsurer 28 = .ok (.iconst 1, 1) := by decide +kernel
theorem dX8_addInsurer_29 : decode cX8_addInsurer 29 = .ok (.sipush 500, 3) := by decide +kernel
theorem dX8_addInsurer_32 : decode cX8_addInsurer 32 = .ok (.invokestatic 42, 3) := by decide +kernel
theorem dX8_addInsurer_35 : decode cX8_addInsurer 35 = .ok (.ifCond .ne 9, 3) := by decide +kernel
theorem dX8_addInsurer_38 : decode cX8_addInsurer 38 = .ok (.aload_n 0, 1) := by decide +kernel
theorem dX8_addInsurer_39 : decode cX8_addInsurer 39 = .ok (.iconst 1, 1) := by decide +kernel
theorem dX8_addInsurer_40 : decode cX8_addInsurer 40 = .ok (.invokevirtual 49, 3) := by decide +kernel
theorem dX8_addInsurer_43 : decode cX8_addInsurer 43 = .ok (.ireturn, 1) := by decide +kernel
theorem dX8_addInsurer_44 : decode cX8_addInsurer 44 = .ok (.aload_n 0, 1) := by decide +kernel
theorem dX8_addInsurer_45 : decode cX8_addInsurer 45 = .ok (.getfield 7, 3) := by decide +kernel
theorem dX8_addInsurer_48 : decode cX8_addInsurer 48 = .ok (.iconst 3, 1) := by decide +kernel
theorem dX8_addInsurer_49 : decode cX8_addInsurer 49 = .ok (.iaload, 1) := by decide +kernel
theorem dX8_addInsurer_50 : decode cX8_addInsurer 50 = .ok (.iconst 3, 1) := by decide +kernel
theorem dX8_addInsurer_51 : decode cX8_addInsurer 51 = .ok (.if_icmp .ne 9, 3) := by decide +kernel
theorem dX8_addInsurer_54 : decode cX8_addInsurer 54 = .ok (.aload_n 0, 1) := by decide +kernel
theorem dX8_addInsurer_55 : decode cX8_addInsurer 55 = .ok (.iconst 2, 1) := by decide +kernel
theorem dX8_addInsurer_56 : decode cX8_addInsurer 56 = .ok (.invokevirtual 49, 3) := by decide +kernel
theorem dX8_addInsurer_59 : decode cX8_addInsurer 59 = .ok (.ireturn, 1) := by decide +kernel
theorem dX8_addInsurer_60 : decode cX8_addInsurer 60 = .ok (.aload_n 0, 1) := by decide +kernel
theorem dX8_addInsurer_61 : decode cX8_addInsurer 61 = .ok (.invokevirtual 53, 3) := by decide +kernel
theorem dX8_addInsurer_64 : decode cX8_addInsurer 64 = .ok (.bipush 41, 2) := by decide +kernel
theorem dX8_addInsurer_66 : decode cX8_addInsurer 66 = .ok (.bipush 6, 2) := by decide +kernel
theorem dX8_addInsurer_68 : decode cX8_addInsurer 68 = .ok (.aload_n 0, 1) := by decide +kernel
theorem dX8_addInsurer_69 : decode cX8_addInsurer 69 = .ok (.getfield 7, 3) := by decide +kernel
theorem dX8_addInsurer_72 : decode cX8_addInsurer 72 = .ok (.iconst 3, 1) := by decide +kernel
theorem dX8_addInsurer_73 : decode cX8_addInsurer 73 = .ok (.iaload, 1) := by decide +kernel
theorem dX8_addInsurer_74 : decode cX8_addInsurer 74 = .ok (.imul, 1) := by decide +kernel
theorem dX8_addInsurer_75 : decode cX8_addInsurer 75 = .ok (.iadd, 1) := by decide +kernel
theorem dX8_addInsurer_76 : decode cX8_addInsurer 76 = .ok (.istore 4, 2) := by decide +kernel
theorem dX8_addInsurer_78 : decode cX8_addInsurer 78 = .ok (.aload_n 0, 1) := by decide +kernel
theorem dX8_addInsurer_79 : decode cX8_addInsurer 79 = .ok (.getfield 7, 3) := by decide +kernel
theorem dX8_addInsurer_82 : decode cX8_addInsurer 82 = .ok (.iload 4, 2) := by decide +kernel
theorem dX8_addInsurer_84 : decode cX8_addInsurer 84 = .ok (.iconst 0, 1) := by decide +kernel
theorem dX8_addInsurer_85 : decode cX8_addInsurer 85 = .ok (.iadd, 1) := by decide +kernel
theorem dX8_addInsurer_86 : decode cX8_addInsurer 86 = .ok (.iload_n 1, 1) := by decide +kernel
theorem dX8_addInsurer_87 : decode cX8_addInsurer 87 = .ok (.iastore, 1) := by decide +kernel
theorem dX8_addInsurer_88 : decode cX8_addInsurer 88 = .ok (.aload_n 0, 1) := by decide +kernel
theorem dX8_addInsurer_89 : decode cX8_addInsurer 89 = .ok (.getfield 7, 3) := by decide +kernel
theorem dX8_addInsurer_92 : decode cX8_addInsurer 92 = .ok (.iload 4, 2) := by decide +kernel
theorem dX8_addInsurer_94 : decode cX8_addInsurer 94 = .ok (.iconst 1, 1) := by decide +kernel
theorem dX8_addInsurer_95 : decode cX8_addInsurer 95 = .ok (.iadd, 1) := by decide +kernel
theorem dX8_addInsurer_96 : decode cX8_addInsurer 96 = .ok (.iload_n 2, 1) := by decide +kernel
theorem dX8_addInsurer_97 : decode cX8_addInsurer 97 = .ok (.iastore, 1) := by decide +kernel
theorem dX8_addInsurer_98 : decode cX8_addInsurer 98 = .ok (.aload_n 0, 1) := by decide +kernel
theorem dX8_addInsurer_99 : decode cX8_addInsurer 99 = .ok (.getfield 7, 3) := by decide +kernel
theorem dX8_addInsurer_102 : decode cX8_addInsurer 102 = .ok (.iload 4, 2) := by decide +kernel
theorem dX8_addInsurer_104 : decode cX8_addInsurer 104 = .ok (.iconst 2, 1) := by decide +kernel
theorem dX8_addInsurer_105 : decode cX8_addInsurer 105 = .ok (.iadd, 1) := by decide +kernel
theorem dX8_addInsurer_106 : decode cX8_addInsurer 106 = .ok (.iload_n 3, 1) := by decide +kernel
theorem dX8_addInsurer_107 : decode cX8_addInsurer 107 = .ok (.iastore, 1) := by decide +kernel
theorem dX8_addInsurer_108 : decode cX8_addInsurer 108 = .ok (.aload_n 0, 1) := by decide +kernel
theorem dX8_addInsurer_109 : decode cX8_addInsurer 109 = .ok (.getfield 7, 3) := by decide +kernel
theorem dX8_addInsurer_112 : decode cX8_addInsurer 112 = .ok (.iconst 3, 1) := by decide +kernel
theorem dX8_addInsurer_113 : decode cX8_addInsurer 113 = .ok (.dup2, 1) := by decide +kernel
theorem dX8_addInsurer_114 : decode cX8_addInsurer 114 = .ok (.iaload, 1) := by decide +kernel
theorem dX8_addInsurer_115 : decode cX8_addInsurer 115 = .ok (.iconst 1, 1) := by decide +kernel
theorem dX8_addInsurer_116 : decode cX8_addInsurer 116 = .ok (.iadd, 1) := by decide +kernel
theorem dX8_addInsurer_117 : decode cX8_addInsurer 117 = .ok (.iastore, 1) := by decide +kernel
theorem dX8_addInsurer_118 : decode cX8_addInsurer 118 = .ok (.aload_n 0, 1) := by decide +kernel
theorem dX8_addInsurer_119 : decode cX8_addInsurer 119 = .ok (.getfield 7, 3) := by decide +kernel
theorem dX8_addInsurer_122 : decode cX8_addInsurer 122 = .ok (.iconst 3, 1) := by decide +kernel
theorem dX8_addInsurer_123 : decode cX8_addInsurer 123 = .ok (.iaload, 1) := by decide +kernel
theorem dX8_addInsurer_124 : decode cX8_addInsurer 124 = .ok (.iconst 1, 1) := by decide +kernel
theorem dX8_addInsurer_125 : decode cX8_addInsurer 125 = .ok (.isub, 1) := by decide +kernel
theorem dX8_addInsurer_126 : decode cX8_addInsurer 126 = .ok (.ireturn, 1) := by decide +kernel
theorem dX8_mostOf_0 : decode cX8_mostOf 0 = .ok (.iload_n 0, 1) := by decide +kernel
theorem dX8_mostOf_1 : decode cX8_mostOf 1 = .ok (.tableswitch 56 0 7 #[47, 47, 47, 50, 56, 56, 53, 50], 47) := by decide +kernel
theorem dX8_mostOf_48 : decode cX8_mostOf 48 = .ok (.bipush 20, 2) := by decide +kernel
theorem dX8_mostOf_50 : decode cX8_mostOf 50 = .ok (.ireturn, 1) := by decide +kernel
theorem dX8_mostOf_51 : decode cX8_mostOf 51 = .ok (.bipush 50, 2) := by decide +kernel
theorem dX8_mostOf_53 : decode cX8_mostOf 53 = .ok (.ireturn, 1) := by decide +kernel
theorem dX8_mostOf_54 : decode cX8_mostOf 54 = .ok (.bipush 10, 2) := by decide +kernel
theorem dX8_mostOf_56 : decode cX8_mostOf 56 = .ok (.ireturn, 1) := by decide +kernel
theorem dX8_mostOf_57 : decode cX8_mostOf 57 = .ok (.bipush 100, 2) := by decide +kernel
theorem dX8_mostOf_59 : decode cX8_mostOf 59 = .ok (.ireturn, 1) := by decide +kernel
theorem dX8_set_0 : decode cX8_set 0 = .ok (.aload_n 0, 1) := by decide +kernel
theorem dX8_set_1 : decode cX8_set 1 = .ok (.iconst 0, 1) := by decide +kernel
theorem dX8_set_2 : decode cX8_set 2 = .ok (.putfield 38, 3) := by decide +kernel
theorem dX8_set_5 : decode cX8_set 5 = .ok (.iload_n 1, 1) := by decide +kernel
theorem dX8_set_6 : decode cX8_set 6 = .ok (.iconst 0, 1) := by decide +kernel
theorem dX8_set_7 : decode cX8_set 7 = .ok (.bipush 7, 2) := by decide +kernel
theorem dX8_set_9 : decode cX8_set 9 = .ok (.invokestatic 42, 3) := by decide +kernel
theorem dX8_set_12 : decode cX8_set 12 = .ok (.ifCond .ne 9, 3) := by decide +kernel
theorem dX8_set_15 : decode cX8_set 15 = .ok (.aload_n 0, 1) := by decide +kernel
theorem dX8_set_16 : decode cX8_set 16 = .ok (.iconst 1, 1) := by decide +kernel
theorem dX8_set_17 : decode cX8_set 17 = .ok (.invokevirtual 49, 3) := by decide +kernel
theorem dX8_set_20 : decode cX8_set 20 = .ok (.ireturn, 1) := by decide +kernel
theorem dX8_set_21 : decode cX8_set 21 = .ok (.iload_n 2, 1) := by decide +kernel
theorem dX8_set_22 : decode cX8_set 22 = .ok (.iconst 0, 1) := by decide +kernel
theorem dX8_set_23 : decode cX8_set 23 = .ok (.iload_n 1, 1) := by decide +kernel
theorem dX8_set_24 : decode cX8_set 24 = .ok (.invokestatic 56, 3) := by decide +kernel
theorem dX8_set_27 : decode cX8_set 27 = .ok (.invokestatic 42, 3) := by decide +kernel
theorem dX8_set_30 : decode cX8_set 30 = .ok (.ifCond .ne 9, 3) := by decide +kernel
theorem dX8_set_33 : decode cX8_set 33 = .ok (.aload_n 0, 1) := by decide +kernel
theorem dX8_set_34 : decode cX8_set 34 = .ok (.iconst 2, 1) := by decide +kernel
theorem dX8_set_35 : decode cX8_set 35 = .ok (.invokevirtual 49, 3) := by decide +kernel
theorem dX8_set_38 : decode cX8_set 38 = .ok (.ireturn, 1) := by decide +kernel
theorem dX8_set_39 : decode cX8_set 39 = .ok (.aload_n 0, 1) := by decide +kernel
theorem dX8_set_40 : decode cX8_set 40 = .ok (.invokevirtual 53, 3) := by decide +kernel
theorem dX8_set_43 : decode cX8_set 43 = .ok (.aload_n 0, 1) := by decide +kernel
theorem dX8_set_44 : decode cX8_set 44 = .ok (.iload_n 1, 1) := by decide +kernel
theorem dX8_set_45 : decode cX8_set 45 = .ok (.invokevirtual 59, 3) := by decide +kernel
theorem dX8_set_48 : decode cX8_set 48 = .ok (.istore_n 3, 1) := by decide +kernel
theorem dX8_set_49 : decode cX8_set 49 = .ok (.aload_n 0, 1) := by decide +kernel
theorem dX8_set_50 : decode cX8_set 50 = .ok (.getfield 7, 3) := by decide +kernel
theorem dX8_set_53 : decode cX8_set 53 = .ok (.bipush 15, 2) := by decide +kernel
theorem dX8_set_55 : decode cX8_set 55 = .ok (.iload_n 1, 1) := by decide +kernel
theorem dX8_set_56 : decode cX8_set 56 = .ok (.iadd, 1) := by decide +kernel
theorem dX8_set_57 : decode cX8_set 57 = .ok (.iload_n 2, 1) := by decide +kernel
theorem dX8_set_58 : decode cX8_set 58 = .ok (.iastore, 1) := by decide +kernel
theorem dX8_set_59 : decode cX8_set 59 = .ok (.iload_n 3, 1) := by decide +kernel
theorem dX8_set_60 : decode cX8_set 60 = .ok (.ireturn, 1) := by decide +kernel
theorem dX8_areTicks_0 : decode cX8_areTicks 0 = .ok (.iload_n 0, 1) := by decide +kernel
theorem dX8_areTicks_1 : decode cX8_areTicks 1 = .ok (.iconst 1, 1) := by decide +kernel
theorem dX8_areTicks_2 : decode cX8_areTicks 2 = .ok (.sipush 200, 3) := by decide +kernel
theorem dX8_areTicks_5 : decode cX8_areTicks 5 = .ok (.invokestatic 42, 3) := by decide +kernel
theorem dX8_areTicks_8 : decode cX8_areTicks 8 = .ok (.ireturn, 1) := by decide +kernel
theorem dX8_isLeased_0 : decode cX8_isLeased 0 = .ok (.aload_n 0, 1) := by decide +kernel
theorem dX8_isLeased_1 : decode cX8_isLeased 1 = .ok (.iload_n 1, 1) := by decide +kernel
theorem dX8_isLeased_2 : decode cX8_isLeased 2 = .ok (.iconst 2, 1) := by decide +kernel
theorem dX8_isLeased_3 : decode cX8_isLeased 3 = .ok (.invokevirtual 62, 3) := by decide +kernel
theorem dX8_isLeased_6 : decode cX8_isLeased 6 = .ok (.ifCond .le 7, 3) := by decide +kernel
theorem dX8_isLeased_9 : decode cX8_isLeased 9 = .ok (.iconst 1, 1) := by decide +kernel
theorem dX8_isLeased_10 : decode cX8_isLeased 10 = .ok (.goto 4, 3) := by decide +kernel
theorem dX8_isLeased_13 : decode cX8_isLeased 13 = .ok (.iconst 0, 1) := by decide +kernel
theorem dX8_isLeased_14 : decode cX8_isLeased 14 = .ok (.ireturn, 1) := by decide +kernel
theorem dX8_isOwed_0 : decode cX8_isOwed 0 = .ok (.aload_n 0, 1) := by decide +kernel
theorem dX8_isOwed_1 : decode cX8_isOwed 1 = .ok (.iload_n 1, 1) := by decide +kernel
theorem dX8_isOwed_2 : decode cX8_isOwed 2 = .ok (.bipush 6, 2) := by decide +kernel
theorem dX8_isOwed_4 : decode cX8_isOwed 4 = .ok (.invokevirtual 62, 3) := by decide +kernel
theorem dX8_isOwed_7 : decode cX8_isOwed 7 = .ok (.ifCond .le 7, 3) := by decide +kernel
theorem dX8_isOwed_10 : decode cX8_isOwed 10 = .ok (.iconst 1, 1) := by decide +kernel
theorem dX8_isOwed_11 : decode cX8_isOwed 11 = .ok (.goto 4, 3) := by decide +kernel
theorem dX8_isOwed_14 : decode cX8_isOwed 14 = .ok (.iconst 0, 1) := by decide +kernel
theorem dX8_isOwed_15 : decode cX8_isOwed 15 = .ok (.ireturn, 1) := by decide +kernel
theorem dX8_lease_0 : decode cX8_lease 0 = .ok (.aload_n 0, 1) := by decide +kernel
theorem dX8_lease_1 : decode cX8_lease 1 = .ok (.iconst 0, 1) := by decide +kernel
theorem dX8_lease_2 : decode cX8_lease 2 = .ok (.putfield 38, 3) := by decide +kernel
theorem dX8_lease_5 : decode cX8_lease 5 = .ok (.iload_n 1, 1) := by decide +kernel
theorem dX8_lease_6 : decode cX8_lease 6 = .ok (.invokestatic 66, 3) := by decide +kernel
theorem dX8_lease_9 : decode cX8_lease 9 = .ok (.ifCond .eq 11, 3) := by decide +kernel
theorem dX8_lease_12 : decode cX8_lease 12 = .ok (.aload_n 0, 1) := by decide +kernel
theorem dX8_lease_13 : decode cX8_lease 13 = .ok (.iload_n 2, 1) := by decide +kernel
theorem dX8_lease_14 : decode cX8_lease 14 = .ok (.invokevirtual 70, 3) := by decide +kernel
theorem dX8_lease_17 : decode cX8_lease 17 = .ok (.ifCond .ne 9, 3) := by decide +kernel
theorem dX8_lease_20 : decode cX8_lease 20 = .ok (.aload_n 0, 1) := by decide +kernel
theorem dX8_lease_21 : decode cX8_lease 21 = .ok (.iconst 1, 1) := by decide +kernel
theorem dX8_lease_22 : decode cX8_lease 22 = .ok (.invokevirtual 49, 3) := by decide +kernel
theorem dX8_lease_25 : decode cX8_lease 25 = .ok (.ireturn, 1) := by decide +kernel
theorem dX8_lease_26 : decode cX8_lease 26 = .ok (.iload_n 3, 1) := by decide +kernel
theorem dX8_lease_27 : decode cX8_lease 27 = .ok (.invokestatic 73, 3) := by decide +kernel
theorem dX8_lease_30 : decode cX8_lease 30 = .ok (.ifCond .ne 9, 3) := by decide +kernel
theorem dX8_lease_33 : decode cX8_lease 33 = .ok (.aload_n 0, 1) := by decide +kernel
theorem dX8_lease_34 : decode cX8_lease 34 = .ok (.iconst 2, 1) := by decide +kernel
theorem dX8_lease_35 : decode cX8_lease 35 = .ok (.invokevirtual 49, 3) := by decide +kernel
theorem dX8_lease_38 : decode cX8_lease 38 = .ok (.ireturn, 1) := by decide +kernel
theorem dX8_lease_39 : decode cX8_lease 39 = .ok (.iload_n 3, 1) := by decide +kernel
theorem dX8_lease_40 : decode cX8_lease 40 = .ok (.aload_n 0, 1) := by decide +kernel
theorem dX8_lease_41 : decode cX8_lease 41 = .ok (.iconst 0, 1) := by decide +kernel
theorem dX8_lease_42 : decode cX8_lease 42 = .ok (.invokevirtual 59, 3) := by decide +kernel
theorem dX8_lease_45 : decode cX8_lease 45 = .ok (.imul, 1) := by decide +kernel
theorem dX8_lease_46 : decode cX8_lease 46 = .ok (.istore 4, 2) := by decide +kernel
theorem dX8_lease_48 : decode cX8_lease 48 = .ok (.aload_n 0, 1) := by decide +kernel
theorem dX8_lease_49 : decode cX8_lease 49 = .ok (.iload_n 1, 1) := by decide +kernel
theorem dX8_lease_50 : decode cX8_lease 50 = .ok (.invokevirtual 76, 3) := by decide +kernel
theorem dX8_lease_53 : decode cX8_lease 53 = .ok (.ifCond .ne 14, 3) := by decide +kernel
theorem dX8_lease_56 : decode cX8_lease 56 = .ok (.aload_n 0, 1) := by decide +kernel
theorem dX8_lease_57 : decode cX8_lease 57 = .ok (.iload_n 2, 1) := by decide +kernel
theorem dX8_lease_58 : decode cX8_lease 58 = .ok (.iconst 0, 1) := by decide +kernel
theorem dX8_lease_59 : decode cX8_lease 59 = .ok (.invokevirtual 79, 3) := by decide +kernel
theorem dX8_lease_62 : decode cX8_lease 62 = .ok (.iload 4, 2) := by decide +kernel
theorem dX8_lease_64 : decode cX8_lease 64 = .ok (.if_icmp .ge 9, 3) := by decide +kernel
theorem dX8_lease_67 : decode cX8_lease 67 = .ok (.aload_n 0, 1) := by decide +kernel
theorem dX8_lease_68 : decode cX8_lease 68 = .ok (.iconst 3, 1) := by decide +kernel
theorem dX8_lease_69 : decode cX8_lease 69 = .ok (.invokevirtual 49, 3) := by decide +kernel
theorem dX8_lease_72 : decode cX8_lease 72 = .ok (.ireturn, 1) := by decide +kernel
theorem dX8_lease_73 : decode cX8_lease 73 = .ok (.aload_n 0, 1) := by decide +kernel
theorem dX8_lease_74 : decode cX8_lease 74 = .ok (.invokevirtual 53, 3) := by decide +kernel
theorem dX8_lease_77 : decode cX8_lease 77 = .ok (.aload_n 0, 1) := by decide +kernel
theorem dX8_lease_78 : decode cX8_lease 78 = .ok (.getfield 7, 3) := by decide +kernel
theorem dX8_lease_81 : decode cX8_lease 81 = .ok (.bipush 23, 2) := by decide +kernel
theorem dX8_lease_83 : decode cX8_lease 83 = .ok (.iconst 3, 1) := by decide +kernel
theorem dX8_lease_84 : decode cX8_lease 84 = .ok (.iload_n 2, 1) := by decide +kernel
theorem dX8_lease_85 : decode cX8_lease 85 = .ok (.imul, 1) := by decide +kernel
theorem dX8_lease_86 : decode cX8_lease 86 = .ok (.iadd, 1) := by decide +kernel
theorem dX8_lease_87 : decode cX8_lease 87 = .ok (.dup2, 1) := by decide +kernel
theorem dX8_lease_88 : decode cX8_lease 88 = .ok (.iaload, 1) := by decide +kernel
theorem dX8_lease_89 : decode cX8_lease 89 = .ok (.iload 4, 2) := by decide +kernel
theorem dX8_lease_91 : decode cX8_lease 91 = .ok (.isub, 1) := by decide +kernel
theorem dX8_lease_92 : decode cX8_lease 92 = .ok (.iastore, 1) := by decide +kernel
theorem dX8_lease_93 : decode cX8_lease 93 = .ok (.aload_n 0, 1) := by decide +kernel
theorem dX8_lease_94 : decode cX8_lease 94 = .ok (.getfield 7, 3) := by decide +kernel
theorem dX8_lease_97 : decode cX8_lease 97 = .ok (.bipush 12, 2) := by decide +kernel
theorem dX8_lease_99 : decode cX8_lease 99 = .ok (.dup2, 1) := by decide +kernel
theorem dX8_lease_100 : decode cX8_lease 100 = .ok (.iaload, 1) := by decide +kernel
theorem dX8_lease_101 : decode cX8_lease 101 = .ok (.iload 4, 2) := by decide +kernel
theorem dX8_lease_103 : decode cX8_lease 103 = .ok (.iadd, 1) := by decide +kernel
theorem dX8_lease_104 : decode cX8_lease 104 = .ok (.iastore, 1) := by decide +kernel
theorem dX8_lease_105 : decode cX8_lease 105 = .ok (.aload_n 0, 1) := by decide +kernel
theorem dX8_lease_106 : decode cX8_lease 106 = .ok (.iload_n 1, 1) := by decide +kernel
theorem dX8_lease_107 : decode cX8_lease 107 = .ok (.iconst 2, 1) := by decide +kernel
theorem dX8_lease_108 : decode cX8_lease 108 = .ok (.iload_n 2, 1) := by decide +kernel
theorem dX8_lease_109 : decode cX8_lease 109 = .ok (.iconst 1, 1) := by decide +kernel
theorem dX8_lease_110 : decode cX8_lease 110 = .ok (.iadd, 1) := by decide +kernel
theorem dX8_lease_111 : decode cX8_lease 111 = .ok (.invokevirtual 34, 3) := by decide +kernel
theorem dX8_lease_114 : decode cX8_lease 114 = .ok (.aload_n 0, 1) := by decide +kernel
theorem dX8_lease_115 : decode cX8_lease 115 = .ok (.iload_n 1, 1) := by decide +kernel
theorem dX8_lease_116 : decode cX8_lease 116 = .ok (.iconst 3, 1) := by decide +kernel
theorem dX8_lease_117 : decode cX8_lease 117 = .ok (.iload_n 3, 1) := by decide +kernel
theorem dX8_lease_118 : decode cX8_lease 118 = .ok (.invokevirtual 34, 3) := by decide +kernel
theorem dX8_lease_121 : decode cX8_lease 121 = .ok (.aload_n 0, 1) := by decide +kernel
theorem dX8_lease_122 : decode cX8_lease 122 = .ok (.iload_n 2, 1) := by decide +kernel
theorem dX8_lease_123 : decode cX8_lease 123 = .ok (.iconst 0, 1) := by decide +kernel
theorem dX8_lease_124 : decode cX8_lease 124 = .ok (.invokevirtual 79, 3) := by decide +kernel
theorem dX8_lease_127 : decode cX8_lease 127 = .ok (.ireturn, 1) := by decide +kernel
theorem dX8_premiumBy_0 : decode cX8_premiumBy 0 = .ok (.bipush 10, 2) := by decide +kernel
theorem dX8_premiumBy_2 : decode cX8_premiumBy 2 = .ok (.iload 4, 2) := by decide +kernel
theorem dX8_premiumBy_4 : decode cX8_premiumBy 4 = .ok (.iadd, 1) := by decide +kernel
theorem dX8_premiumBy_5 : decode cX8_premiumBy 5 = .ok (.bipush 100, 2) := by decide +kernel
theorem dX8_premiumBy_7 : decode cX8_premiumBy 7 = .ok (.iadd, 1) := by decide +kernel
theorem dX8_premiumBy_8 : decode cX8_premiumBy 8 = .ok (.aload_n 0, 1) := by decide +kernel
theorem dX8_premiumBy_9 : decode cX8_premiumBy 9 = .ok (.iload_n 1, 1) := by decide +kernel
theorem dX8_premiumBy_10 : decode cX8_premiumBy 10 = .ok (.iconst 1, 1) := by decide +kernel
theorem dX8_premiumBy_11 : decode cX8_premiumBy 11 = .ok (.invokevirtual 62, 3) := by decide +kernel
theorem dX8_premiumBy_14 : decode cX8_premiumBy 14 = .ok (.isub, 1) := by decide +kernel
theorem dX8_premiumBy_15 : decode cX8_premiumBy 15 = .ok (.iload_n 3, 1) := by decide +kernel
theorem dX8_premiumBy_16 : decode cX8_premiumBy 16 = .ok (.imul, 1) := by decide +kernel
theorem dX8_premiumBy_17 : decode cX8_premiumBy 17 = .ok (.aload_n 0, 1) := by decide +kernel
theorem dX8_premiumBy_18 : decode cX8_premiumBy 18 = .ok (.iload_n 2, 1) := by decide +kernel
theorem dX8_premiumBy_19 : decode cX8_premiumBy 19 = .ok (.iconst 1, 1) := by decide +kernel
theorem dX8_premiumBy_20 : decode cX8_premiumBy 20 = .ok (.invokevirtual 82, 3) := by decide +kernel
theorem dX8_premiumBy_23 : decode cX8_premiumBy 23 = .ok (.imul, 1) := by decide +kernel
theorem dX8_premiumBy_24 : decode cX8_premiumBy 24 = .ok (.sipush 1000, 3) := by decide +kernel
theorem dX8_premiumBy_27 : decode cX8_premiumBy 27 = .ok (.idiv, 1) := by decide +kernel
theorem dX8_premiumBy_28 : decode cX8_premiumBy 28 = .ok (.iconst 1, 1) := by decide +kernel
theorem dX8_premiumBy_29 : decode cX8_premiumBy 29 = .ok (.iadd, 1) := by decide +kernel
theorem dX8_premiumBy_30 : decode cX8_premiumBy 30 = .ok (.ireturn, 1) := by decide +kernel
theorem dX8_premiumNow_0 : decode cX8_premiumNow 0 = .ok (.aload_n 0, 1) := by decide +kernel
theorem dX8_premiumNow_1 : decode cX8_premiumNow 1 = .ok (.iload_n 1, 1) := by decide +kernel
theorem dX8_premiumNow_2 : decode cX8_premiumNow 2 = .ok (.iload_n 2, 1) := by decide +kernel
theorem dX8_premiumNow_3 : decode cX8_premiumNow 3 = .ok (.iload_n 3, 1) := by decide +kernel
theorem dX8_premiumNow_4 : decode cX8_premiumNow 4 = .ok (.aload_n 0, 1) := by decide +kernel
theorem dX8_premiumNow_5 : decode cX8_premiumNow 5 = .ok (.getfield 7, 3) := by decide +kernel
theorem dX8_premiumNow_8 : decode cX8_premiumNow 8 = .ok (.iconst 1, 1) := by decide +kernel
theorem dX8_premiumNow_9 : decode cX8_premiumNow 9 = .ok (.iaload, 1) := by decide +kernel
theorem dX8_premiumNow_10 : decode cX8_premiumNow 10 = .ok (.invokevirtual 85, 3) := by decide +kernel
theorem dX8_premiumNow_13 : decode cX8_premiumNow 13 = .ok (.ireturn, 1) := by decide +kernel
theorem dX8_pay_0 : decode cX8_pay 0 = .ok (.bipush 41, 2) := by decide +kernel
theorem dX8_pay_2 : decode cX8_pay 2 = .ok (.bipush 6, 2) := by decide +kernel
theorem dX8_pay_4 : decode cX8_pay 4 = .ok (.iload_n 1, 1) := by decide +kernel
theorem dX8_pay_5 : decode cX8_pay 5 = .ok (.imul, 1) := by decide +kernel
theorem dX8_pay_6 : decode cX8_pay 6 = .ok (.iadd, 1) := by decide +kernel
theorem dX8_pay_7 : decode cX8_pay 7 = .ok (.istore_n 2, 1) := by decide +kernel
theorem dX8_pay_8 : decode cX8_pay 8 = .ok (.sipush 635, 3) := by decide +kernel
theorem dX8_pay_11 : decode cX8_pay 11 = .ok (.sipush 520, 3) := by decide +kernel
theorem dX8_pay_14 : decode cX8_pay 14 = .ok (.iload_n 1, 1) := by decide +kernel
theorem dX8_pay_15 : decode cX8_pay 15 = .ok (.imul, 1) := by decide +kernel
theorem dX8_pay_16 : decode cX8_pay 16 = .ok (.iadd, 1) := by decide +kernel
theorem dX8_pay_17 : decode cX8_pay 17 = .ok (.istore_n 3, 1) := by decide +kernel
theorem dX8_pay_18 : decode cX8_pay 18 = .ok (.aload_n 0, 1) := by decide +kernel
theorem dX8_pay_19 : decode cX8_pay 19 = .ok (.getfield 7, 3) := by decide +kernel
theorem dX8_pay_22 : decode cX8_pay 22 = .ok (.iload_n 2, 1) := by decide +kernel
theorem dX8_pay_23 : decode cX8_pay 23 = .ok (.iconst 5, 1) := by decide +kernel
theorem dX8_pay_24 : decode cX8_pay 24 = .ok (.iadd, 1) := by decide +kernel
theorem dX8_pay_25 : decode cX8_pay 25 = .ok (.iaload, 1) := by decide +kernel
theorem dX8_pay_26 : decode cX8_pay 26 = .ok (.ifCond .le 166, 3) := by decide +kernel
theorem dX8_pay_29 : decode cX8_pay 29 = .ok (.aload_n 0, 1) := by decide +kernel
theorem dX8_pay_30 : decode cX8_pay 30 = .ok (.getfield 7, 3) := by decide +kernel
theorem dX8_pay_33 : decode cX8_pay 33 = .ok (.iload_n 2, 1) := by decide +kernel
theorem dX8_pay_34 : decode cX8_pay 34 = .ok (.iconst 0, 1) := by decide +kernel
theorem dX8_pay_35 : decode cX8_pay 35 = .ok (.iadd, 1) := by decide +kernel
theorem dX8_pay_36 : decode cX8_pay 36 = .ok (.iaload, 1) := by decide +kernel
theorem dX8_pay_37 : decode cX8_pay 37 = .ok (.aload_n 0, 1) := by decide +kernel
theorem dX8_pay_38 : decode cX8_pay 38 = .ok (.getfield 7, 3) := by decide +kernel
theorem dX8_pay_41 : decode cX8_pay 41 = .ok (.iload_n 2, 1) := by decide +kernel
theorem dX8_pay_42 : decode cX8_pay 42 = .ok (.iconst 2, 1) := by decide +kernel
theorem dX8_pay_43 : decode cX8_pay 43 = .ok (.iadd, 1) := by decide +kernel
theorem dX8_pay_44 : decode cX8_pay 44 = .ok (.iaload, 1) := by decide +kernel
theorem dX8_pay_45 : decode cX8_pay 45 = .ok (.if_icmp .lt 147, 3) := by decide +kernel
theorem dX8_pay_48 : decode cX8_pay 48 = .ok (.aload_n 0, 1) := by decide +kernel
theorem dX8_pay_49 : decode cX8_pay 49 = .ok (.getfield 7, 3) := by decide +kernel
theorem dX8_pay_52 : decode cX8_pay 52 = .ok (.iload_n 3, 1) := by decide +kernel
theorem dX8_pay_53 : decode cX8_pay 53 = .ok (.iaload, 1) := by decide +kernel
theorem dX8_pay_54 : decode cX8_pay 54 = .ok (.istore 4, 2) := by decide +kernel
theorem dX8_pay_56 : decode cX8_pay 56 = .ok (.aload_n 0, 1) := by decide +kernel
theorem dX8_pay_57 : decode cX8_pay 57 = .ok (.getfield 7, 3) := by decide +kernel
theorem dX8_pay_60 : decode cX8_pay 60 = .ok (.iload_n 2, 1) := by decide +kernel
theorem dX8_pay_61 : decode cX8_pay 61 = .ok (.iconst 0, 1) := by decide +kernel
theorem dX8_pay_62 : decode cX8_pay 62 = .ok (.iadd, 1) := by decide +kernel
theorem dX8_pay_63 : decode cX8_pay 63 = .ok (.dup2, 1) := by decide +kernel
theorem dX8_pay_64 : decode cX8_pay 64 = .ok (.iaload, 1) := by decide +kernel
theorem dX8_pay_65 : decode cX8_pay 65 = .ok (.aload_n 0, 1) := by decide +kernel
theorem dX8_pay_66 : decode cX8_pay 66 = .ok (.getfield 7, 3) := by decide +kernel
theorem dX8_pay_69 : decode cX8_pay 69 = .ok (.iload_n 2, 1) := by decide +kernel
theorem dX8_pay_70 : decode cX8_pay 70 = .ok (.iconst 2, 1) := by decide +kernel
theorem dX8_pay_71 : decode cX8_pay 71 = .ok (.iadd, 1) := by decide +kernel
theorem dX8_pay_72 : decode cX8_pay 72 = .ok (.iaload, 1) := by decide +kernel
theorem dX8_pay_73 : decode cX8_pay 73 = .ok (.isub, 1) := by decide +kernel
theorem dX8_pay_74 : decode cX8_pay 74 = .ok (.iastore, 1) := by decide +kernel
theorem dX8_pay_75 : decode cX8_pay 75 = .ok (.aload_n 0, 1) := by decide +kernel
theorem dX8_pay_76 : decode cX8_pay 76 = .ok (.getfield 7, 3) := by decide +kernel
theorem dX8_pay_79 : decode cX8_pay 79 = .ok (.iload_n 2, 1) := by decide +kernel
theorem dX8_pay_80 : decode cX8_pay 80 = .ok (.iconst 3, 1) := by decide +kernel
theorem dX8_pay_81 : decode cX8_pay 81 = .ok (.iadd, 1) := by decide +kernel
theorem dX8_pay_82 : decode cX8_pay 82 = .ok (.dup2, 1) := by decide +kernel
theorem dX8_pay_83 : decode cX8_pay 83 = .ok (.iaload, 1) := by decide +kernel
theorem dX8_pay_84 : decode cX8_pay 84 = .ok (.iconst 1, 1) := by decide +kernel
theorem dX8_pay_85 : decode cX8_pay 85 = .ok (.iadd, 1) := by decide +kernel
theorem dX8_pay_86 : decode cX8_pay 86 = .ok (.iastore, 1) := by decide +kernel
theorem dX8_pay_87 : decode cX8_pay 87 = .ok (.aload_n 0, 1) := by decide +kernel
theorem dX8_pay_88 : decode cX8_pay 88 = .ok (.getfield 7, 3) := by decide +kernel
theorem dX8_pay_91 : decode cX8_pay 91 = .ok (.iload_n 2, 1) := by decide +kernel
theorem dX8_pay_92 : decode cX8_pay 92 = .ok (.iconst 5, 1) := by decide +kernel
theorem dX8_pay_93 : decode cX8_pay 93 = .ok (.iadd, 1) := by decide +kernel
theorem dX8_pay_94 : decode cX8_pay 94 = .ok (.dup2, 1) := by decide +kernel
theorem dX8_pay_95 : decode cX8_pay 95 = .ok (.iaload, 1) := by decide +kernel
theorem dX8_pay_96 : decode cX8_pay 96 = .ok (.iconst 1, 1) := by decide +kernel
theorem dX8_pay_97 : decode cX8_pay 97 = .ok (.isub, 1) := by decide +kernel
theorem dX8_pay_98 : decode cX8_pay 98 = .ok (.iastore, 1) := by decide +kernel
theorem dX8_pay_99 : decode cX8_pay 99 = .ok (.aload_n 0, 1) := by decide +kernel
theorem dX8_pay_100 : decode cX8_pay 100 = .ok (.getfield 7, 3) := by decide +kernel
theorem dX8_pay_103 : decode cX8_pay 103 = .ok (.bipush 23, 2) := by decide +kernel
theorem dX8_pay_105 : decode cX8_pay 105 = .ok (.iconst 3, 1) := by decide +kernel
theorem dX8_pay_106 : decode cX8_pay 106 = .ok (.iload 4, 2) := by decide +kernel
theorem dX8_pay_108 : decode cX8_pay 108 = .ok (.imul, 1) := by decide +kernel
theorem dX8_pay_109 : decode cX8_pay 109 = .ok (.iadd, 1) := by decide +kernel
theorem dX8_pay_110 : decode cX8_pay 110 = .ok (.dup2, 1) := by decide +kernel
theorem dX8_pay_111 : decode cX8_pay 111 = .ok (.iaload, 1) := by decide +kernel
theorem dX8_pay_112 : decode cX8_pay 112 = .ok (.aload_n 0, 1) := by decide +kernel
theorem dX8_pay_113 : decode cX8_pay 113 = .ok (.getfield 7, 3) := by decide +kernel
theorem dX8_pay_116 : decode cX8_pay 116 = .ok (.iload_n 2, 1) := by decide +kernel
theorem dX8_pay_117 : decode cX8_pay 117 = .ok (.iconst 2, 1) := by decide +kernel
theorem dX8_pay_118 : decode cX8_pay 118 = .ok (.iadd, 1) := by decide +kernel
theorem dX8_pay_119 : decode cX8_pay 119 = .ok (.iaload, 1) := by decide +kernel
theorem dX8_pay_120 : decode cX8_pay 120 = .ok (.iadd, 1) := by decide +kernel
theorem dX8_pay_121 : decode cX8_pay 121 = .ok (.iastore, 1) := by decide +kernel
theorem dX8_pay_122 : decode cX8_pay 122 = .ok (.aload_n 0, 1) := by decide +kernel
theorem dX8_pay_123 : decode cX8_pay 123 = .ok (.getfield 7, 3) := by decide +kernel
theorem dX8_pay_126 : decode cX8_pay 126 = .ok (.bipush 23, 2) := by decide +kernel
theorem dX8_pay_128 : decode cX8_pay 128 = .ok (.iconst 3, 1) := by decide +kernel
theorem dX8_pay_129 : decode cX8_pay 129 = .ok (.iload 4, 2) := by decide +kernel
theorem dX8_pay_131 : decode cX8_pay 131 = .ok (.imul, 1) := by decide +kernel
theorem dX8_pay_132 : decode cX8_pay 132 = .ok (.iadd, 1) := by decide +kernel
theorem dX8_pay_133 : decode cX8_pay 133 = .ok (.iconst 2, 1) := by decide +kernel
theorem dX8_pay_134 : decode cX8_pay 134 = .ok (.iadd, 1) := by decide +kernel
theorem dX8_pay_135 : decode cX8_pay 135 = .ok (.dup2, 1) := by decide +kernel
theorem dX8_pay_136 : decode cX8_pay 136 = .ok (.iaload, 1) := by decide +kernel
theorem dX8_pay_137 : decode cX8_pay 137 = .ok (.aload_n 0, 1) := by decide +kernel
theorem dX8_pay_138 : decode cX8_pay 138 = .ok (.getfield 7, 3) := by decide +kernel
theorem dX8_pay_141 : decode cX8_pay 141 = .ok (.iload_n 2, 1) := by decide +kernel
theorem dX8_pay_142 : decode cX8_pay 142 = .ok (.iconst 2, 1) := by decide +kernel
theorem dX8_pay_143 : decode cX8_pay 143 = .ok (.iadd, 1) := by decide +kernel
theorem dX8_pay_144 : decode cX8_pay 144 = .ok (.iaload, 1) := by decide +kernel
theorem dX8_pay_145 : decode cX8_pay 145 = .ok (.iadd, 1) := by decide +kernel
theorem dX8_pay_146 : decode cX8_pay 146 = .ok (.iastore, 1) := by decide +kernel
theorem dX8_pay_147 : decode cX8_pay 147 = .ok (.iconst 0, 1) := by decide +kernel
theorem dX8_pay_148 : decode cX8_pay 148 = .ok (.istore 5, 2) := by decide +kernel
theorem dX8_pay_150 : decode cX8_pay 150 = .ok (.iload 5, 2) := by decide +kernel
theorem dX8_pay_152 : decode cX8_pay 152 = .ok (.aload_n 0, 1) := by decide +kernel
theorem dX8_pay_153 : decode cX8_pay 153 = .ok (.getfield 7, 3) := by decide +kernel
theorem dX8_pay_156 : decode cX8_pay 156 = .ok (.iload_n 2, 1) := by decide +kernel
theorem dX8_pay_157 : decode cX8_pay 157 = .ok (.iconst 5, 1) := by decide +kernel
theorem dX8_pay_158 : decode cX8_pay 158 = .ok (.iadd, 1) := by decide +kernel
theorem dX8_pay_159 : decode cX8_pay 159 = .ok (.iaload, 1) := by decide +kernel
theorem dX8_pay_160 : decode cX8_pay 160 = .ok (.if_icmp .ge 29, 3) := by decide +kernel
theorem dX8_pay_163 : decode cX8_pay 163 = .ok (.aload_n 0, 1) := by decide +kernel
theorem dX8_pay_164 : decode cX8_pay 164 = .ok (.getfield 7, 3) := by decide +kernel
theorem dX8_pay_167 : decode cX8_pay 167 = .ok (.iload_n 3, 1) := by decide +kernel
theorem dX8_pay_168 : decode cX8_pay 168 = .ok (.iload 5, 2) := by decide +kernel
theorem dX8_pay_170 : decode cX8_pay 170 = .ok (.iadd, 1) := by decide +kernel
theorem dX8_pay_171 : decode cX8_pay 171 = .ok (.aload_n 0, 1) := by decide +kernel
theorem dX8_pay_172 : decode cX8_pay 172 = .ok (.getfield 7, 3) := by decide +kernel
theorem dX8_pay_175 : decode cX8_pay 175 = .ok (.iload_n 3, 1) := by decide +kernel
theorem dX8_pay_176 : decode cX8_pay 176 = .ok (.iload 5, 2) := by decide +kernel
theorem dX8_pay_178 : decode cX8_pay 178 = .ok (.iadd, 1) := by decide +kernel
theorem dX8_pay_179 : decode cX8_pay 179 = .ok (.iconst 1, 1) := by decide +kernel
theorem dX8_pay_180 : decode cX8_pay 180 = .ok (.iadd, 1) := by decide +kernel
theorem dX8_pay_181 : decode cX8_pay 181 = .ok (.iaload, 1) := by decide +kernel
theorem dX8_pay_182 : decode cX8_pay 182 = .ok (.iastore, 1) := by decide +kernel
theorem dX8_pay_183 : decode cX8_pay 183 = .ok (.iinc 5 1, 3) := by decide +kernel
theorem dX8_pay_186 : decode cX8_pay 186 = .ok (.goto (-36), 3) := by decide +kernel
theorem dX8_pay_189 : decode cX8_pay 189 = .ok (.goto (-171), 3) := by decide +kernel
theorem dX8_pay_192 : decode cX8_pay 192 = .ok (.return_, 1) := by decide +kernel
theorem dX8_insure_0 : decode cX8_insure 0 = .ok (.aload_n 0, 1) := by decide +kernel
theorem dX8_insure_1 : decode cX8_insure 1 = .ok (.iconst 0, 1) := by decide +kernel
theorem dX8_insure_2 : decode cX8_insure 2 = .ok (.putfield 38, 3) := by decide +kernel
theorem dX8_insure_5 : decode cX8_insure 5 = .ok (.iload_n 1, 1) := by decide +kernel
theorem dX8_insure_6 : decode cX8_insure 6 = .ok (.invokestatic 66, 3) := by decide +kernel
theorem dX8_insure_9 : decode cX8_insure 9 = .ok (.ifCond .eq 11, 3) := by decide +kernel
theorem dX8_insure_12 : decode cX8_insure 12 = .ok (.aload_n 0, 1) := by decide +kernel
theorem dX8_insure_13 : decode cX8_insure 13 = .ok (.iload_n 2, 1) := by decide +kernel
theorem dX8_insure_14 : decode cX8_insure 14 = .ok (.invokevirtual 89, 3) := by decide +kernel
theorem dX8_insure_17 : decode cX8_insure 17 = .ok (.ifCond .ne 9, 3) := by decide +kernel
theorem dX8_insure_20 : decode cX8_insure 20 = .ok (.aload_n 0, 1) := by decide +kernel
theorem dX8_insure_21 : decode cX8_insure 21 = .ok (.iconst 1, 1) := by decide +kernel
theorem dX8_insure_22 : decode cX8_insure 22 = .ok (.invokevirtual 49, 3) := by decide +kernel
theorem dX8_insure_25 : decode cX8_insure 25 = .ok (.ireturn, 1) := by decide +kernel
theorem dX8_insure_26 : decode cX8_insure 26 = .ok (.iload_n 3, 1) := by decide +kernel
theorem dX8_insure_27 : decode cX8_insure 27 = .ok (.invokestatic 73, 3) := by decide +kernel
theorem dX8_insure_30 : decode cX8_insure 30 = .ok (.ifCond .ne 9, 3) := by decide +kernel
theorem dX8_insure_33 : decode cX8_insure 33 = .ok (.aload_n 0, 1) := by decide +kernel
theorem dX8_insure_34 : decode cX8_insure 34 = .ok (.iconst 2, 1) := by decide +kernel
theorem dX8_insure_35 : decode cX8_insure 35 = .ok (.invokevirtual 49, 3) := by decide +kernel
theorem dX8_insure_38 : decode cX8_insure 38 = .ok (.ireturn, 1) := by decide +kernel
theorem dX8_insure_39 : decode cX8_insure 39 = .ok (.aload_n 0, 1) := by decide +kernel
theorem dX8_insure_40 : decode cX8_insure 40 = .ok (.iload_n 1, 1) := by decide +kernel
theorem dX8_insure_41 : decode cX8_insure 41 = .ok (.iload_n 2, 1) := by decide +kernel
theorem dX8_insure_42 : decode cX8_insure 42 = .ok (.iload_n 3, 1) := by decide +kernel
theorem dX8_insure_43 : decode cX8_insure 43 = .ok (.invokevirtual 92, 3) := by decide +kernel
theorem dX8_insure_46 : decode cX8_insure 46 = .ok (.istore 4, 2) := by decide +kernel
theorem dX8_insure_48 : decode cX8_insure 48 = .ok (.aload_n 0, 1) := by decide +kernel
