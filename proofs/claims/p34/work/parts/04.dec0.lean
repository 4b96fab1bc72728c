theorem dX0_init_0 : decode cX0_init 0 = .ok (.aload_n 0, 1) := by decide +kernel
theorem dX0_init_1 : decode cX0_init 1 = .ok (.invokespecial 3, 3) := by decide +kernel
theorem dX0_init_4 : decode cX0_init 4 = .ok (.aload_n 0, 1) := by decide +kernel
theorem dX0_init_5 : decode cX0_init 5 = .ok (.lconst 0, 1) := by decide +kernel
theorem dX0_init_6 : decode cX0_init 6 = .ok (.putfield 9, 3) := by decide +kernel
theorem dX0_init_9 : decode cX0_init 9 = .ok (.aload_n 0, 1) := by decide +kernel
theorem dX0_init_10 : decode cX0_init 10 = .ok (.bipush 64, 2) := by decide +kernel
theorem dX0_init_12 : decode cX0_init 12 = .ok (.newarray .int, 2) := by decide +kernel
theorem dX0_init_14 : decode cX0_init 14 = .ok (.putfield 15, 3) := by decide +kernel
theorem dX0_init_17 : decode cX0_init 17 = .ok (.aload_n 0, 1) := by decide +kernel
theorem dX0_init_18 : decode cX0_init 18 = .ok (.bipush 64, 2) := by decide +kernel
theorem dX0_init_20 : decode cX0_init 20 = .ok (.newarray .int, 2) := by decide +kernel
theorem dX0_init_22 : decode cX0_init 22 = .ok (.putfield 19, 3) := by decide +kernel
theorem dX0_init_25 : decode cX0_init 25 = .ok (.aload_n 0, 1) := by decide +kernel
theorem dX0_init_26 : decode cX0_init 26 = .ok (.bipush 64, 2) := by decide +kernel
theorem dX0_init_28 : decode cX0_init 28 = .ok (.newarray .int, 2) := by decide +kernel
theorem dX0_init_30 : decode cX0_init 30 = .ok (.putfield 22, 3) := by decide +kernel
theorem dX0_init_33 : decode cX0_init 33 = .ok (.aload_n 0, 1) := by decide +kernel
theorem dX0_init_34 : decode cX0_init 34 = .ok (.bipush 64, 2) := by decide +kernel
theorem dX0_init_36 : decode cX0_init 36 = .ok (.newarray .int, 2) := by decide +kernel
theorem dX0_init_38 : decode cX0_init 38 = .ok (.putfield 25, 3) := by decide +kernel
theorem dX0_init_41 : decode cX0_init 41 = .ok (.aload_n 0, 1) := by decide +kernel
theorem dX0_init_42 : decode cX0_init 42 = .ok (.bipush 64, 2) := by decide +kernel
theorem dX0_init_44 : decode cX0_init 44 = .ok (.newarray .int, 2) := by decide +kernel
theorem dX0_init_46 : decode cX0_init 46 = .ok (.putfield 28, 3) := by decide +kernel
theorem dX0_init_49 : decode cX0_init 49 = .ok (.aload_n 0, 1) := by decide +kernel
theorem dX0_init_50 : decode cX0_init 50 = .ok (.bipush 64, 2) := by decide +kernel
theorem dX0_init_52 : decode cX0_init 52 = .ok (.newarray .int, 2) := by decide +kernel
theorem dX0_init_54 : decode cX0_init 54 = .ok (.putfield 31, 3) := by decide +kernel
theorem dX0_init_57 : decode cX0_init 57 = .ok (.aload_n 0, 1) := by decide +kernel
theorem dX0_init_58 : decode cX0_init 58 = .ok (.getfield 15, 3) := by decide +kernel
theorem dX0_init_61 : decode cX0_init 61 = .ok (.bipush 100, 2) := by decide +kernel
theorem dX0_init_63 : decode cX0_init 63 = .ok (.invokestatic 34, 3) := by decide +kernel
theorem dX0_init_66 : decode cX0_init 66 = .ok (.aload_n 0, 1) := by decide +kernel
theorem dX0_init_67 : decode cX0_init 67 = .ok (.getfield 19, 3) := by decide +kernel
theorem dX0_init_70 : decode cX0_init 70 = .ok (.iconst (-1), 1) := by decide +kernel
theorem dX0_init_71 : decode cX0_init 71 = .ok (.invokestatic 34, 3) := by decide +kernel
theorem dX0_init_74 : decode cX0_init 74 = .ok (.aload_n 0, 1) := by decide +kernel
theorem dX0_init_75 : decode cX0_init 75 = .ok (.getfield 25, 3) := by decide +kernel
theorem dX0_init_78 : decode cX0_init 78 = .ok (.iconst (-1), 1) := by decide +kernel
theorem dX0_init_79 : decode cX0_init 79 = .ok (.invokestatic 34, 3) := by decide +kernel
theorem dX0_init_82 : decode cX0_init 82 = .ok (.return_, 1) := by decide +kernel
theorem dX0_become_0 : decode cX0_become 0 = .ok (.aload_n 0, 1) := by decide +kernel
theorem dX0_become_1 : decode cX0_become 1 = .ok (.aload_n 1, 1) := by decide +kernel
theorem dX0_become_2 : decode cX0_become 2 = .ok (.getfield 9, 3) := by decide +kernel
theorem dX0_become_5 : decode cX0_become 5 = .ok (.putfield 9, 3) := by decide +kernel
theorem dX0_become_8 : decode cX0_become 8 = .ok (.aload_n 1, 1) := by decide +kernel
theorem dX0_become_9 : decode cX0_become 9 = .ok (.getfield 15, 3) := by decide +kernel
theorem dX0_become_12 : decode cX0_become 12 = .ok (.aload_n 0, 1) := by decide +kernel
theorem dX0_become_13 : decode cX0_become 13 = .ok (.getfield 15, 3) := by decide +kernel
theorem dX0_become_16 : decode cX0_become 16 = .ok (.invokestatic 40, 3) := by decide +kernel
theorem dX0_become_19 : decode cX0_become 19 = .ok (.aload_n 1, 1) := by decide +kernel
theorem dX0_become_20 : decode cX0_become 20 = .ok (.getfield 19, 3) := by decide +kernel
theorem dX0_become_23 : decode cX0_become 23 = .ok (.aload_n 0, 1) := by decide +kernel
theorem dX0_become_24 : decode cX0_become 24 = .ok (.getfield 19, 3) := by decide +kernel
theorem dX0_become_27 : decode cX0_become 27 = .ok (.invokestatic 40, 3) := by decide +kernel
theorem dX0_become_30 : decode cX0_become 30 = .ok (.aload_n 1, 1) := by decide +kernel
theorem dX0_become_31 : decode cX0_become 31 = .ok (.getfield 22, 3) := by decide +kernel
theorem dX0_become_34 : decode cX0_become 34 = .ok (.aload_n 0, 1) := by decide +kernel
theorem dX0_become_35 : decode cX0_become 35 = .ok (.getfield 22, 3) := by decide +kernel
theorem dX0_become_38 : decode cX0_become 38 = .ok (.invokestatic 40, 3) := by decide +kernel
theorem dX0_become_41 : decode cX0_become 41 = .ok (.aload_n 1, 1) := by decide +kernel
theorem dX0_become_42 : decode cX0_become 42 = .ok (.getfield 25, 3) := by decide +kernel
theorem dX0_become_45 : decode cX0_become 45 = .ok (.aload_n 0, 1) := by decide +kernel
theorem dX0_become_46 : decode cX0_become 46 = .ok (.getfield 25, 3) := by decide +kernel
theorem dX0_become_49 : decode cX0_become 49 = .ok (.invokestatic 40, 3) := by decide +kernel
theorem dX0_become_52 : decode cX0_become 52 = .ok (.aload_n 1, 1) := by decide +kernel
theorem dX0_become_53 : decode cX0_become 53 = .ok (.getfield 28, 3) := by decide +kernel
theorem dX0_become_56 : decode cX0_become 56 = .ok (.aload_n 0, 1) := by decide +kernel
theorem dX0_become_57 : decode cX0_become 57 = .ok (.getfield 28, 3) := by decide +kernel
theorem dX0_become_60 : decode cX0_become 60 = .ok (.invokestatic 40, 3) := by decide +kernel
theorem dX0_become_63 : decode cX0_become 63 = .ok (.aload_n 1, 1) := by decide +kernel
theorem dX0_become_64 : decode cX0_become 64 = .ok (.getfield 31, 3) := by decide +kernel
theorem dX0_become_67 : decode cX0_become 67 = .ok (.aload_n 0, 1) := by decide +kernel
theorem dX0_become_68 : decode cX0_become 68 = .ok (.getfield 31, 3) := by decide +kernel
theorem dX0_become_71 : decode cX0_become 71 = .ok (.invokestatic 40, 3) := by decide +kernel
theorem dX0_become_74 : decode cX0_become 74 = .ok (.return_, 1) := by decide +kernel
theorem dX0_isOne_0 : decode cX0_isOne 0 = .ok (.aload_n 0, 1) := by decide +kernel
theorem dX0_isOne_1 : decode cX0_isOne 1 = .ok (.getfield 9, 3) := by decide +kernel
theorem dX0_isOne_4 : decode cX0_isOne 4 = .ok (.iload_n 1, 1) := by decide +kernel
theorem dX0_isOne_5 : decode cX0_isOne 5 = .ok (.invokestatic 44, 3) := by decide +kernel
theorem dX0_isOne_8 : decode cX0_isOne 8 = .ok (.land, 1) := by decide +kernel
theorem dX0_isOne_9 : decode cX0_isOne 9 = .ok (.lconst 0, 1) := by decide +kernel
theorem dX0_isOne_10 : decode cX0_isOne 10 = .ok (.lcmp, 1) := by decide +kernel
theorem dX0_isOne_11 : decode cX0_isOne 11 = .ok (.ifCond .eq 7, 3) := by decide +kernel
theorem dX0_isOne_14 : decode cX0_isOne 14 = .ok (.iconst 1, 1) := by decide +kernel
theorem dX0_isOne_15 : decode cX0_isOne 15 = .ok (.goto 4, 3) := by decide +kernel
theorem dX0_isOne_18 : decode cX0_isOne 18 = .ok (.iconst 0, 1) := by decide +kernel
theorem dX0_isOne_19 : decode cX0_isOne 19 = .ok (.ireturn, 1) := by decide +kernel
theorem dX0_bitOf_0 : decode cX0_bitOf 0 = .ok (.aload_n 0, 1) := by decide +kernel
theorem dX0_bitOf_1 : decode cX0_bitOf 1 = .ok (.iload_n 1, 1) := by decide +kernel
theorem dX0_bitOf_2 : decode cX0_bitOf 2 = .ok (.invokevirtual 48, 3) := by decide +kernel
theorem dX0_bitOf_5 : decode cX0_bitOf 5 = .ok (.ifCond .eq 7, 3) := by decide +kernel
theorem dX0_bitOf_8 : decode cX0_bitOf 8 = .ok (.iconst 1, 1) := by decide +kernel
theorem dX0_bitOf_9 : decode cX0_bitOf 9 = .ok (.goto 4, 3) := by decide +kernel
theorem dX0_bitOf_12 : decode cX0_bitOf 12 = .ok (.iconst 0, 1) := by decide +kernel
theorem dX0_bitOf_13 : decode cX0_bitOf 13 = .ok (.ireturn, 1) := by decide +kernel
theorem dX0_putBit_0 : decode cX0_putBit 0 = .ok (.aload_n 0, 1) := by decide +kernel
theorem dX0_putBit_1 : decode cX0_putBit 1 = .ok (.iload_n 2, 1) := by decide +kernel
theorem dX0_putBit_2 : decode cX0_putBit 2 = .ok (.ifCond .eq 15, 3) := by decide +kernel
theorem dX0_putBit_5 : decode cX0_putBit 5 = .ok (.aload_n 0, 1) := by decide +kernel
theorem dX0_putBit_6 : decode cX0_putBit 6 = .ok (.getfield 9, 3) := by decide +kernel
theorem dX0_putBit_9 : decode cX0_putBit 9 = .ok (.iload_n 1, 1) := by decide +kernel
theorem dX0_putBit_10 : decode cX0_putBit 10 = .ok (.invokestatic 44, 3) := by decide +kernel
theorem dX0_putBit_13 : decode cX0_putBit 13 = .ok (.lor, 1) := by decide +kernel
theorem dX0_putBit_14 : decode cX0_putBit 14 = .ok (.goto 16, 3) := by decide +kernel
theorem dX0_putBit_17 : decode cX0_putBit 17 = .ok (.aload_n 0, 1) := by decide +kernel
theorem dX0_putBit_18 : decode cX0_putBit 18 = .ok (.getfield 9, 3) := by decide +kernel
theorem dX0_putBit_21 : decode cX0_putBit 21 = .ok (.iload_n 1, 1) := by decide +kernel
theorem dX0_putBit_22 : decode cX0_putBit 22 = .ok (.invokestatic 44, 3) := by decide +kernel
theorem dX0_putBit_25 : decode cX0_putBit 25 = .ok (.ldc2_w 52, 3) := by decide +kernel
theorem dX0_putBit_28 : decode cX0_putBit 28 = .ok (.lxor, 1) := by decide +kernel
theorem dX0_putBit_29 : decode cX0_putBit 29 = .ok (.land, 1) := by decide +kernel
theorem dX0_putBit_30 : decode cX0_putBit 30 = .ok (.putfield 9, 3) := by decide +kernel
theorem dX0_putBit_33 : decode cX0_putBit 33 = .ok (.return_, 1) := by decide +kernel
theorem dX0_isLeased_0 : decode cX0_isLeased 0 = .ok (.aload_n 0, 1) := by decide +kernel
theorem dX0_isLeased_1 : decode cX0_isLeased 1 = .ok (.getfield 19, 3) := by decide +kernel
theorem dX0_isLeased_4 : decode cX0_isLeased 4 = .ok (.iload_n 1, 1) := by decide +kernel
theorem dX0_isLeased_5 : decode cX0_isLeased 5 = .ok (.iaload, 1) := by decide +kernel
theorem dX0_isLeased_6 : decode cX0_isLeased 6 = .ok (.iconst (-1), 1) := by decide +kernel
theorem dX0_isLeased_7 : decode cX0_isLeased 7 = .ok (.if_icmp .eq 7, 3) := by decide +kernel
theorem dX0_isLeased_10 : decode cX0_isLeased 10 = .ok (.iconst 1, 1) := by decide +kernel
theorem dX0_isLeased_11 : decode cX0_isLeased 11 = .ok (.goto 4, 3) := by decide +kernel
theorem dX0_isLeased_14 : decode cX0_isLeased 14 = .ok (.iconst 0, 1) := by decide +kernel
theorem dX0_isLeased_15 : decode cX0_isLeased 15 = .ok (.ireturn, 1) := by decide +kernel
theorem dX0_isLeasedTo_0 : decode cX0_isLeasedTo 0 = .ok (.iload_n 1, 1) := by decide +kernel
theorem dX0_isLeasedTo_1 : decode cX0_isLeasedTo 1 = .ok (.invokestatic 54, 3) := by decide +kernel
theorem dX0_isLeasedTo_4 : decode cX0_isLeasedTo 4 = .ok (.ifCond .eq 17, 3) := by decide +kernel
theorem dX0_isLeasedTo_7 : decode cX0_isLeasedTo 7 = .ok (.aload_n 0, 1) := by decide +kernel
theorem dX0_isLeasedTo_8 : decode cX0_isLeasedTo 8 = .ok (.getfield 19, 3) := by decide +kernel
theorem dX0_isLeasedTo_11 : decode cX0_isLeasedTo 11 = .ok (.iload_n 1, 1) := by decide +kernel
theorem dX0_isLeasedTo_12 : decode cX0_isLeasedTo 12 = .ok (.iaload, 1) := by decide +kernel
theorem dX0_isLeasedTo_13 : decode cX0_isLeasedTo 13 = .ok (.iload_n 2, 1) := by decide +kernel
theorem dX0_isLeasedTo_14 : decode cX0_isLeasedTo 14 = .ok (.if_icmp .ne 7, 3) := by decide +kernel
theorem dX0_isLeasedTo_17 : decode cX0_isLeasedTo 17 = .ok (.iconst 1, 1) := by decide +kernel
theorem dX0_isLeasedTo_18 : decode cX0_isLeasedTo 18 = .ok (.goto 4, 3) := by decide +kernel
theorem dX0_isLeasedTo_21 : decode cX0_isLeasedTo 21 = .ok (.iconst 0, 1) := by decide +kernel
theorem dX0_isLeasedTo_22 : decode cX0_isLeasedTo 22 = .ok (.ireturn, 1) := by decide +kernel
theorem dX0_hasPolicy_0 : decode cX0_hasPolicy 0 = .ok (.aload_n 0, 1) := by decide +kernel
theorem dX0_hasPolicy_1 : decode cX0_hasPolicy 1 = .ok (.getfield 25, 3) := by decide +kernel
theorem dX0_hasPolicy_4 : decode cX0_hasPolicy 4 = .ok (.iload_n 1, 1) := by decide +kernel
theorem dX0_hasPolicy_5 : decode cX0_hasPolicy 5 = .ok (.iaload, 1) := by decide +kernel
theorem dX0_hasPolicy_6 : decode cX0_hasPolicy 6 = .ok (.iconst (-1), 1) := by decide +kernel
theorem dX0_hasPolicy_7 : decode cX0_hasPolicy 7 = .ok (.if_icmp .eq 7, 3) := by decide +kernel
theorem dX0_hasPolicy_10 : decode cX0_hasPolicy 10 = .ok (.iconst 1, 1) := by decide +kernel
theorem dX0_hasPolicy_11 : decode cX0_hasPolicy 11 = .ok (.goto 4, 3) := by decide +kernel
theorem dX0_hasPolicy_14 : decode cX0_hasPolicy 14 = .ok (.iconst 0, 1) := by decide +kernel
theorem dX0_hasPolicy_15 : decode cX0_hasPolicy 15 = .ok (.ireturn, 1) := by decide +kernel
theorem dX0_endPolicy_0 : decode cX0_endPolicy 0 = .ok (.aload_n 0, 1) := by decide +kernel
theorem dX0_endPolicy_1 : decode cX0_endPolicy 1 = .ok (.getfield 25, 3) := by decide +kernel
theorem dX0_endPolicy_4 : decode cX0_endPolicy 4 = .ok (.iload_n 1, 1) := by decide +kernel
theorem dX0_endPolicy_5 : decode cX0_endPolicy 5 = .ok (.iconst (-1), 1) := by decide +kernel
theorem dX0_endPolicy_6 : decode cX0_endPolicy 6 = .ok (.iastore, 1) := by decide +kernel
theorem dX0_endPolicy_7 : decode cX0_endPolicy 7 = .ok (.return_, 1) := by decide +kernel
theorem dX0_endLease_0 : decode cX0_endLease 0 = .ok (.aload_n 0, 1) := by decide +kernel
theorem dX0_endLease_1 : decode cX0_endLease 1 = .ok (.getfield 19, 3) := by decide +kernel
theorem dX0_endLease_4 : decode cX0_endLease 4 = .ok (.iload_n 1, 1) := by decide +kernel
theorem dX0_endLease_5 : decode cX0_endLease 5 = .ok (.iconst (-1), 1) := by decide +kernel
theorem dX0_endLease_6 : decode cX0_endLease 6 = .ok (.iastore, 1) := by decide +kernel
theorem dX0_endLease_7 : decode cX0_endLease 7 = .ok (.aload_n 0, 1) := by decide +kernel
theorem dX0_endLease_8 : decode cX0_endLease 8 = .ok (.iload_n 1, 1) := by decide +kernel
theorem dX0_endLease_9 : decode cX0_endLease 9 = .ok (.invokevirtual 57, 3) := by decide +kernel
theorem dX0_endLease_12 : decode cX0_endLease 12 = .ok (.return_, 1) := by decide +kernel
theorem dX0_leasesOf_0 : decode cX0_leasesOf 0 = .ok (.lconst 0, 1) := by decide +kernel
theorem dX0_leasesOf_1 : decode cX0_leasesOf 1 = .ok (.lstore_n 2, 1) := by decide +kernel
theorem dX0_leasesOf_2 : decode cX0_leasesOf 2 = .ok (.iconst 0, 1) := by decide +kernel
theorem dX0_leasesOf_3 : decode cX0_leasesOf 3 = .ok (.istore 4, 2) := by decide +kernel
theorem dX0_leasesOf_5 : decode cX0_leasesOf 5 = .ok (.iload 4, 2) := by decide +kernel
theorem dX0_leasesOf_7 : decode cX0_leasesOf 7 = .ok (.bipush 64, 2) := by decide +kernel
theorem dX0_leasesOf_9 : decode cX0_leasesOf 9 = .ok (.if_icmp .ge 28, 3) := by decide +kernel
theorem dX0_leasesOf_12 : decode cX0_leasesOf 12 = .ok (.aload_n 0, 1) := by decide +kernel
theorem dX0_leasesOf_13 : decode cX0_leasesOf 13 = .ok (.getfield 19, 3) := by decide +kernel
theorem dX0_leasesOf_16 : decode cX0_leasesOf 16 = .ok (.iload 4, 2) := by decide +kernel
theorem dX0_leasesOf_18 : decode cX0_leasesOf 18 = .ok (.iaload, 1) := by decide +kernel
theorem dX0_leasesOf_19 : decode cX0_leasesOf 19 = .ok (.iload_n 1, 1) := by decide +kernel
theorem dX0_leasesOf_20 : decode cX0_leasesOf 20 = .ok (.if_icmp .ne 11, 3) := by decide +kernel
theorem dX0_leasesOf_23 : decode cX0_leasesOf 23 = .ok (.lload_n 2, 1) := by decide +kernel
theorem dX0_leasesOf_24 : decode cX0_leasesOf 24 = .ok (.iload 4, 2) := by decide +kernel
theorem dX0_leasesOf_26 : decode cX0_leasesOf 26 = .ok (.invokestatic 44, 3) := by decide +kernel
theorem dX0_leasesOf_29 : decode cX0_leasesOf 29 = .ok (.lor, 1) := by decide +kernel
theorem dX0_leasesOf_30 : decode cX0_leasesOf 30 = .ok (.lstore_n 2, 1) := by decide +kernel
theorem dX0_leasesOf_31 : decode cX0_leasesOf 31 = .ok (.iinc 4 1, 3) := by decide +kernel
theorem dX0_leasesOf_34 : decode cX0_leasesOf 34 = .ok (.goto (-29), 3) := by decide +kernel
theorem dX0_leasesOf_37 : decode cX0_leasesOf 37 = .ok (.lload_n 2, 1) := by decide +kernel
theorem dX0_leasesOf_38 : decode cX0_leasesOf 38 = .ok (.lreturn, 1) := by decide +kernel
theorem dX0_insured_0 : decode cX0_insured 0 = .ok (.lconst 0, 1) := by decide +kernel
theorem dX0_insured_1 : decode cX0_insured 1 = .ok (.lstore_n 1, 1) := by decide +kernel
theorem dX0_insured_2 : decode cX0_insured 2 = .ok (.iconst 0, 1) := by decide +kernel
theorem dX0_insured_3 : decode cX0_insured 3 = .ok (.istore_n 3, 1) := by decide +kernel
theorem dX0_insured_4 : decode cX0_insured 4 = .ok (.iload_n 3, 1) := by decide +kernel
theorem dX0_insured_5 : decode cX0_insured 5 = .ok (.bipush 64, 2) := by decide +kernel
theorem dX0_insured_7 : decode cX0_insured 7 = .ok (.if_icmp .ge 24, 3) := by decide +kernel
theorem dX0_insured_10 : decode cX0_insured 10 = .ok (.aload_n 0, 1) := by decide +kernel
theorem dX0_insured_11 : decode cX0_insured 11 = .ok (.iload_n 3, 1) := by decide +kernel
theorem dX0_insured_12 : decode cX0_insured 12 = .ok (.invokevirtual 61, 3) := by decide +kernel
theorem dX0_insured_15 : decode cX0_insured 15 = .ok (.ifCond .eq 10, 3) := by decide +kernel
theorem dX0_insured_18 : decode cX0_insured 18 = .ok (.lload_n 1, 1) := by decide +kernel
theorem dX0_insured_19 : decode cX0_insured 19 = .ok (.iload_n 3, 1) := by decide +kernel
theorem dX0_insured_20 : decode cX0_insured 20 = .ok (.invokestatic 44, 3) := by decide +kernel
theorem dX0_insured_23 : decode cX0_insured 23 = .ok (.lor, 1) := by decide +kernel
theorem dX0_insured_24 : decode cX0_insured 24 = .ok (.lstore_n 1, 1) := by decide +kernel
theorem dX0_insured_25 : decode cX0_insured 25 = .ok (.iinc 3 1, 3) := by decide +kernel
theorem dX0_insured_28 : decode cX0_insured 28 = .ok (.goto (-24), 3) := by decide +kernel
theorem dX0_insured_31 : decode cX0_insured 31 = .ok (.lload_n 1, 1) := by decide +kernel
theorem dX0_insured_32 : decode cX0_insured 32 = .ok (.lreturn, 1) := by decide +kernel
theorem dX0_leasedTo_0 : decode cX0_leasedTo 0 = .ok (.aload_n 0, 1) := by decide +kernel
theorem dX0_leasedTo_1 : decode cX0_leasedTo 1 = .ok (.iload_n 1, 1) := by decide +kernel
theorem dX0_leasedTo_2 : decode cX0_leasedTo 2 = .ok (.invokevirtual 64, 3) := by decide +kernel
theorem dX0_leasedTo_5 : decode cX0_leasedTo 5 = .ok (.invokestatic 67, 3) := by decide +kernel
theorem dX0_leasedTo_8 : decode cX0_leasedTo 8 = .ok (.ireturn, 1) := by decide +kernel
theorem dX0_insuredOf_0 : decode cX0_insuredOf 0 = .ok (.aload_n 0, 1) := by decide +kernel
theorem dX0_insuredOf_1 : decode cX0_insuredOf 1 = .ok (.iload_n 1, 1) := by decide +kernel
theorem dX0_insuredOf_2 : decode cX0_insuredOf 2 = .ok (.invokevirtual 64, 3) := by decide +kernel
theorem dX0_insuredOf_5 : decode cX0_insuredOf 5 = .ok (.aload_n 0, 1) := by decide +kernel
theorem dX0_insuredOf_6 : decode cX0_insuredOf 6 = .ok (.invokevirtual 73, 3) := by decide +kernel
theorem dX0_insuredOf_9 : decode cX0_insuredOf 9 = .ok (.land, 1) := by decide +kernel
theorem dX0_insuredOf_10 : decode cX0_insuredOf 10 = .ok (.invokestatic 67, 3) := by decide +kernel
theorem dX0_insuredOf_13 : decode cX0_insuredOf 13 = .ok (.ireturn, 1) := by decide +kernel
theorem dX0_leasedInAll_0 : decode cX0_leasedInAll 0 = .ok (.bipush 64, 2) := by decide +kernel
theorem dX0_leasedInAll_2 : decode cX0_leasedInAll 2 = .ok (.aload_n 0, 1) := by decide +kernel
theorem dX0_leasedInAll_3 : decode cX0_leasedInAll 3 = .ok (.iconst (-1), 1) := by decide +kernel
theorem dX0_leasedInAll_4 : decode cX0_leasedInAll 4 = .ok (.invokevirtual 77, 3) := by decide +kernel
theorem dX0_leasedInAll_7 : decode cX0_leasedInAll 7 = .ok (.isub, 1) := by decide +kernel
theorem dX0_leasedInAll_8 : decode cX0_leasedInAll 8 = .ok (.ireturn, 1) := by decide +kernel
theorem dX0_insuredInAll_0 : decode cX0_insuredInAll 0 = .ok (.aload_n 0, 1) := by decide +kernel
theorem dX0_insuredInAll_1 : decode cX0_insuredInAll 1 = .ok (.invokevirtual 73, 3) := by decide +kernel
theorem dX0_insuredInAll_4 : decode cX0_insuredInAll 4 = .ok (.invokestatic 67, 3) := by decide +kernel
theorem dX0_insuredInAll_7 : decode cX0_insuredInAll 7 = .ok (.ireturn, 1) := by decide +kernel
theorem dX0_insuredBy_0 : decode cX0_insuredBy 0 = .ok (.iconst 0, 1) := by decide +kernel
theorem dX0_insuredBy_1 : decode cX0_insuredBy 1 = .ok (.istore_n 2, 1) := by decide +kernel
theorem dX0_insuredBy_2 : decode cX0_insuredBy 2 = .ok (.iconst 0, 1) := by decide +kernel
theorem dX0_insuredBy_3 : decode cX0_insuredBy 3 = .ok (.istore_n 3, 1) := by decide +kernel
theorem dX0_insuredBy_4 : decode cX0_insuredBy 4 = .ok (.iload_n 3, 1) := by decide +kernel
theorem dX0_insuredBy_5 : decode cX0_insuredBy 5 = .ok (.bipush 64, 2) := by decide +kernel
theorem dX0_insuredBy_7 : decode cX0_insuredBy 7 = .ok (.if_icmp .ge 22, 3) := by decide +kernel
theorem dX0_insuredBy_10 : decode cX0_insuredBy 10 = .ok (.aload_n 0, 1) := by decide +kernel
theorem dX0_insuredBy_11 : decode cX0_insuredBy 11 = .ok (.getfield 25, 3) := by decide +kernel
theorem dX0_insuredBy_14 : decode cX0_insuredBy 14 = .ok (.iload_n 3, 1) := by decide +kernel
theorem dX0_insuredBy_15 : decode cX0_insuredBy 15 = .ok (.iaload, 1) := by decide +kernel
theorem dX0_insuredBy_16 : decode cX0_insuredBy 16 = .ok (.iload_n 1, 1) := by decide +kernel
theorem dX0_insuredBy_17 : decode cX0_insuredBy 17 = .ok (.if_icmp .ne 6, 3) := by decide +kernel
theorem dX0_insuredBy_20 : decode cX0_insuredBy 20 = .ok (.iinc 2 1, 3) := by decide +kernel
theorem dX0_insuredBy_23 : decode cX0_insuredBy 23 = .ok (.iinc 3 1, 3) := by decide +kernel
theorem dX0_insuredBy_26 : decode cX0_insuredBy 26 = .ok (.goto (-22), 3) := by decide +kernel
theorem dX0_insuredBy_29 : decode cX0_insuredBy 29 = .ok (.iload_n 2, 1) := by decide +kernel
theorem dX0_insuredBy_30 : decode cX0_insuredBy 30 = .ok (.ireturn, 1) := by decide +kernel
theorem dX0_onesBelow_0 : decode cX0_onesBelow 0 = .ok (.lconst 0, 1) := by decide +kernel
theorem dX0_onesBelow_1 : decode cX0_onesBelow 1 = .ok (.lstore_n 2, 1) := by decide +kernel
theorem dX0_onesBelow_2 : decode cX0_onesBelow 2 = .ok (.iconst 0, 1) := by decide +kernel
theorem dX0_onesBelow_3 : decode cX0_onesBelow 3 = .ok (.istore 4, 2) := by decide +kernel
theorem dX0_onesBelow_5 : decode cX0_onesBelow 5 = .ok (.iload 4, 2) := by decide +kernel
theorem dX0_onesBelow_7 : decode cX0_onesBelow 7 = .ok (.bipush 64, 2) := by decide +kernel
theorem dX0_onesBelow_9 : decode cX0_onesBelow 9 = .ok (.if_icmp .ge 37, 3) := by decide +kernel
theorem dX0_onesBelow_12 : decode cX0_onesBelow 12 = .ok (.aload_n 0, 1) := by decide +kernel
theorem dX0_onesBelow_13 : decode cX0_onesBelow 13 = .ok (.getfield 15, 3) := by decide +kernel
theorem dX0_onesBelow_16 : decode cX0_onesBelow 16 = .ok (.iload 4, 2) := by decide +kernel
theorem dX0_onesBelow_18 : decode cX0_onesBelow 18 = .ok (.iaload, 1) := by decide +kernel
theorem dX0_onesBelow_19 : decode cX0_onesBelow 19 = .ok (.iload_n 1, 1) := by decide +kernel
theorem dX0_onesBelow_20 : decode cX0_onesBelow 20 = .ok (.if_icmp .ge 20, 3) := by decide +kernel
theorem dX0_onesBelow_23 : decode cX0_onesBelow 23 = .ok (.aload_n 0, 1) := by decide +kernel
theorem dX0_onesBelow_24 : decode cX0_onesBelow 24 = .ok (.iload 4, 2) := by decide +kernel
theorem dX0_onesBelow_26 : decode cX0_onesBelow 26 = .ok (.invokevirtual 48, 3) := by decide +kernel
theorem dX0_onesBelow_29 : decode cX0_onesBelow 29 = .ok (.ifCond .eq 11, 3) := by decide +kernel
theorem dX0_onesBelow_32 : decode cX0_onesBelow 32 = .ok (.lload_n 2, 1) := by decide +kernel
theorem dX0_onesBelow_33 : decode cX0_onesBelow 33 = .ok (.iload 4, 2) := by decide +kernel
theorem dX0_onesBelow_35 : decode cX0_onesBelow 35 = .ok (.invokestatic 44, 3) := by decide +kernel
theorem dX0_onesBelow_38 : decode cX0_onesBelow 38 = .ok (.lor, 1) := by decide +kernel
theorem dX0_onesBelow_39 : decode cX0_onesBelow 39 = .ok (.lstore_n 2, 1) := by decide +kernel
theorem dX0_onesBelow_40 : decode cX0_onesBelow 40 = .ok (.iinc 4 1, 3) := by decide +kernel
theorem dX0_onesBelow_43 : decode cX0_onesBelow 43 = .ok (.goto (-38), 3) := by decide +kernel
theorem dX0_onesBelow_46 : decode cX0_onesBelow 46 = .ok (.lload_n 2, 1) := by decide +kernel
theorem dX0_onesBelow_47 : decode cX0_onesBelow 47 = .ok (.lreturn, 1) := by decide +kernel
theorem dX1_init_0 : decode cX1_init 0 = .ok (.aload_n 0, 1) := by decide +kernel
theorem dX1_init_1 : decode cX1_init 1 = .ok (.invokespecial 3, 3) := by decide +kernel
theorem dX1_init_4 : decode cX1_init 4 = .ok (.aload_n 0, 1) := by decide +kernel
theorem dX1_init_5 : decode cX1_init 5 = .ok (.iconst 0, 1) := by decide +kernel
theorem dX1_init_6 : decode cX1_init 6 = .ok (.putfield 9, 3) := by decide +kernel
theorem dX1_init_9 : decode cX1_init 9 = .ok (.aload_n 0, 1) := by decide +kernel
theorem dX1_init_10 : decode cX1_init 10 = .ok (.bipush 64, 2) := by decide +kernel
theorem dX1_init_12 : decode cX1_init 12 = .ok (.newarray .int, 2) := by decide +kernel
theorem dX1_init_14 : decode cX1_init 14 = .ok (.putfield 15, 3) := by decide +kernel
theorem dX1_init_17 : decode cX1_init 17 = .ok (.aload_n 0, 1) := by decide +kernel
theorem dX1_init_18 : decode cX1_init 18 = .ok (.bipush 64, 2) := by decide +kernel
theorem dX1_init_20 : decode cX1_init 20 = .ok (.newarray .int, 2) := by decide +kernel
theorem dX1_init_22 : decode cX1_init 22 = .ok (.putfield 19, 3) := by decide +kernel
theorem dX1_init_25 : decode cX1_init 25 = .ok (.aload_n 0, 1) := by decide +kernel
theorem dX1_init_26 : decode cX1_init 26 = .ok (.getfield 19, 3) := by decide +kernel
theorem dX1_init_29 : decode cX1_init 29 = .ok (.iconst (-1), 1) := by decide +kernel
theorem dX1_init_30 : decode cX1_init 30 = .ok (.invokestatic 22, 3) := by decide +kernel
theorem dX1_init_33 : decode cX1_init 33 = .ok (.return_, 1) := by decide +kernel
theorem dX1_become_0 : decode cX1_become 0 = .ok (.aload_n 0, 1) := by decide +kernel
theorem dX1_become_1 : decode cX1_become 1 = .ok (.aload_n 1, 1) := by decide +kernel
theorem dX1_become_2 : decode cX1_become 2 = .ok (.getfield 9, 3) := by decide +kernel
theorem dX1_become_5 : decode cX1_become 5 = .ok (.putfield 9, 3) := by decide +kernel
theorem dX1_become_8 : decode cX1_become 8 = .ok (.aload_n 1, 1) := by decide +kernel
theorem dX1_become_9 : decode cX1_become 9 = .ok (.getfield 15, 3) := by decide +kernel
theorem dX1_become_12 : decode cX1_become 12 = .ok (.aload_n 0, 1) := by decide +kernel
theorem dX1_become_13 : decode cX1_become 13 = .ok (.getfield 15, 3) := by decide +kernel
theorem dX1_become_16 : decode cX1_become 16 = .ok (.invokestatic 28, 3) := by decide +kernel
theorem dX1_become_19 : decode cX1_become 19 = .ok (.aload_n 1, 1) := by decide +kernel
theorem dX1_become_20 : decode cX1_become 20 = .ok (.getfield 19, 3) := by decide +kernel
theorem dX1_become_23 : decode cX1_become 23 = .ok (.aload_n 0, 1) := by decide +kernel
theorem dX1_become_24 : decode cX1_become 24 = .ok (.getfield 19, 3) := by decide +kernel
theorem dX1_become_27 : decode cX1_become 27 = .ok (.invokestatic 28, 3) := by decide +kernel
theorem dX1_become_30 : decode cX1_become 30 = .ok (.return_, 1) := by decide +kernel
theorem dX1_isOwed_0 : decode cX1_isOwed 0 = .ok (.aload_n 0, 1) := by decide +kernel
theorem dX1_isOwed_1 : decode cX1_isOwed 1 = .ok (.getfield 19, 3) := by decide +kernel
theorem dX1_isOwed_4 : decode cX1_isOwed 4 = .ok (.iload_n 1, 1) := by decide +kernel
theorem dX1_isOwed_5 : decode cX1_isOwed 5 = .ok (.iaload, 1) := by decide +kernel
theorem dX1_isOwed_6 : decode cX1_isOwed 6 = .ok (.iconst (-1), 1) := by decide +kernel
theorem dX1_isOwed_7 : decode cX1_isOwed 7 = .ok (.if_icmp .eq 7, 3) := by decide +kernel
theorem dX1_isOwed_10 : decode cX1_isOwed 10 = .ok (.iconst 1, 1) := by decide +kernel
theorem dX1_isOwed_11 : decode cX1_isOwed 11 = .ok (.goto 4, 3) := by decide +kernel
theorem dX1_isOwed_14 : decode cX1_isOwed 14 = .ok (.iconst 0, 1) := by decide +kernel
theorem dX1_isOwed_15 : decode cX1_isOwed 15 = .ok (.ireturn, 1) := by decide +kernel
theorem dX1_dueOf_0 : decode cX1_dueOf 0 = .ok (.iload_n 1, 1) := by decide +kernel
theorem dX1_dueOf_1 : decode cX1_dueOf 1 = .ok (.invokestatic 32, 3) := by decide +kernel
theorem dX1_dueOf_4 : decode cX1_dueOf 4 = .ok (.ifCond .eq 12, 3) := by decide +kernel
theorem dX1_dueOf_7 : decode cX1_dueOf 7 = .ok (.aload_n 0, 1) := by decide +kernel
theorem dX1_dueOf_8 : decode cX1_dueOf 8 = .ok (.getfield 19, 3) := by decide +kernel
theorem dX1_dueOf_11 : decode cX1_dueOf 11 = .ok (.iload_n 1, 1) := by decide +kernel
theorem dX1_dueOf_12 : decode cX1_dueOf 12 = .ok (.iaload, 1) := by decide +kernel
theorem dX1_dueOf_13 : decode cX1_dueOf 13 = .ok (.goto 4, 3) := by decide +kernel
theorem dX1_dueOf_16 : decode cX1_dueOf 16 = .ok (.iconst (-1), 1) := by decide +kernel
theorem dX1_dueOf_17 : decode cX1_dueOf 17 = .ok (.ireturn, 1) := by decide +kernel
theorem dX1_firstCore_0 : decode cX1_firstCore 0 = .ok (.aload_n 0, 1) := by decide +kernel
theorem dX1_firstCore_1 : decode cX1_firstCore 1 = .ok (.getfield 9, 3) := by decide +kernel
theorem dX1_firstCore_4 : decode cX1_firstCore 4 = .ok (.ifCond .le 12, 3) := by decide +kernel
theorem dX1_firstCore_7 : decode cX1_firstCore 7 = .ok (.aload_n 0, 1) := by decide +kernel
theorem dX1_firstCore_8 : decode cX1_firstCore 8 = .ok (.getfield 15, 3) := by decide +kernel
theorem dX1_firstCore_11 : decode cX1_firstCore 11 = .ok (.iconst 0, 1) := by decide +kernel
theorem dX1_firstCore_12 : decode cX1_firstCore 12 = .ok (.iaload, 1) := by decide +kernel
theorem dX1_firstCore_13 : decode cX1_firstCore 13 = .ok (.goto 4, 3) := by decide +kernel
theorem dX1_firstCore_16 : decode cX1_firstCore 16 = .ok (.iconst (-1), 1) := by decide +kernel
theorem dX1_firstCore_17 : decode cX1_firstCore 17 = .ok (.ireturn, 1) := by decide +kernel
theorem dX1_enter_0 : decode cX1_enter 0 = .ok (.aload_n 0, 1) := by decide +kernel
theorem dX1_enter_1 : decode cX1_enter 1 = .ok (.getfield 9, 3) := by decide +kernel
theorem dX1_enter_4 : decode cX1_enter 4 = .ok (.bipush 64, 2) := by decide +kernel
theorem dX1_enter_6 : decode cX1_enter 6 = .ok (.if_icmp .ge 11, 3) := by decide +kernel
theorem dX1_enter_9 : decode cX1_enter 9 = .ok (.aload_n 0, 1) := by decide +kernel
theorem dX1_enter_10 : decode cX1_enter 10 = .ok (.iload_n 1, 1) := by decide +kernel
theorem dX1_enter_11 : decode cX1_enter 11 = .ok (.invokevirtual 36, 3) := by decide +kernel
theorem dX1_enter_14 : decode cX1_enter 14 = .ok (.ifCond .eq 4, 3) := by decide +kernel
theorem dX1_enter_17 : decode cX1_enter 17 = .ok (.return_, 1) := by decide +kernel
theorem dX1_enter_18 : decode cX1_enter 18 = .ok (.aload_n 0, 1) := by decide +kernel
theorem dX1_enter_19 : decode cX1_enter 19 = .ok (.getfield 9, 3) := by decide +kernel
theorem dX1_enter_22 : decode cX1_enter 22 = .ok (.istore_n 3, 1) := by decide +kernel
theorem dX1_enter_23 : decode cX1_enter 23 = .ok (.iload_n 3, 1) := by decide +kernel
theorem dX1_enter_24 : decode cX1_enter 24 = .ok (.ifCond .le 39, 3) := by decide +kernel
theorem dX1_enter_27 : decode cX1_enter 27 = .ok (.aload_n 0, 1) := by decide +kernel
theorem dX1_enter_28 : decode cX1_enter 28 = .ok (.aload_n 0, 1) := by decide +kernel
theorem dX1_enter_29 : decode cX1_enter 29 = .ok (.getfield 15, 3) := by decide +kernel
theorem dX1_enter_32 : decode cX1_enter 32 = .ok (.iload_n 3, 1) := by decide +kernel
theorem dX1_enter_33 : decode cX1_enter 33 = .ok (.iconst 1, 1) := by decide +kernel
theorem dX1_enter_34 : decode cX1_enter 34 = .ok (.isub, 1) := by decide +kernel
theorem dX1_enter_35 : decode cX1_enter 35 = .ok (.iaload, 1) := by decide +kernel
theorem dX1_enter_36 : decode cX1_enter 36 = .ok (.invokevirtual 39, 3) := by decide +kernel
theorem dX1_enter_39 : decode cX1_enter 39 = .ok (.iload_n 2, 1) := by decide +kernel
theorem dX1_enter_40 : decode cX1_enter 40 = .ok (.if_icmp .le 23, 3) := by decide +kernel
theorem dX1_enter_43 : decode cX1_enter 43 = .ok (.aload_n 0, 1) := by decide +kernel
theorem dX1_enter_44 : decode cX1_enter 44 = .ok (.getfield 15, 3) := by decide +kernel
theorem dX1_enter_47 : decode cX1_enter 47 = .ok (.iload_n 3, 1) := by decide +kernel
theorem dX1_enter_48 : decode cX1_enter 48 = .ok (.aload_n 0, 1) := by decide +kernel
theorem dX1_enter_49 : decode cX1_enter 49 = .ok (.getfield 15, 3) := by decide +kernel
theorem dX1_enter_52 : decode cX1_enter 52 = .ok (.iload_n 3, 1) := by decide +kernel
theorem dX1_enter_53 : decode cX1_enter 53 = .ok (.iconst 1, 1) := by decide +kernel
theorem dX1_enter_54 : decode cX1_enter 54 = .ok (.isub, 1) := by decide +kernel
theorem dX1_enter_55 : decode cX1_enter 55 = .ok (.iaload, 1) := by decide +kernel
theorem dX1_enter_56 : decode cX1_enter 56 = .ok (.iastore, 1) := by decide +kernel
theorem dX1_enter_57 : decode cX1_enter 57 = .ok (.iinc 3 (-1), 3) := by decide +kernel
theorem dX1_enter_60 : decode cX1_enter 60 = .ok (.goto (-37), 3) := by decide +kernel
theorem dX1_enter_63 : decode cX1_enter 63 = .ok (.aload_n 0, 1) := by decide +kernel
theorem dX1_enter_64 : decode cX1_enter 64 = .ok (.getfield 15, 3) := by decide +kernel
theorem dX1_enter_67 : decode cX1_enter 67 = .ok (.iload_n 3, 1) := by decide +kernel
theorem dX1_enter_68 : decode cX1_enter 68 = .ok (.iload_n 1, 1) := by decide +kernel
theorem dX1_enter_69 : decode cX1_enter 69 = .ok (.iastore, 1) := by decide +kernel
theorem dX1_enter_70 : decode cX1_enter 70 = .ok (.aload_n 0, 1) := by decide +kernel
theorem dX1_enter_71 : decode cX1_enter 71 = .ok (.getfield 19, 3) := by decide +kernel
theorem dX1_enter_74 : decode cX1_enter 74 = .ok (.iload_n 1, 1) := by decide +kernel
theorem dX1_enter_75 : decode cX1_enter 75 = .ok (.iload_n 2, 1) := by decide +kernel
theorem dX1_enter_76 : decode cX1_enter 76 = .ok (.iastore, 1) := by decide +kernel
theorem dX1_enter_77 : decode cX1_enter 77 = .ok (.aload_n 0, 1) := by decide +kernel
theorem dX1_enter_78 : decode cX1_enter 78 = .ok (.dup, 1) := by decide +kernel
theorem dX1_enter_79 : decode cX1_enter 79 = .ok (.getfield 9, 3) := by decide +kernel
theorem dX1_enter_82 : decode cX1_enter 82 = .ok (.iconst 1, 1) := by decide +kernel
theorem dX1_enter_83 : decode cX1_enter 83 = .ok (.iadd, 1) := by decide +kernel
theorem dX1_enter_84 : decode cX1_enter 84 = .ok (.putfield 9, 3) := by decide +kernel
theorem dX1_enter_87 : decode cX1_enter 87 = .ok (.return_, 1) := by decide +kernel
theorem dX1_strike_0 : decode cX1_strike 0 = .ok (.aload_n 0, 1) := by decide +kernel
theorem dX1_strike_1 : decode cX1_strike 1 = .ok (.iload_n 1, 1) := by decide +kernel
theorem dX1_strike_2 : decode cX1_strike 2 = .ok (.invokevirtual 36, 3) := by decide +kernel
theorem dX1_strike_5 : decode cX1_strike 5 = .ok (.ifCond .ne 4, 3) := by decide +kernel
theorem dX1_strike_8 : decode cX1_strike 8 = .ok (.return_, 1) := by decide +kernel
theorem dX1_strike_9 : decode cX1_strike 9 = .ok (.iconst 0, 1) := by decide +kernel
theorem dX1_strike_10 : decode cX1_strike 10 = .ok (.istore_n 2, 1) := by decide +kernel
theorem dX1_strike_11 : decode cX1_strike 11 = .ok (.iconst 0, 1) := by decide +kernel
theorem dX1_strike_12 : decode cX1_strike 12 = .ok (.istore_n 3, 1) := by decide +kernel
theorem dX1_strike_13 : decode cX1_strike 13 = .ok (.iload_n 3, 1) := by decide +kernel
theorem dX1_strike_14 : decode cX1_strike 14 = .ok (.aload_n 0, 1) := by decide +kernel
theorem dX1_strike_15 : decode cX1_strike 15 = .ok (.getfield 9, 3) := by decide +kernel
theorem dX1_strike_18 : decode cX1_strike 18 = .ok (.if_icmp .ge 34, 3) := by decide +kernel
theorem dX1_strike_21 : decode cX1_strike 21 = .ok (.aload_n 0, 1) := by decide +kernel
theorem dX1_strike_22 : decode cX1_strike 22 = .ok (.getfield 15, 3) := by decide +kernel
theorem dX1_strike_25 : decode cX1_strike 25 = .ok (.iload_n 3, 1) := by decide +kernel
theorem dX1_strike_26 : decode cX1_strike 26 = .ok (.iaload, 1) := by decide +kernel
theorem dX1_strike_27 : decode cX1_strike 27 = .ok (.iload_n 1, 1) := by decide +kernel
theorem dX1_strike_28 : decode cX1_strike 28 = .ok (.if_icmp .eq 18, 3) := by decide +kernel
theorem dX1_strike_31 : decode cX1_strike 31 = .ok (.aload_n 0, 1) := by decide +kernel
theorem dX1_strike_32 : decode cX1_strike 32 = .ok (.getfield 15, 3) := by decide +kernel
theorem dX1_strike_35 : decode cX1_strike 35 = .ok (.iload_n 2, 1) := by decide +kernel
theorem dX1_strike_36 : decode cX1_strike 36 = .ok (.aload_n 0, 1) := by decide +kernel
theorem dX1_strike_37 : decode cX1_strike 37 = .ok (.getfield 15, 3) := by decide +kernel
theorem dX1_strike_40 : decode cX1_strike 40 = .ok (.iload_n 3, 1) := by decide +kernel
theorem dX1_strike_41 : decode cX1_strike 41 = .ok (.iaload, 1) := by decide +kernel
theorem dX1_strike_42 : decode cX1_strike 42 = .ok (.iastore, 1) := by decide +kernel
theorem dX1_strike_43 : decode cX1_strike 43 = .ok (.iinc 2 1, 3) := by decide +kernel
theorem dX1_strike_46 : decode cX1_strike 46 = .ok (.iinc 3 1, 3) := by decide +kernel
theorem dX1_strike_49 : decode cX1_strike 49 = .ok (.goto (-36), 3) := by decide +kernel
theorem dX1_strike_52 : decode cX1_strike 52 = .ok (.aload_n 0, 1) := by decide +kernel
theorem dX1_strike_53 : decode cX1_strike 53 = .ok (.getfield 19, 3) := by decide +kernel
theorem dX1_strike_56 : decode cX1_strike 56 = .ok (.iload_n 1, 1) := by decide +kernel
theorem dX1_strike_57 : decode cX1_strike 57 = .ok (.iconst (-1), 1) := by decide +kernel
theorem dX1_strike_58 : decode cX1_strike 58 = .ok (.iastore, 1) := by decide +kernel
theorem dX1_strike_59 : decode cX1_strike 59 = .ok (.aload_n 0, 1) := by decide +kernel
theorem dX1_strike_60 : decode cX1_strike 60 = .ok (.iload_n 2, 1) := by decide +kernel
theorem dX1_strike_61 : decode cX1_strike 61 = .ok (.putfield 9, 3) := by decide +kernel
theorem dX1_strike_64 : decode cX1_strike 64 = .ok (.return_, 1) := by decide +kernel
theorem dX2_init_0 : decode cX2_init 0 = .ok (.aload_n 0, 1) := by decide +kernel
theorem dX2_init_1 : decode cX2_init 1 = .ok (.invokespecial 3, 3) := by decide +kernel
theorem dX2_init_4 : decode cX2_init 4 = .ok (.aload_n 0, 1) := by decide +kernel
theorem dX2_init_5 : decode cX2_init 5 = .ok (.iconst 0, 1) := by decide +kernel
theorem dX2_init_6 : decode cX2_init 6 = .ok (.putfield 9, 3) := by decide +kernel
theorem dX2_init_9 : decode cX2_init 9 = .ok (.aload_n 0, 1) := by decide +kernel
theorem dX2_init_10 : decode cX2_init 10 = .ok (.iconst 3, 1) := by decide +kernel
theorem dX2_init_11 : decode cX2_init 11 = .ok (.newarray .int, 2) := by decide +kernel
theorem dX2_init_13 : decode cX2_init 13 = .ok (.putfield 15, 3) := by decide +kernel
theorem dX2_init_16 : decode cX2_init 16 = .ok (.aload_n 0, 1) := by decide +kernel
theorem dX2_init_17 : decode cX2_init 17 = .ok (.iconst 3, 1) := by decide +kernel
theorem dX2_init_18 : decode cX2_init 18 = .ok (.newarray .int, 2) := by decide +kernel
theorem dX2_init_20 : decode cX2_init 20 = .ok (.putfield 19, 3) := by decide +kernel
theorem dX2_init_23 : decode cX2_init 23 = .ok (.aload_n 0, 1) := by decide +kernel
theorem dX2_init_24 : decode cX2_init 24 = .ok (.iconst 3, 1) := by decide +kernel
theorem dX2_init_25 : decode cX2_init 25 = .ok (.newarray .int, 2) := by decide +kernel
theorem dX2_init_27 : decode cX2_init 27 = .ok (.putfield 22, 3) := by decide +kernel
theorem dX2_init_30 : decode cX2_init 30 = .ok (.aload_n 0, 1) := by decide +kernel
theorem dX2_init_31 : decode cX2_init 31 = .ok (.iconst 3, 1) := by decide +kernel
theorem dX2_init_32 : decode cX2_init 32 = .ok (.newarray .int, 2) := by decide +kernel
theorem dX2_init_34 : decode cX2_init 34 = .ok (.putfield 25, 3) := by decide +kernel
theorem dX2_init_37 : decode cX2_init 37 = .ok (.aload_n 0, 1) := by decide +kernel
theorem dX2_init_38 : decode cX2_init 38 = .ok (.iconst 3, 1) := by decide +kernel
theorem dX2_init_39 : decode cX2_init 39 = .ok (.newarray .int, 2) := by decide +kernel
theorem dX2_init_41 : decode cX2_init 41 = .ok (.putfield 28, 3) := by decide +kernel
theorem dX2_init_44 : decode cX2_init 44 = .ok (.return_, 1) := by decide +kernel
theorem dX2_become_0 : decode cX2_become 0 = .ok (.aload_n 0, 1) := by decide +kernel
theorem dX2_become_1 : decode cX2_become 1 = .ok (.aload_n 1, 1) := by decide +kernel
theorem dX2_become_2 : decode cX2_become 2 = .ok (.getfield 9, 3) := by decide +kernel
theorem dX2_become_5 : decode cX2_become 5 = .ok (.putfield 9, 3) := by decide +kernel
theorem dX2_become_8 : decode cX2_become 8 = .ok (.aload_n 1, 1) := by decide +kernel
theorem dX2_become_9 : decode cX2_become 9 = .ok (.getfield 15, 3) := by decide +kernel
theorem dX2_become_12 : decode cX2_become 12 = .ok (.aload_n 0, 1) := by decide +kernel
theorem dX2_become_13 : decode cX2_become 13 = .ok (.getfield 15, 3) := by decide +kernel
theorem dX2_become_16 : decode cX2_become 16 = .ok (.invokestatic 31, 3) := by decide +kernel
theorem dX2_become_19 : decode cX2_become 19 = .ok (.aload_n 1, 1) := by decide +kernel
theorem dX2_become_20 : decode cX2_become 20 = .ok (.getfield 19, 3) := by decide +kernel
theorem dX2_become_23 : decode cX2_become 23 = .ok (.aload_n 0, 1) := by decide +kernel
theorem dX2_become_24 : decode cX2_become 24 = .ok (.getfield 19, 3) := by decide +kernel
theorem dX2_become_27 : decode cX2_become 27 = .ok (.invokestatic 31, 3) := by decide +kernel
theorem dX2_become_30 : decode cX2_become 30 = .ok (.aload_n 1, 1) := by decide +kernel
theorem dX2_become_31 : decode cX2_become 31 = .ok (.getfield 22, 3) := by decide +kernel
theorem dX2_become_34 : decode cX2_become 34 = .ok (.aload_n 0, 1) := by decide +kernel
theorem dX2_become_35 : decode cX2_become 35 = .ok (.getfield 22, 3) := by decide +kernel
theorem dX2_become_38 : decode cX2_become 38 = .ok (.invokestatic 31, 3) := by decide +kernel
theorem dX2_become_41 : decode cX2_become 41 = .ok (.aload_n 1, 1) := by decide +kernel
theorem dX2_become_42 : decode cX2_become 42 = .ok (.getfield 25, 3) := by decide +kernel
theorem dX2_become_45 : decode cX2_become 45 = .ok (.aload_n 0, 1) := by decide +kernel
theorem dX2_become_46 : decode cX2_become 46 = .ok (.getfield 25, 3) := by decide +kernel
theorem dX2_become_49 : decode cX2_become 49 = .ok (.invokestatic 31, 3) := by decide +kernel
theorem dX2_become_52 : decode cX2_become 52 = .ok (.aload_n 1, 1) := by decide +kernel
theorem dX2_become_53 : decode cX2_become 53 = .ok (.getfield 28, 3) := by decide +kernel
theorem dX2_become_56 : decode cX2_become 56 = .ok (.aload_n 0, 1) := by decide +kernel
theorem dX2_become_57 : decode cX2_become 57 = .ok (.getfield 28, 3) := by decide +kernel
theorem dX2_become_60 : decode cX2_become 60 = .ok (.invokestatic 31, 3) := by decide +kernel
theorem dX2_become_63 : decode cX2_become 63 = .ok (.return_, 1) := by decide +kernel
theorem dX2_has_0 : decode cX2_has 0 = .ok (.iconst 0, 1) := by decide +kernel
theorem dX2_has_1 : decode cX2_has 1 = .ok (.iload_n 1, 1) := by decide +kernel
theorem dX2_has_2 : decode cX2_has 2 = .ok (.if_icmp .gt 15, 3) := by decide +kernel
theorem dX2_has_5 : decode cX2_has 5 = .ok (.iload_n 1, 1) := by decide +kernel
theorem dX2_has_6 : decode cX2_has 6 = .ok (.aload_n 0, 1) := by decide +kernel
theorem dX2_has_7 : decode cX2_has 7 = .ok (.getfield 9, 3) := by decide +kernel
theorem dX2_has_10 : decode cX2_has 10 = .ok (.if_icmp .ge 7, 3) := by decide +kernel
theorem dX2_has_13 : decode cX2_has 13 = .ok (.iconst 1, 1) := by decide +kernel
theorem dX2_has_14 : decode cX2_has 14 = .ok (.goto 4, 3) := by decide +kernel
theorem dX2_has_17 : decode cX2_has 17 = .ok (.iconst 0, 1) := by decide +kernel
theorem dX2_has_18 : decode cX2_has 18 = .ok (.ireturn, 1) := by decide +kernel
theorem dX2_enter_0 : decode cX2_enter 0 = .ok (.aload_n 0, 1) := by decide +kernel
theorem dX2_enter_1 : decode cX2_enter 1 = .ok (.getfield 9, 3) := by decide +kernel
theorem dX2_enter_4 : decode cX2_enter 4 = .ok (.iconst 3, 1) := by decide +kernel
theorem dX2_enter_5 : decode cX2_enter 5 = .ok (.if_icmp .lt 5, 3) := by decide +kernel
theorem dX2_enter_8 : decode cX2_enter 8 = .ok (.iconst (-1), 1) := by decide +kernel
theorem dX2_enter_9 : decode cX2_enter 9 = .ok (.ireturn, 1) := by decide +kernel
theorem dX2_enter_10 : decode cX2_enter 10 = .ok (.aload_n 0, 1) := by decide +kernel
theorem dX2_enter_11 : decode cX2_enter 11 = .ok (.getfield 15, 3) := by decide +kernel
theorem dX2_enter_14 : decode cX2_enter 14 = .ok (.aload_n 0, 1) := by decide +kernel
theorem dX2_enter_15 : decode cX2_enter 15 = .ok (.getfield 9, 3) := by decide +kernel
theorem dX2_enter_18 : decode cX2_enter 18 = .ok (.iload_n 1, 1) := by decide +kernel
theorem dX2_enter_19 : decode cX2_enter 19 = .ok (.iastore, 1) := by decide +kernel
theorem dX2_enter_20 : decode cX2_enter 20 = .ok (.aload_n 0, 1) := by decide +kernel
theorem dX2_enter_21 : decode cX2_enter 21 = .ok (.getfield 19, 3) := by decide +kernel
theorem dX2_enter_24 : decode cX2_enter 24 = .ok (.aload_n 0, 1) := by decide +kernel
theorem dX2_enter_25 : decode cX2_enter 25 = .ok (.getfield 9, 3) := by decide +kernel
theorem dX2_enter_28 : decode cX2_enter 28 = .ok (.iload_n 2, 1) := by decide +kernel
theorem dX2_enter_29 : decode cX2_enter 29 = .ok (.iastore, 1) := by decide +kernel
theorem dX2_enter_30 : decode cX2_enter 30 = .ok (.aload_n 0, 1) := by decide +kernel
theorem dX2_enter_31 : decode cX2_enter 31 = .ok (.getfield 22, 3) := by decide +kernel
theorem dX2_enter_34 : decode cX2_enter 34 = .ok (.aload_n 0, 1) := by decide +kernel
theorem dX2_enter_35 : decode cX2_enter 35 = .ok (.getfield 9, 3) := by decide +kernel
theorem dX2_enter_38 : decode cX2_enter 38 = .ok (.iload_n 3, 1) := by decide +kernel
theorem dX2_enter_39 : decode cX2_enter 39 = .ok (.iastore, 1) := by decide +kernel
theorem dX2_enter_40 : decode cX2_enter 40 = .ok (.aload_n 0, 1) := by decide +kernel
theorem dX2_enter_41 : decode cX2_enter 41 = .ok (.dup, 1) := by decide +kernel
theorem dX2_enter_42 : decode cX2_enter 42 = .ok (.getfield 9, 3) := by decide +kernel
theorem dX2_enter_45 : decode cX2_enter 45 = .ok (.iconst 1, 1) := by decide +kernel
theorem dX2_enter_46 : decode cX2_enter 46 = .ok (.iadd, 1) := by decide +kernel
theorem dX2_enter_47 : decode cX2_enter 47 = .ok (.putfield 9, 3) := by decide +kernel
theorem dX2_enter_50 : decode cX2_enter 50 = .ok (.aload_n 0, 1) := by decide +kernel
theorem dX2_enter_51 : decode cX2_enter 51 = .ok (.getfield 9, 3) := by decide +kernel
theorem dX2_enter_54 : decode cX2_enter 54 = .ok (.iconst 1, 1) := by decide +kernel
theorem dX2_enter_55 : decode cX2_enter 55 = .ok (.isub, 1) := by decide +kernel
theorem dX2_enter_56 : decode cX2_enter 56 = .ok (.ireturn, 1) := by decide +kernel
theorem dX3_init_0 : decode cX3_init 0 = .ok (.aload_n 0, 1) := by decide +kernel
theorem dX3_init_1 : decode cX3_init 1 = .ok (.invokespecial 3, 3) := by decide +kernel
theorem dX3_init_4 : decode cX3_init 4 = .ok (.aload_n 0, 1) := by decide +kernel
theorem dX3_init_5 : decode cX3_init 5 = .ok (.iconst 0, 1) := by decide +kernel
theorem dX3_init_6 : decode cX3_init 6 = .ok (.putfield 9, 3) := by decide +kernel
theorem dX3_init_9 : decode cX3_init 9 = .ok (.aload_n 0, 1) := by decide +kernel
theorem dX3_init_10 : decode cX3_init 10 = .ok (.iconst 0, 1) := by decide +kernel
theorem dX3_init_11 : decode cX3_init 11 = .ok (.putfield 15, 3) := by decide +kernel
theorem dX3_init_14 : decode cX3_init 14 = .ok (.aload_n 0, 1) := by decide +kernel
theorem dX3_init_15 : decode cX3_init 15 = .ok (.iconst 0, 1) := by decide +kernel
theorem dX3_init_16 : decode cX3_init 16 = .ok (.putfield 18, 3) := by decide +kernel
theorem dX3_init_19 : decode cX3_init 19 = .ok (.aload_n 0, 1) := by decide +kernel
theorem dX3_init_20 : decode cX3_init 20 = .ok (.bipush 8, 2) := by decide +kernel
theorem dX3_init_22 : decode cX3_init 22 = .ok (.newarray .int, 2) := by decide +kernel
theorem dX3_init_24 : decode cX3_init 24 = .ok (.putfield 21, 3) := by decide +kernel
theorem dX3_init_27 : decode cX3_init 27 = .ok (.aload_n 0, 1) := by decide +kernel
theorem dX3_init_28 : decode cX3_init 28 = .ok (.bipush 19, 2) := by decide +kernel
theorem dX3_init_30 : decode cX3_init 30 = .ok (.newarray .int, 2) := by decide +kernel
theorem dX3_init_32 : decode cX3_init 32 = .ok (.putfield 25, 3) := by decide +kernel
theorem dX3_init_35 : decode cX3_init 35 = .ok (.aload_n 0, 1) := by decide +kernel
theorem dX3_init_36 : decode cX3_init 36 = .ok (.new 28, 3) := by decide +kernel
theorem dX3_init_39 : decode cX3_init 39 = .ok (.dup, 1) := by decide +kernel
theorem dX3_init_40 : decode cX3_init 40 = .ok (.invokespecial 30, 3) := by decide +kernel
theorem dX3_init_43 : decode cX3_init 43 = .ok (.putfield 31, 3) := by decide +kernel
theorem dX3_init_46 : decode cX3_init 46 = .ok (.aload_n 0, 1) := by decide +kernel
theorem dX3_init_47 : decode cX3_init 47 = .ok (.new 35, 3) := by decide +kernel
theorem dX3_init_50 : decode cX3_init 50 = .ok (.dup, 1) := by decide +kernel
theorem dX3_init_51 : decode cX3_init 51 = .ok (.invokespecial 37, 3) := by decide +kernel
theorem dX3_init_54 : decode cX3_init 54 = .ok (.putfield 38, 3) := by decide +kernel
theorem dX3_init_57 : decode cX3_init 57 = .ok (.aload_n 0, 1) := by decide +kernel
theorem dX3_init_58 : decode cX3_init 58 = .ok (.new 42, 3) := by decide +kernel
theorem dX3_init_61 : decode cX3_init 61 = .ok (.dup, 1) := by decide +kernel
theorem dX3_init_62 : decode cX3_init 62 = .ok (.invokespecial 44, 3) := by decide +kernel
theorem dX3_init_65 : decode cX3_init 65 = .ok (.putfield 45, 3) := by decide +kernel
theorem dX3_init_68 : decode cX3_init 68 = .ok (.aload_n 0, 1) := by decide +kernel
theorem dX3_init_69 : decode cX3_init 69 = .ok (.new 49, 3) := by decide +kernel
theorem dX3_init_72 : decode cX3_init 72 = .ok (.dup, 1) := by decide +kernel
theorem dX3_init_73 : decode cX3_init 73 = .ok (.invokespecial 51, 3) := by decide +kernel
theorem dX3_init_76 : decode cX3_init 76 = .ok (.putfield 52, 3) := by decide +kernel
theorem dX3_init_79 : decode cX3_init 79 = .ok (.aload_n 0, 1) := by decide +kernel
theorem dX3_init_80 : decode cX3_init 80 = .ok (.sipush 512, 3) := by decide +kernel
theorem dX3_init_83 : decode cX3_init 83 = .ok (.newarray .int, 2) := by decide +kernel
theorem dX3_init_85 : decode cX3_init 85 = .ok (.putfield 56, 3) := by decide +kernel
theorem dX3_init_88 : decode cX3_init 88 = .ok (.aload_n 0, 1) := by decide +kernel
theorem dX3_init_89 : decode cX3_init 89 = .ok (.iconst 0, 1) := by decide +kernel
theorem dX3_init_90 : decode cX3_init 90 = .ok (.putfield 59, 3) := by decide +kernel
theorem dX3_init_93 : decode cX3_init 93 = .ok (.getstatic 62, 3) := by decide +kernel
theorem dX3_init_96 : decode cX3_init 96 = .ok (.aload_n 0, 1) := by decide +kernel
theorem dX3_init_97 : decode cX3_init 97 = .ok (.getfield 21, 3) := by decide +kernel
theorem dX3_init_100 : decode cX3_init 100 = .ok (.invokestatic 65, 3) := by decide +kernel
theorem dX3_init_103 : decode cX3_init 103 = .ok (.return_, 1) := by decide +kernel
theorem dX3_become_0 : decode cX3_become 0 = .ok (.aload_n 0, 1) := by decide +kernel
theorem dX3_become_1 : decode cX3_become 1 = .ok (.aload_n 1, 1) := by decide +kernel
theorem dX3_become_2 : decode cX3_become 2 = .ok (.getfield 9, 3) := by decide +kernel
theorem dX3_become_5 : decode cX3_become 5 = .ok (.putfield 9, 3) := by decide +kernel
theorem dX3_become_8 : decode cX3_become 8 = .ok (.aload_n 0, 1) := by decide +kernel
theorem dX3_become_9 : decode cX3_become 9 = .ok (.aload_n 1, 1) := by decide +kernel
theorem dX3_become_10 : decode cX3_become 10 = .ok (.getfield 15, 3) := by decide +kernel
theorem dX3_become_13 : decode cX3_become 13 = .ok (.putfield 15, 3) := by decide +kernel
theorem dX3_become_16 : decode cX3_become 16 = .ok (.aload_n 0, 1) := by decide +kernel
theorem dX3_become_17 : decode cX3_become 17 = .ok (.aload_n 1, 1) := by decide +kernel
theorem dX3_become_18 : decode cX3_become 18 = .ok (.getfield 18, 3) := by decide +kernel
theorem dX3_become_21 : decode cX3_become 21 = .ok (.putfield 18, 3) := by decide +kernel
theorem dX3_become_24 : decode cX3_become 24 = .ok (.aload_n 1, 1) := by decide +kernel
theorem dX3_become_25 : decode cX3_become 25 = .ok (.getfield 21, 3) := by decide +kernel
theorem dX3_become_28 : decode cX3_become 28 = .ok (.aload_n 0, 1) := by decide +kernel
theorem dX3_become_29 : decode cX3_become 29 = .ok (.getfield 21, 3) := by decide +kernel
theorem dX3_become_32 : decode cX3_become 32 = .ok (.invokestatic 65, 3) := by decide +kernel
theorem dX3_become_35 : decode cX3_become 35 = .ok (.aload_n 1, 1) := by decide +kernel
theorem dX3_become_36 : decode cX3_become 36 = .ok (.getfield 25, 3) := by decide +kernel
theorem dX3_become_39 : decode cX3_become 39 = .ok (.aload_n 0, 1) := by decide +kernel
theorem dX3_become_40 : decode cX3_become 40 = .ok (.getfield 25, 3) := by decide +kernel
theorem dX3_become_43 : decode cX3_become 43 = .ok (.invokestatic 65, 3) := by decide +kernel
theorem dX3_become_46 : decode cX3_become 46 = .ok (.aload_n 0, 1) := by decide +kernel
theorem dX3_become_47 : decode cX3_become 47 = .ok (.getfield 31, 3) := by decide +kernel
theorem dX3_become_50 : decode cX3_become 50 = .ok (.aload_n 1, 1) := by decide +kernel
theorem dX3_become_51 : decode cX3_become 51 = .ok (.getfield 31, 3) := by decide +kernel
theorem dX3_become_54 : decode cX3_become 54 = .ok (.invokevirtual 69, 3) := by decide +kernel
theorem dX3_become_57 : decode cX3_become 57 = .ok (.aload_n 0, 1) := by decide +kernel
theorem dX3_become_58 : decode cX3_become 58 = .ok (.getfield 38, 3) := by decide +kernel
theorem dX3_become_61 : decode cX3_become 61 = .ok (.aload_n 1, 1) := by decide +kernel
theorem dX3_become_62 : decode cX3_become 62 = .ok (.getfield 38, 3) := by decide +kernel
theorem dX3_become_65 : decode cX3_become 65 = .ok (.invokevirtual 73, 3) := by decide +kernel
theorem dX3_become_68 : decode cX3_become 68 = .ok (.aload_n 0, 1) := by decide +kernel
theorem dX3_become_69 : decode cX3_become 69 = .ok (.getfield 45, 3) := by decide +kernel
theorem dX3_become_72 : decode cX3_become 72 = .ok (.aload_n 1, 1) := by decide +kernel
theorem dX3_become_73 : decode cX3_become 73 = .ok (.getfield 45, 3) := by decide +kernel
theorem dX3_become_76 : decode cX3_become 76 = .ok (.invokevirtual 76, 3) := by decide +kernel
theorem dX3_become_79 : decode cX3_become 79 = .ok (.aload_n 0, 1) := by decide +kernel
theorem dX3_become_80 : decode cX3_become 80 = .ok (.getfield 52, 3) := by decide +kernel
theorem dX3_become_83 : decode cX3_become 83 = .ok (.aload_n 1, 1) := by decide +kernel
theorem dX3_become_84 : decode cX3_become 84 = .ok (.getfield 52, 3) := by decide +kernel
theorem dX3_become_87 : decode cX3_become 87 = .ok (.invokevirtual 79, 3) := by decide +kernel
theorem dX3_become_90 : decode cX3_become 90 = .ok (.aload_n 0, 1) := by decide +kernel
theorem dX3_become_91 : decode cX3_become 91 = .ok (.aload_n 1, 1) := by decide +kernel
theorem dX3_become_92 : decode cX3_become 92 = .ok (.getfield 59, 3) := by decide +kernel
theorem dX3_become_95 : decode cX3_become 95 = .ok (.putfield 59, 3) := by decide +kernel
theorem dX3_become_98 : decode cX3_become 98 = .ok (.iconst 0, 1) := by decide +kernel
theorem dX3_become_99 : decode cX3_become 99 = .ok (.istore_n 2, 1) := by decide +kernel
theorem dX3_become_100 : decode cX3_become 100 = .ok (.iload_n 2, 1) := by decide +kernel
theorem dX3_become_101 : decode cX3_become 101 = .ok (.aload_n 0, 1) := by decide +kernel
theorem dX3_become_102 : decode cX3_become 102 = .ok (.getfield 59, 3) := by decide +kernel
theorem dX3_become_105 : decode cX3_become 105 = .ok (.if_icmp .ge 21, 3) := by decide +kernel
theorem dX3_become_108 : decode cX3_become 108 = .ok (.aload_n 0, 1) := by decide +kernel
theorem dX3_become_109 : decode cX3_become 109 = .ok (.getfield 56, 3) := by decide +kernel
theorem dX3_become_112 : decode cX3_become 112 = .ok (.iload_n 2, 1) := by decide +kernel
theorem dX3_become_113 : decode cX3_become 113 = .ok (.aload_n 1, 1) := by decide +kernel
theorem dX3_become_114 : decode cX3_become 114 = .ok (.getfield 56, 3) := by decide +kernel
theorem dX3_become_117 : decode cX3_become 117 = .ok (.iload_n 2, 1) := by decide +kernel
theorem dX3_become_118 : decode cX3_become 118 = .ok (.iaload, 1) := by decide +kernel
theorem dX3_become_119 : decode cX3_become 119 = .ok (.iastore, 1) := by decide +kernel
theorem dX3_become_120 : decode cX3_become 120 = .ok (.iinc 2 1, 3) := by decide +kernel
theorem dX3_become_123 : decode cX3_become 123 = .ok (.goto (-23), 3) := by decide +kernel
theorem dX3_become_126 : decode cX3_become 126 = .ok (.return_, 1) := by decide +kernel
theorem dX3_rentFor_0 : decode cX3_rentFor 0 = .ok (.aload_n 0, 1) := by decide +kernel
theorem dX3_rentFor_1 : decode cX3_rentFor 1 = .ok (.getfield 21, 3) := by decide +kernel
theorem dX3_rentFor_4 : decode cX3_rentFor 4 = .ok (.iconst 0, 1) := by decide +kernel
theorem dX3_rentFor_5 : decode cX3_rentFor 5 = .ok (.iaload, 1) := by decide +kernel
theorem dX3_rentFor_6 : decode cX3_rentFor 6 = .ok (.iload_n 1, 1) := by decide +kernel
theorem dX3_rentFor_7 : decode cX3_rentFor 7 = .ok (.imul, 1) := by decide +kernel
theorem dX3_rentFor_8 : decode cX3_rentFor 8 = .ok (.ireturn, 1) := by decide +kernel
theorem dX3_leaseLeft_0 : decode cX3_leaseLeft 0 = .ok (.aload_n 0, 1) := by decide +kernel
theorem dX3_leaseLeft_1 : decode cX3_leaseLeft 1 = .ok (.getfield 31, 3) := by decide +kernel
theorem dX3_leaseLeft_4 : decode cX3_leaseLeft 4 = .ok (.iload_n 1, 1) := by decide +kernel
theorem dX3_leaseLeft_5 : decode cX3_leaseLeft 5 = .ok (.invokevirtual 82, 3) := by decide +kernel
theorem dX3_leaseLeft_8 : decode cX3_leaseLeft 8 = .ok (.ifCond .eq 20, 3) := by decide +kernel
theorem dX3_leaseLeft_11 : decode cX3_leaseLeft 11 = .ok (.aload_n 0, 1) := by decide +kernel
theorem dX3_leaseLeft_12 : decode cX3_leaseLeft 12 = .ok (.getfield 31, 3) := by decide +kernel
theorem dX3_leaseLeft_15 : decode cX3_leaseLeft 15 = .ok (.getfield 86, 3) := by decide +kernel
theorem dX3_leaseLeft_18 : decode cX3_leaseLeft 18 = .ok (.iload_n 1, 1) := by decide +kernel
theorem dX3_leaseLeft_19 : decode cX3_leaseLeft 19 = .ok (.iaload, 1) := by decide +kernel
theorem dX3_leaseLeft_20 : decode cX3_leaseLeft 20 = .ok (.aload_n 0, 1) := by decide +kernel
theorem dX3_leaseLeft_21 : decode cX3_leaseLeft 21 = .ok (.getfield 9, 3) := by decide +kernel
theorem dX3_leaseLeft_24 : decode cX3_leaseLeft 24 = .ok (.isub, 1) := by decide +kernel
theorem dX3_leaseLeft_25 : decode cX3_leaseLeft 25 = .ok (.goto 4, 3) := by decide +kernel
theorem dX3_leaseLeft_28 : decode cX3_leaseLeft 28 = .ok (.iconst 0, 1) := by decide +kernel
theorem dX3_leaseLeft_29 : decode cX3_leaseLeft 29 = .ok (.ireturn, 1) := by decide +kernel
theorem dX3_policyLeft_0 : decode cX3_policyLeft 0 = .ok (.aload_n 0, 1) := by decide +kernel
theorem dX3_policyLeft_1 : decode cX3_policyLeft 1 = .ok (.getfield 31, 3) := by decide +kernel
theorem dX3_policyLeft_4 : decode cX3_policyLeft 4 = .ok (.iload_n 1, 1) := by decide +kernel
theorem dX3_policyLeft_5 : decode cX3_policyLeft 5 = .ok (.invokevirtual 89, 3) := by decide +kernel
theorem dX3_policyLeft_8 : decode cX3_policyLeft 8 = .ok (.ifCond .eq 20, 3) := by decide +kernel
theorem dX3_policyLeft_11 : decode cX3_policyLeft 11 = .ok (.aload_n 0, 1) := by decide +kernel
theorem dX3_policyLeft_12 : decode cX3_policyLeft 12 = .ok (.getfield 31, 3) := by decide +kernel
theorem dX3_policyLeft_15 : decode cX3_policyLeft 15 = .ok (.getfield 92, 3) := by decide +kernel
theorem dX3_policyLeft_18 : decode cX3_policyLeft 18 = .ok (.iload_n 1, 1) := by decide +kernel
theorem dX3_policyLeft_19 : decode cX3_policyLeft 19 = .ok (.iaload, 1) := by decide +kernel
theorem dX3_policyLeft_20 : decode cX3_policyLeft 20 = .ok (.aload_n 0, 1) := by decide +kernel
theorem dX3_policyLeft_21 : decode cX3_policyLeft 21 = .ok (.getfield 9, 3) := by decide +kernel
theorem dX3_policyLeft_24 : decode cX3_policyLeft 24 = .ok (.isub, 1) := by decide +kernel
theorem dX3_policyLeft_25 : decode cX3_policyLeft 25 = .ok (.goto 4, 3) := by decide +kernel
theorem dX3_policyLeft_28 : decode cX3_policyLeft 28 = .ok (.iconst 0, 1) := by decide +kernel
theorem dX3_policyLeft_29 : decode cX3_policyLeft 29 = .ok (.ireturn, 1) := by decide +kernel
theorem dX3_leaseOut_0 : decode cX3_leaseOut 0 = .ok (.aload_n 0, 1) := by decide +kernel
theorem dX3_leaseOut_1 : decode cX3_leaseOut 1 = .ok (.iload_n 3, 1) := by decide +kernel
theorem dX3_leaseOut_2 : decode cX3_leaseOut 2 = .ok (.invokevirtual 95, 3) := by decide +kernel
theorem dX3_leaseOut_5 : decode cX3_leaseOut 5 = .ok (.istore 4, 2) := by decide +kernel
theorem dX3_leaseOut_7 : decode cX3_leaseOut 7 = .ok (.aload_n 0, 1) := by decide +kernel
theorem dX3_leaseOut_8 : decode cX3_leaseOut 8 = .ok (.getfield 45, 3) := by decide +kernel
theorem dX3_leaseOut_11 : decode cX3_leaseOut 11 = .ok (.getfield 99, 3) := by decide +kernel
theorem dX3_leaseOut_14 : decode cX3_leaseOut 14 = .ok (.iload_n 2, 1) := by decide +kernel
theorem dX3_leaseOut_15 : decode cX3_leaseOut 15 = .ok (.dup2, 1) := by decide +kernel
theorem dX3_leaseOut_16 : decode cX3_leaseOut 16 = .ok (.iaload, 1) := by decide +kernel
theorem dX3_leaseOut_17 : decode cX3_leaseOut 17 = .ok (.iload 4, 2) := by decide +kernel
theorem dX3_leaseOut_19 : decode cX3_leaseOut 19 = .ok (.isub, 1) := by decide +kernel
theorem dX3_leaseOut_20 : decode cX3_leaseOut 20 = .ok (.iastore, 1) := by decide +kernel
theorem dX3_leaseOut_21 : decode cX3_leaseOut 21 = .ok (.aload_n 0, 1) := by decide +kernel
theorem dX3_leaseOut_22 : decode cX3_leaseOut 22 = .ok (.dup, 1) := by decide +kernel
theorem dX3_leaseOut_23 : decode cX3_leaseOut 23 = .ok (.getfield 18, 3) := by decide +kernel
theorem dX3_leaseOut_26 : decode cX3_leaseOut 26 = .ok (.iload 4, 2) := by decide +kernel
theorem dX3_leaseOut_28 : decode cX3_leaseOut 28 = .ok (.iadd, 1) := by decide +kernel
theorem dX3_leaseOut_29 : decode cX3_leaseOut 29 = .ok (.putfield 18, 3) := by decide +kernel
theorem dX3_leaseOut_32 : decode cX3_leaseOut 32 = .ok (.aload_n 0, 1) := by decide +kernel
theorem dX3_leaseOut_33 : decode cX3_leaseOut 33 = .ok (.getfield 31, 3) := by decide +kernel
theorem dX3_leaseOut_36 : decode cX3_leaseOut 36 = .ok (.getfield 102, 3) := by decide +kernel
theorem dX3_leaseOut_39 : decode cX3_leaseOut 39 = .ok (.iload_n 1, 1) := by decide +kernel
theorem dX3_leaseOut_40 : decode cX3_leaseOut 40 = .ok (.iload_n 2, 1) := by decide +kernel
theorem dX3_leaseOut_41 : decode cX3_leaseOut 41 = .ok (.iastore, 1) := by decide +kernel
theorem dX3_leaseOut_42 : decode cX3_leaseOut 42 = .ok (.aload_n 0, 1) := by decide +kernel
theorem dX3_leaseOut_43 : decode cX3_leaseOut 43 = .ok (.getfield 31, 3) := by decide +kernel
theorem dX3_leaseOut_46 : decode cX3_leaseOut 46 = .ok (.getfield 86, 3) := by decide +kernel
theorem dX3_leaseOut_49 : decode cX3_leaseOut 49 = .ok (.iload_n 1, 1) := by decide +kernel
theorem dX3_leaseOut_50 : decode cX3_leaseOut 50 = .ok (.aload_n 0, 1) := by decide +kernel
theorem dX3_leaseOut_51 : decode cX3_leaseOut 51 = .ok (.getfield 9, 3) := by decide +kernel
theorem dX3_leaseOut_54 : decode cX3_leaseOut 54 = .ok (.iload_n 3, 1) := by decide +kernel
theorem dX3_leaseOut_55 : decode cX3_leaseOut 55 = .ok (.iadd, 1) := by decide +kernel
theorem dX3_leaseOut_56 : decode cX3_leaseOut 56 = .ok (.iastore, 1) := by decide +kernel
theorem dX3_leaseOut_57 : decode cX3_leaseOut 57 = .ok (.return_, 1) := by decide +kernel
theorem dX3_premiumFor_0 : decode cX3_premiumFor 0 = .ok (.bipush 10, 2) := by decide +kernel
theorem dX3_premiumFor_2 : decode cX3_premiumFor 2 = .ok (.iload 4, 2) := by decide +kernel
theorem dX3_premiumFor_4 : decode cX3_premiumFor 4 = .ok (.iadd, 1) := by decide +kernel
theorem dX3_premiumFor_5 : decode cX3_premiumFor 5 = .ok (.bipush 100, 2) := by decide +kernel
theorem dX3_premiumFor_7 : decode cX3_premiumFor 7 = .ok (.iadd, 1) := by decide +kernel
theorem dX3_premiumFor_8 : decode cX3_premiumFor 8 = .ok (.aload_n 0, 1) := by decide +kernel
theorem dX3_premiumFor_9 : decode cX3_premiumFor 9 = .ok (.getfield 31, 3) := by decide +kernel
theorem dX3_premiumFor_12 : decode cX3_premiumFor 12 = .ok (.getfield 105, 3) := by decide +kernel
theorem dX3_premiumFor_15 : decode cX3_premiumFor 15 = .ok (.iload_n 1, 1) := by decide +kernel
theorem dX3_premiumFor_16 : decode cX3_premiumFor 16 = .ok (.iaload, 1) := by decide +kernel
theorem dX3_premiumFor_17 : decode cX3_premiumFor 17 = .ok (.isub, 1) := by decide +kernel
theorem dX3_premiumFor_18 : decode cX3_premiumFor 18 = .ok (.istore 5, 2) := by decide +kernel
theorem dX3_premiumFor_20 : decode cX3_premiumFor 20 = .ok (.iload 5, 2) := by decide +kernel
theorem dX3_premiumFor_22 : decode cX3_premiumFor 22 = .ok (.iload_n 3, 1) := by decide +kernel
theorem dX3_premiumFor_23 : decode cX3_premiumFor 23 = .ok (.imul, 1) := by decide +kernel
theorem dX3_premiumFor_24 : decode cX3_premiumFor 24 = .ok (.aload_n 0, 1) := by decide +kernel
theorem dX3_premiumFor_25 : decode cX3_premiumFor 25 = .ok (.getfield 52, 3) := by decide +kernel
theorem dX3_premiumFor_28 : decode cX3_premiumFor 28 = .ok (.getfield 108, 3) := by decide +kernel
theorem dX3_premiumFor_31 : decode cX3_premiumFor 31 = .ok (.iload_n 2, 1) := by decide +kernel
theorem dX3_premiumFor_32 : decode cX3_premiumFor 32 = .ok (.iaload, 1) := by decide +kernel
theorem dX3_premiumFor_33 : decode cX3_premiumFor 33 = .ok (.imul, 1) := by decide +kernel
theorem dX3_premiumFor_34 : decode cX3_premiumFor 34 = .ok (.sipush 1000, 3) := by decide +kernel
theorem dX3_premiumFor_37 : decode cX3_premiumFor 37 = .ok (.idiv, 1) := by decide +kernel
theorem dX3_premiumFor_38 : decode cX3_premiumFor 38 = .ok (.iconst 1, 1) := by decide +kernel
theorem dX3_premiumFor_39 : decode cX3_premiumFor 39 = .ok (.iadd, 1) := by decide +kernel
theorem dX3_premiumFor_40 : decode cX3_premiumFor 40 = .ok (.ireturn, 1) := by decide +kernel
theorem dX3_makePolicy_0 : decode cX3_makePolicy 0 = .ok (.aload_n 0, 1) := by decide +kernel
theorem dX3_makePolicy_1 : decode cX3_makePolicy 1 = .ok (.getfield 45, 3) := by decide +kernel
theorem dX3_makePolicy_4 : decode cX3_makePolicy 4 = .ok (.getfield 99, 3) := by decide +kernel
theorem dX3_makePolicy_7 : decode cX3_makePolicy 7 = .ok (.iload 4, 2) := by decide +kernel
theorem dX3_makePolicy_9 : decode cX3_makePolicy 9 = .ok (.dup2, 1) := by decide +kernel
theorem dX3_makePolicy_10 : decode cX3_makePolicy 10 = .ok (.iaload, 1) := by decide +kernel
theorem dX3_makePolicy_11 : decode cX3_makePolicy 11 = .ok (.iload 5, 2) := by decide +kernel
theorem dX3_makePolicy_13 : decode cX3_makePolicy 13 = .ok (.isub, 1) := by decide +kernel
theorem dX3_makePolicy_14 : decode cX3_makePolicy 14 = .ok (.iastore, 1) := by decide +kernel
theorem dX3_makePolicy_15 : decode cX3_makePolicy 15 = .ok (.aload_n 0, 1) := by decide +kernel
theorem dX3_makePolicy_16 : decode cX3_makePolicy 16 = .ok (.getfield 52, 3) := by decide +kernel
theorem dX3_makePolicy_19 : decode cX3_makePolicy 19 = .ok (.getfield 111, 3) := by decide +kernel
theorem dX3_makePolicy_22 : decode cX3_makePolicy 22 = .ok (.iload_n 2, 1) := by decide +kernel
theorem dX3_makePolicy_23 : decode cX3_makePolicy 23 = .ok (.dup2, 1) := by decide +kernel
theorem dX3_makePolicy_24 : decode cX3_makePolicy 24 = .ok (.iaload, 1) := by decide +kernel
theorem dX3_makePolicy_25 : decode cX3_makePolicy 25 = .ok (.iload 5, 2) := by decide +kernel
theorem dX3_makePolicy_27 : decode cX3_makePolicy 27 = .ok (.iadd, 1) := by decide +kernel
theorem dX3_makePolicy_28 : decode cX3_makePolicy 28 = .ok (.iastore, 1) := by decide +kernel
theorem dX3_makePolicy_29 : decode cX3_makePolicy 29 = .ok (.aload_n 0, 1) := by decide +kernel
theorem dX3_makePolicy_30 : decode cX3_makePolicy 30 = .ok (.getfield 52, 3) := by decide +kernel
theorem dX3_makePolicy_33 : decode cX3_makePolicy 33 = .ok (.getfield 114, 3) := by decide +kernel
theorem dX3_makePolicy_36 : decode cX3_makePolicy 36 = .ok (.iload_n 2, 1) := by decide +kernel
theorem dX3_makePolicy_37 : decode cX3_makePolicy 37 = .ok (.dup2, 1) := by decide +kernel
theorem dX3_makePolicy_38 : decode cX3_makePolicy 38 = .ok (.iaload, 1) := by decide +kernel
theorem dX3_makePolicy_39 : decode cX3_makePolicy 39 = .ok (.iload 5, 2) := by decide +kernel
theorem dX3_makePolicy_41 : decode cX3_makePolicy 41 = .ok (.iadd, 1) := by decide +kernel
theorem dX3_makePolicy_42 : decode cX3_makePolicy 42 = .ok (.iastore, 1) := by decide +kernel
theorem dX3_makePolicy_43 : decode cX3_makePolicy 43 = .ok (.aload_n 0, 1) := by decide +kernel
theorem dX3_makePolicy_44 : decode cX3_makePolicy 44 = .ok (.getfield 31, 3) := by decide +kernel
theorem dX3_makePolicy_47 : decode cX3_makePolicy 47 = .ok (.getfield 117, 3) := by decide +kernel
theorem dX3_makePolicy_50 : decode cX3_makePolicy 50 = .ok (.iload_n 1, 1) := by decide +kernel
theorem dX3_makePolicy_51 : decode cX3_makePolicy 51 = .ok (.iload_n 2, 1) := by decide +kernel
theorem dX3_makePolicy_52 : decode cX3_makePolicy 52 = .ok (.iastore, 1) := by decide +kernel
theorem dX3_makePolicy_53 : decode cX3_makePolicy 53 = .ok (.aload_n 0, 1) := by decide +kernel
theorem dX3_makePolicy_54 : decode cX3_makePolicy 54 = .ok (.getfield 31, 3) := by decide +kernel
theorem dX3_makePolicy_57 : decode cX3_makePolicy 57 = .ok (.getfield 92, 3) := by decide +kernel
theorem dX3_makePolicy_60 : decode cX3_makePolicy 60 = .ok (.iload_n 1, 1) := by decide +kernel
theorem dX3_makePolicy_61 : decode cX3_makePolicy 61 = .ok (.aload_n 0, 1) := by decide +kernel
theorem dX3_makePolicy_62 : decode cX3_makePolicy 62 = .ok (.getfield 9, 3) := by decide +kernel
theorem dX3_makePolicy_65 : decode cX3_makePolicy 65 = .ok (.iload_n 3, 1) := by decide +kernel
theorem dX3_makePolicy_66 : decode cX3_makePolicy 66 = .ok (.iadd, 1) := by decide +kernel
theorem dX3_makePolicy_67 : decode cX3_makePolicy 67 = .ok (.iastore, 1) := by decide +kernel
theorem dX3_makePolicy_68 : decode cX3_makePolicy 68 = .ok (.aload_n 0, 1) := by decide +kernel
theorem dX3_makePolicy_69 : decode cX3_makePolicy 69 = .ok (.iload_n 2, 1) := by decide +kernel
theorem dX3_makePolicy_70 : decode cX3_makePolicy 70 = .ok (.invokevirtual 120, 3) := by decide +kernel
theorem dX3_makePolicy_73 : decode cX3_makePolicy 73 = .ok (.return_, 1) := by decide +kernel
theorem dX3_replaceCore_0 : decode cX3_replaceCore 0 = .ok (.aload_n 0, 1) := by decide +kernel
theorem dX3_replaceCore_1 : decode cX3_replaceCore 1 = .ok (.dup, 1) := by decide +kernel
theorem dX3_replaceCore_2 : decode cX3_replaceCore 2 = .ok (.getfield 18, 3) := by decide +kernel
theorem dX3_replaceCore_5 : decode cX3_replaceCore 5 = .ok (.aload_n 0, 1) := by decide +kernel
theorem dX3_replaceCore_6 : decode cX3_replaceCore 6 = .ok (.getfield 21, 3) := by decide +kernel
theorem dX3_replaceCore_9 : decode cX3_replaceCore 9 = .ok (.bipush 7, 2) := by decide +kernel
theorem dX3_replaceCore_11 : decode cX3_replaceCore 11 = .ok (.iaload, 1) := by decide +kernel
theorem dX3_replaceCore_12 : decode cX3_replaceCore 12 = .ok (.isub, 1) := by decide +kernel
theorem dX3_replaceCore_13 : decode cX3_replaceCore 13 = .ok (.putfield 18, 3) := by decide +kernel
theorem dX3_replaceCore_16 : decode cX3_replaceCore 16 = .ok (.aload_n 0, 1) := by decide +kernel
theorem dX3_replaceCore_17 : decode cX3_replaceCore 17 = .ok (.getfield 25, 3) := by decide +kernel
theorem dX3_replaceCore_20 : decode cX3_replaceCore 20 = .ok (.bipush 17, 2) := by decide +kernel
theorem dX3_replaceCore_22 : decode cX3_replaceCore 22 = .ok (.dup2, 1) := by decide +kernel
theorem dX3_replaceCore_23 : decode cX3_replaceCore 23 = .ok (.iaload, 1) := by decide +kernel
theorem dX3_replaceCore_24 : decode cX3_replaceCore 24 = .ok (.aload_n 0, 1) := by decide +kernel
theorem dX3_replaceCore_25 : decode cX3_replaceCore 25 = .ok (.getfield 21, 3) := by decide +kernel
theorem dX3_replaceCore_28 : decode cX3_replaceCore 28 = .ok (.bipush 7, 2) := by decide +kernel
theorem dX3_replaceCore_30 : decode cX3_replaceCore 30 = .ok (.iaload, 1) := by decide +kernel
theorem dX3_replaceCore_31 : decode cX3_replaceCore 31 = .ok (.iadd, 1) := by decide +kernel
theorem dX3_replaceCore_32 : decode cX3_replaceCore 32 = .ok (.iastore, 1) := by decide +kernel
theorem dX3_replaceCore_33 : decode cX3_replaceCore 33 = .ok (.aload_n 0, 1) := by decide +kernel
theorem dX3_replaceCore_34 : decode cX3_replaceCore 34 = .ok (.getfield 31, 3) := by decide +kernel
theorem dX3_replaceCore_37 : decode cX3_replaceCore 37 = .ok (.getfield 105, 3) := by decide +kernel
theorem dX3_replaceCore_40 : decode cX3_replaceCore 40 = .ok (.iload_n 1, 1) := by decide +kernel
theorem dX3_replaceCore_41 : decode cX3_replaceCore 41 = .ok (.bipush 100, 2) := by decide +kernel
theorem dX3_replaceCore_43 : decode cX3_replaceCore 43 = .ok (.iastore, 1) := by decide +kernel
theorem dX3_replaceCore_44 : decode cX3_replaceCore 44 = .ok (.aload_n 0, 1) := by decide +kernel
theorem dX3_replaceCore_45 : decode cX3_replaceCore 45 = .ok (.getfield 31, 3) := by decide +kernel
theorem dX3_replaceCore_48 : decode cX3_replaceCore 48 = .ok (.iload_n 1, 1) := by decide +kernel
theorem dX3_replaceCore_49 : decode cX3_replaceCore 49 = .ok (.iconst 0, 1) := by decide +kernel
theorem dX3_replaceCore_50 : decode cX3_replaceCore 50 = .ok (.invokevirtual 124, 3) := by decide +kernel
theorem dX3_replaceCore_53 : decode cX3_replaceCore 53 = .ok (.return_, 1) := by decide +kernel
theorem dX3_loseBit_0 : decode cX3_loseBit 0 = .ok (.aload_n 0, 1) := by decide +kernel
theorem dX3_loseBit_1 : decode cX3_loseBit 1 = .ok (.getfield 31, 3) := by decide +kernel
theorem dX3_loseBit_4 : decode cX3_loseBit 4 = .ok (.iload_n 1, 1) := by decide +kernel
theorem dX3_loseBit_5 : decode cX3_loseBit 5 = .ok (.iconst 0, 1) := by decide +kernel
theorem dX3_loseBit_6 : decode cX3_loseBit 6 = .ok (.invokevirtual 124, 3) := by decide +kernel
theorem dX3_loseBit_9 : decode cX3_loseBit 9 = .ok (.aload_n 0, 1) := by decide +kernel
theorem dX3_loseBit_10 : decode cX3_loseBit 10 = .ok (.getfield 31, 3) := by decide +kernel
theorem dX3_loseBit_13 : decode cX3_loseBit 13 = .ok (.getfield 128, 3) := by decide +kernel
theorem dX3_loseBit_16 : decode cX3_loseBit 16 = .ok (.iload_n 1, 1) := by decide +kernel
theorem dX3_loseBit_17 : decode cX3_loseBit 17 = .ok (.dup2, 1) := by decide +kernel
theorem dX3_loseBit_18 : decode cX3_loseBit 18 = .ok (.iaload, 1) := by decide +kernel
theorem dX3_loseBit_19 : decode cX3_loseBit 19 = .ok (.iconst 1, 1) := by decide +kernel
theorem dX3_loseBit_20 : decode cX3_loseBit 20 = .ok (.iadd, 1) := by decide +kernel
theorem dX3_loseBit_21 : decode cX3_loseBit 21 = .ok (.iastore, 1) := by decide +kernel
theorem dX3_loseBit_22 : decode cX3_loseBit 22 = .ok (.aload_n 0, 1) := by decide +kernel
theorem dX3_loseBit_23 : decode cX3_loseBit 23 = .ok (.getfield 25, 3) := by decide +kernel
theorem dX3_loseBit_26 : decode cX3_loseBit 26 = .ok (.iload_n 2, 1) := by decide +kernel
theorem dX3_loseBit_27 : decode cX3_loseBit 27 = .ok (.dup2, 1) := by decide +kernel
theorem dX3_loseBit_28 : decode cX3_loseBit 28 = .ok (.iaload, 1) := by decide +kernel
theorem dX3_loseBit_29 : decode cX3_loseBit 29 = .ok (.iconst 1, 1) := by decide +kernel
theorem dX3_loseBit_30 : decode cX3_loseBit 30 = .ok (.iadd, 1) := by decide +kernel
theorem dX3_loseBit_31 : decode cX3_loseBit 31 = .ok (.iastore, 1) := by decide +kernel
theorem dX3_loseBit_32 : decode cX3_loseBit 32 = .ok (.aload_n 0, 1) := by decide +kernel
theorem dX3_loseBit_33 : decode cX3_loseBit 33 = .ok (.getfield 31, 3) := by decide +kernel
theorem dX3_loseBit_36 : decode cX3_loseBit 36 = .ok (.getfield 102, 3) := by decide +kernel
theorem dX3_loseBit_39 : decode cX3_loseBit 39 = .ok (.iload_n 1, 1) := by decide +kernel
theorem dX3_loseBit_40 : decode cX3_loseBit 40 = .ok (.iaload, 1) := by decide +kernel
theorem dX3_loseBit_41 : decode cX3_loseBit 41 = .ok (.istore_n 3, 1) := by decide +kernel
theorem dX3_loseBit_42 : decode cX3_loseBit 42 = .ok (.aload_n 0, 1) := by decide +kernel
theorem dX3_loseBit_43 : decode cX3_loseBit 43 = .ok (.getfield 45, 3) := by decide +kernel
theorem dX3_loseBit_46 : decode cX3_loseBit 46 = .ok (.iload_n 3, 1) := by decide +kernel
theorem dX3_loseBit_47 : decode cX3_loseBit 47 = .ok (.invokevirtual 131, 3) := by decide +kernel
theorem dX3_loseBit_50 : decode cX3_loseBit 50 = .ok (.ifCond .ne 4, 3) := by decide +kernel
theorem dX3_loseBit_53 : decode cX3_loseBit 53 = .ok (.return_, 1) := by decide +kernel
theorem dX3_loseBit_54 : decode cX3_loseBit 54 = .ok (.aload_n 0, 1) := by decide +kernel
theorem dX3_loseBit_55 : decode cX3_loseBit 55 = .ok (.getfield 45, 3) := by decide +kernel
theorem dX3_loseBit_58 : decode cX3_loseBit 58 = .ok (.getfield 134, 3) := by decide +kernel
theorem dX3_loseBit_61 : decode cX3_loseBit 61 = .ok (.iload_n 3, 1) := by decide +kernel
theorem dX3_loseBit_62 : decode cX3_loseBit 62 = .ok (.dup2, 1) := by decide +kernel
theorem dX3_loseBit_63 : decode cX3_loseBit 63 = .ok (.iaload, 1) := by decide +kernel
theorem dX3_loseBit_64 : decode cX3_loseBit 64 = .ok (.iconst 1, 1) := by decide +kernel
theorem dX3_loseBit_65 : decode cX3_loseBit 65 = .ok (.iadd, 1) := by decide +kernel
theorem dX3_loseBit_66 : decode cX3_loseBit 66 = .ok (.iastore, 1) := by decide +kernel
theorem dX3_loseBit_67 : decode cX3_loseBit 67 = .ok (.aload_n 0, 1) := by decide +kernel
theorem dX3_loseBit_68 : decode cX3_loseBit 68 = .ok (.getfield 31, 3) := by decide +kernel
theorem dX3_loseBit_71 : decode cX3_loseBit 71 = .ok (.getfield 117, 3) := by decide +kernel
theorem dX3_loseBit_74 : decode cX3_loseBit 74 = .ok (.iload_n 1, 1) := by decide +kernel
theorem dX3_loseBit_75 : decode cX3_loseBit 75 = .ok (.iaload, 1) := by decide +kernel
theorem dX3_loseBit_76 : decode cX3_loseBit 76 = .ok (.istore 4, 2) := by decide +kernel
theorem dX3_loseBit_78 : decode cX3_loseBit 78 = .ok (.aload_n 0, 1) := by decide +kernel
theorem dX3_loseBit_79 : decode cX3_loseBit 79 = .ok (.getfield 52, 3) := by decide +kernel
theorem dX3_loseBit_82 : decode cX3_loseBit 82 = .ok (.iload 4, 2) := by decide +kernel
theorem dX3_loseBit_84 : decode cX3_loseBit 84 = .ok (.invokevirtual 135, 3) := by decide +kernel
theorem dX3_loseBit_87 : decode cX3_loseBit 87 = .ok (.ifCond .eq 24, 3) := by decide +kernel
theorem dX3_loseBit_90 : decode cX3_loseBit 90 = .ok (.aload_n 0, 1) := by decide +kernel
theorem dX3_loseBit_91 : decode cX3_loseBit 91 = .ok (.getfield 31, 3) := by decide +kernel
theorem dX3_loseBit_94 : decode cX3_loseBit 94 = .ok (.iload_n 1, 1) := by decide +kernel
theorem dX3_loseBit_95 : decode cX3_loseBit 95 = .ok (.invokevirtual 136, 3) := by decide +kernel
theorem dX3_loseBit_98 : decode cX3_loseBit 98 = .ok (.aload_n 0, 1) := by decide +kernel
theorem dX3_loseBit_99 : decode cX3_loseBit 99 = .ok (.iload 4, 2) := by decide +kernel
theorem dX3_loseBit_101 : decode cX3_loseBit 101 = .ok (.iload_n 3, 1) := by decide +kernel
theorem dX3_loseBit_102 : decode cX3_loseBit 102 = .ok (.invokevirtual 139, 3) := by decide +kernel
theorem dX3_loseBit_105 : decode cX3_loseBit 105 = .ok (.aload_n 0, 1) := by decide +kernel
theorem dX3_loseBit_106 : decode cX3_loseBit 106 = .ok (.iload 4, 2) := by decide +kernel
theorem dX3_loseBit_108 : decode cX3_loseBit 108 = .ok (.invokevirtual 120, 3) := by decide +kernel
theorem dX3_loseBit_111 : decode cX3_loseBit 111 = .ok (.return_, 1) := by decide +kernel
theorem dX3_enterClaim_0 : decode cX3_enterClaim 0 = .ok (.aload_n 0, 1) := by decide +kernel
theorem dX3_enterClaim_1 : decode cX3_enterClaim 1 = .ok (.getfield 59, 3) := by decide +kernel
theorem dX3_enterClaim_4 : decode cX3_enterClaim 4 = .ok (.sipush 512, 3) := by decide +kernel
theorem dX3_enterClaim_7 : decode cX3_enterClaim 7 = .ok (.if_icmp .ge 28, 3) := by decide +kernel
theorem dX3_enterClaim_10 : decode cX3_enterClaim 10 = .ok (.aload_n 0, 1) := by decide +kernel
theorem dX3_enterClaim_11 : decode cX3_enterClaim 11 = .ok (.getfield 56, 3) := by decide +kernel
theorem dX3_enterClaim_14 : decode cX3_enterClaim 14 = .ok (.aload_n 0, 1) := by decide +kernel
theorem dX3_enterClaim_15 : decode cX3_enterClaim 15 = .ok (.getfield 59, 3) := by decide +kernel
theorem dX3_enterClaim_18 : decode cX3_enterClaim 18 = .ok (.iload_n 1, 1) := by decide +kernel
theorem dX3_enterClaim_19 : decode cX3_enterClaim 19 = .ok (.bipush 6, 2) := by decide +kernel
theorem dX3_enterClaim_21 : decode cX3_enterClaim 21 = .ok (.imul, 1) := by decide +kernel
theorem dX3_enterClaim_22 : decode cX3_enterClaim 22 = .ok (.iload_n 2, 1) := by decide +kernel
theorem dX3_enterClaim_23 : decode cX3_enterClaim 23 = .ok (.iadd, 1) := by decide +kernel
theorem dX3_enterClaim_24 : decode cX3_enterClaim 24 = .ok (.iastore, 1) := by decide +kernel
theorem dX3_enterClaim_25 : decode cX3_enterClaim 25 = .ok (.aload_n 0, 1) := by decide +kernel
theorem dX3_enterClaim_26 : decode cX3_enterClaim 26 = .ok (.dup, 1) := by decide +kernel
theorem dX3_enterClaim_27 : decode cX3_enterClaim 27 = .ok (.getfield 59, 3) := by decide +kernel
theorem dX3_enterClaim_30 : decode cX3_enterClaim 30 = .ok (.iconst 1, 1) := by decide +kernel
theorem dX3_enterClaim_31 : decode cX3_enterClaim 31 = .ok (.iadd, 1) := by decide +kernel
theorem dX3_enterClaim_32 : decode cX3_enterClaim 32 = .ok (.putfield 59, 3) := by decide +kernel
theorem dX3_enterClaim_35 : decode cX3_enterClaim 35 = .ok (.return_, 1) := by decide +kernel
theorem dX3_payClaims_0 : decode cX3_payClaims 0 = .ok (.aload_n 0, 1) := by decide +kernel
theorem dX3_payClaims_1 : decode cX3_payClaims 1 = .ok (.getfield 52, 3) := by decide +kernel
theorem dX3_payClaims_4 : decode cX3_payClaims 4 = .ok (.getfield 143, 3) := by decide +kernel
theorem dX3_payClaims_7 : decode cX3_payClaims 7 = .ok (.iload_n 1, 1) := by decide +kernel
theorem dX3_payClaims_8 : decode cX3_payClaims 8 = .ok (.iaload, 1) := by decide +kernel
theorem dX3_payClaims_9 : decode cX3_payClaims 9 = .ok (.istore_n 2, 1) := by decide +kernel
theorem dX3_payClaims_10 : decode cX3_payClaims 10 = .ok (.iconst 0, 1) := by decide +kernel
theorem dX3_payClaims_11 : decode cX3_payClaims 11 = .ok (.istore_n 3, 1) := by decide +kernel
theorem dX3_payClaims_12 : decode cX3_payClaims 12 = .ok (.iconst 0, 1) := by decide +kernel
theorem dX3_payClaims_13 : decode cX3_payClaims 13 = .ok (.istore 4, 2) := by decide +kernel
theorem dX3_payClaims_15 : decode cX3_payClaims 15 = .ok (.iload 4, 2) := by decide +kernel
theorem dX3_payClaims_17 : decode cX3_payClaims 17 = .ok (.aload_n 0, 1) := by decide +kernel
theorem dX3_payClaims_18 : decode cX3_payClaims 18 = .ok (.getfield 59, 3) := by decide +kernel
theorem dX3_payClaims_21 : decode cX3_payClaims 21 = .ok (.if_icmp .ge 115, 3) := by decide +kernel
theorem dX3_payClaims_24 : decode cX3_payClaims 24 = .ok (.aload_n 0, 1) := by decide +kernel
theorem dX3_payClaims_25 : decode cX3_payClaims 25 = .ok (.getfield 56, 3) := by decide +kernel
theorem dX3_payClaims_28 : decode cX3_payClaims 28 = .ok (.iload 4, 2) := by decide +kernel
theorem dX3_payClaims_30 : decode cX3_payClaims 30 = .ok (.iaload, 1) := by decide +kernel
theorem dX3_payClaims_31 : decode cX3_payClaims 31 = .ok (.istore 5, 2) := by decide +kernel
theorem dX3_payClaims_33 : decode cX3_payClaims 33 = .ok (.iload 5, 2) := by decide +kernel
theorem dX3_payClaims_35 : decode cX3_payClaims 35 = .ok (.bipush 6, 2) := by decide +kernel
theorem dX3_payClaims_37 : decode cX3_payClaims 37 = .ok (.idiv, 1) := by decide +kernel
theorem dX3_payClaims_38 : decode cX3_payClaims 38 = .ok (.iload_n 1, 1) := by decide +kernel
theorem dX3_payClaims_39 : decode cX3_payClaims 39 = .ok (.if_icmp .ne 80, 3) := by decide +kernel
theorem dX3_payClaims_42 : decode cX3_payClaims 42 = .ok (.aload_n 0, 1) := by decide +kernel
theorem dX3_payClaims_43 : decode cX3_payClaims 43 = .ok (.getfield 52, 3) := by decide +kernel
theorem dX3_payClaims_46 : decode cX3_payClaims 46 = .ok (.getfield 111, 3) := by decide +kernel
theorem dX3_payClaims_49 : decode cX3_payClaims 49 = .ok (.iload_n 1, 1) := by decide +kernel
theorem dX3_payClaims_50 : decode cX3_payClaims 50 = .ok (.iaload, 1) := by decide +kernel
theorem dX3_payClaims_51 : decode cX3_payClaims 51 = .ok (.iload_n 2, 1) := by decide +kernel
theorem dX3_payClaims_52 : decode cX3_payClaims 52 = .ok (.if_icmp .lt 67, 3) := by decide +kernel
theorem dX3_payClaims_55 : decode cX3_payClaims 55 = .ok (.iload 5, 2) := by decide +kernel
theorem dX3_payClaims_57 : decode cX3_payClaims 57 = .ok (.bipush 6, 2) := by decide +kernel
theorem dX3_payClaims_59 : decode cX3_payClaims 59 = .ok (.irem, 1) := by decide +kernel
theorem dX3_payClaims_60 : decode cX3_payClaims 60 = .ok (.istore 6, 2) := by decide +kernel
theorem dX3_payClaims_62 : decode cX3_payClaims 62 = .ok (.aload_n 0, 1) := by decide +kernel
theorem dX3_payClaims_63 : decode cX3_payClaims 63 = .ok (.getfield 52, 3) := by decide +kernel
theorem dX3_payClaims_66 : decode cX3_payClaims 66 = .ok (.getfield 111, 3) := by decide +kernel
theorem dX3_payClaims_69 : decode cX3_payClaims 69 = .ok (.iload_n 1, 1) := by decide +kernel
theorem dX3_payClaims_70 : decode cX3_payClaims 70 = .ok (.dup2, 1) := by decide +kernel
theorem dX3_payClaims_71 : decode cX3_payClaims 71 = .ok (.iaload, 1) := by decide +kernel
theorem dX3_payClaims_72 : decode cX3_payClaims 72 = .ok (.iload_n 2, 1) := by decide +kernel
theorem dX3_payClaims_73 : decode cX3_payClaims 73 = .ok (.isub, 1) := by decide +kernel
theorem dX3_payClaims_74 : decode cX3_payClaims 74 = .ok (.iastore, 1) := by decide +kernel
theorem dX3_payClaims_75 : decode cX3_payClaims 75 = .ok (.aload_n 0, 1) := by decide +kernel
theorem dX3_payClaims_76 : decode cX3_payClaims 76 = .ok (.getfield 52, 3) := by decide +kernel
theorem dX3_payClaims_79 : decode cX3_payClaims 79 = .ok (.getfield 146, 3) := by decide +kernel
theorem dX3_payClaims_82 : decode cX3_payClaims 82 = .ok (.iload_n 1, 1) := by decide +kernel
theorem dX3_payClaims_83 : decode cX3_payClaims 83 = .ok (.dup2, 1) := by decide +kernel
theorem dX3_payClaims_84 : decode cX3_payClaims 84 = .ok (.iaload, 1) := by decide +kernel
theorem dX3_payClaims_85 : decode cX3_payClaims 85 = .ok (.iconst 1, 1) := by decide +kernel
theorem dX3_payClaims_86 : decode cX3_payClaims 86 = .ok (.iadd, 1) := by decide +kernel
theorem dX3_payClaims_87 : decode cX3_payClaims 87 = .ok (.iastore, 1) := by decide +kernel
theorem dX3_payClaims_88 : decode cX3_payClaims 88 = .ok (.aload_n 0, 1) := by decide +kernel
theorem dX3_payClaims_89 : decode cX3_payClaims 89 = .ok (.getfield 45, 3) := by decide +kernel
theorem dX3_payClaims_92 : decode cX3_payClaims 92 = .ok (.getfield 99, 3) := by decide +kernel
theorem dX3_payClaims_95 : decode cX3_payClaims 95 = .ok (.iload 6, 2) := by decide +kernel
theorem dX3_payClaims_97 : decode cX3_payClaims 97 = .ok (.dup2, 1) := by decide +kernel
theorem dX3_payClaims_98 : decode cX3_payClaims 98 = .ok (.iaload, 1) := by decide +kernel
theorem dX3_payClaims_99 : decode cX3_payClaims 99 = .ok (.iload_n 2, 1) := by decide +kernel
theorem dX3_payClaims_100 : decode cX3_payClaims 100 = .ok (.iadd, 1) := by decide +kernel
theorem dX3_payClaims_101 : decode cX3_payClaims 101 = .ok (.iastore, 1) := by decide +kernel
theorem dX3_payClaims_102 : decode cX3_payClaims 102 = .ok (.aload_n 0, 1) := by decide +kernel
theorem dX3_payClaims_103 : decode cX3_payClaims 103 = .ok (.getfield 45, 3) := by decide +kernel
theorem dX3_payClaims_106 : decode cX3_payClaims 106 = .ok (.getfield 149, 3) := by decide +kernel
theorem dX3_payClaims_109 : decode cX3_payClaims 109 = .ok (.iload 6, 2) := by decide +kernel
theorem dX3_payClaims_111 : decode cX3_payClaims 111 = .ok (.dup2, 1) := by decide +kernel
theorem dX3_payClaims_112 : decode cX3_payClaims 112 = .ok (.iaload, 1) := by decide +kernel
theorem dX3_payClaims_113 : decode cX3_payClaims 113 = .ok (.iload_n 2, 1) := by decide +kernel
theorem dX3_payClaims_114 : decode cX3_payClaims 114 = .ok (.iadd, 1) := by decide +kernel
theorem dX3_payClaims_115 : decode cX3_payClaims 115 = .ok (.iastore, 1) := by decide +kernel
theorem dX3_payClaims_116 : decode cX3_payClaims 116 = .ok (.goto 14, 3) := by decide +kernel
theorem dX3_payClaims_119 : decode cX3_payClaims 119 = .ok (.aload_n 0, 1) := by decide +kernel
theorem dX3_payClaims_120 : decode cX3_payClaims 120 = .ok (.getfield 56, 3) := by decide +kernel
theorem dX3_payClaims_123 : decode cX3_payClaims 123 = .ok (.iload_n 3, 1) := by decide +kernel
theorem dX3_payClaims_124 : decode cX3_payClaims 124 = .ok (.iload 5, 2) := by decide +kernel
theorem dX3_payClaims_126 : decode cX3_payClaims 126 = .ok (.iastore, 1) := by decide +kernel
theorem dX3_payClaims_127 : decode cX3_payClaims 127 = .ok (.iinc 3 1, 3) := by decide +kernel
theorem dX3_payClaims_130 : decode cX3_payClaims 130 = .ok (.iinc 4 1, 3) := by decide +kernel
theorem dX3_payClaims_133 : decode cX3_payClaims 133 = .ok (.goto (-118), 3) := by decide +kernel
theorem dX3_payClaims_136 : decode cX3_payClaims 136 = .ok (.aload_n 0, 1) := by decide +kernel
theorem dX3_payClaims_137 : decode cX3_payClaims 137 = .ok (.iload_n 3, 1) := by decide +kernel
theorem dX3_payClaims_138 : decode cX3_payClaims 138 = .ok (.putfield 59, 3) := by decide +kernel
theorem dX3_payClaims_141 : decode cX3_payClaims 141 = .ok (.return_, 1) := by decide +kernel
theorem dX3_waitingOf_0 : decode cX3_waitingOf 0 = .ok (.iconst 0, 1) := by decide +kernel
theorem dX3_waitingOf_1 : decode cX3_waitingOf 1 = .ok (.istore_n 2, 1) := by decide +kernel
theorem dX3_waitingOf_2 : decode cX3_waitingOf 2 = .ok (.iconst 0, 1) := by decide +kernel
theorem dX3_waitingOf_3 : decode cX3_waitingOf 3 = .ok (.istore_n 3, 1) := by decide +kernel
theorem dX3_waitingOf_4 : decode cX3_waitingOf 4 = .ok (.iload_n 3, 1) := by decide +kernel
theorem dX3_waitingOf_5 : decode cX3_waitingOf 5 = .ok (.aload_n 0, 1) := by decide +kernel
theorem dX3_waitingOf_6 : decode cX3_waitingOf 6 = .ok (.getfield 59, 3) := by decide +kernel
theorem dX3_waitingOf_9 : decode cX3_waitingOf 9 = .ok (.if_icmp .ge 25, 3) := by decide +kernel
theorem dX3_waitingOf_12 : decode cX3_waitingOf 12 = .ok (.aload_n 0, 1) := by decide +kernel
theorem dX3_waitingOf_13 : decode cX3_waitingOf 13 = .ok (.getfield 56, 3) := by decide +kernel
theorem dX3_waitingOf_16 : decode cX3_waitingOf 16 = .ok (.iload_n 3, 1) := by decide +kernel
theorem dX3_waitingOf_17 : decode cX3_waitingOf 17 = .ok (.iaload, 1) := by decide +kernel
theorem dX3_waitingOf_18 : decode cX3_waitingOf 18 = .ok (.bipush 6, 2) := by decide +kernel
theorem dX3_waitingOf_20 : decode cX3_waitingOf 20 = .ok (.irem, 1) := by decide +kernel
theorem dX3_waitingOf_21 : decode cX3_waitingOf 21 = .ok (.iload_n 1, 1) := by decide +kernel
theorem dX3_waitingOf_22 : decode cX3_waitingOf 22 = .ok (.if_icmp .ne 6, 3) := by decide +kernel
theorem dX3_waitingOf_25 : decode cX3_waitingOf 25 = .ok (.iinc 2 1, 3) := by decide +kernel
theorem dX3_waitingOf_28 : decode cX3_waitingOf 28 = .ok (.iinc 3 1, 3) := by decide +kernel
theorem dX3_waitingOf_31 : decode cX3_waitingOf 31 = .ok (.goto (-27), 3) := by decide +kernel
theorem dX3_waitingOf_34 : decode cX3_waitingOf 34 = .ok (.iload_n 2, 1) := by decide +kernel
theorem dX3_waitingOf_35 : decode cX3_waitingOf 35 = .ok (.ireturn, 1) := by decide +kernel
theorem dX3_waitingOn_0 : decode cX3_waitingOn 0 = .ok (.iconst 0, 1) := by decide +kernel
theorem dX3_waitingOn_1 : decode cX3_waitingOn 1 = .ok (.istore_n 2, 1) := by decide +kernel
theorem dX3_waitingOn_2 : decode cX3_waitingOn 2 = .ok (.iconst 0, 1) := by decide +kernel
theorem dX3_waitingOn_3 : decode cX3_waitingOn 3 = .ok (.istore_n 3, 1) := by decide +kernel
theorem dX3_waitingOn_4 : decode cX3_waitingOn 4 = .ok (.iload_n 3, 1) := by decide +kernel
theorem dX3_waitingOn_5 : decode cX3_waitingOn 5 = .ok (.aload_n 0, 1) := by decide +kernel
theorem dX3_waitingOn_6 : decode cX3_waitingOn 6 = .ok (.getfield 59, 3) := by decide +kernel
theorem dX3_waitingOn_9 : decode cX3_waitingOn 9 = .ok (.if_icmp .ge 25, 3) := by decide +kernel
theorem dX3_waitingOn_12 : decode cX3_waitingOn 12 = .ok (.aload_n 0, 1) := by decide +kernel
theorem dX3_waitingOn_13 : decode cX3_waitingOn 13 = .ok (.getfield 56, 3) := by decide +kernel
theorem dX3_waitingOn_16 : decode cX3_waitingOn 16 = .ok (.iload_n 3, 1) := by decide +kernel
theorem dX3_waitingOn_17 : decode cX3_waitingOn 17 = .ok (.iaload, 1) := by decide +kernel
theorem dX3_waitingOn_18 : decode cX3_waitingOn 18 = .ok (.bipush 6, 2) := by decide +kernel
theorem dX3_waitingOn_20 : decode cX3_waitingOn 20 = .ok (.idiv, 1) := by decide +kernel
theorem dX3_waitingOn_21 : decode cX3_waitingOn 21 = .ok (.iload_n 1, 1) := by decide +kernel
theorem dX3_waitingOn_22 : decode cX3_waitingOn 22 = .ok (.if_icmp .ne 6, 3) := by decide +kernel
theorem dX3_waitingOn_25 : decode cX3_waitingOn 25 = .ok (.iinc 2 1, 3) := by decide +kernel
theorem dX3_waitingOn_28 : decode cX3_waitingOn 28 = .ok (.iinc 3 1, 3) := by decide +kernel
theorem dX3_waitingOn_31 : decode cX3_waitingOn 31 = .ok (.goto (-27), 3) := by decide +kernel
theorem dX3_waitingOn_34 : decode cX3_waitingOn 34 = .ok (.iload_n 2, 1) := by decide +kernel
theorem dX3_waitingOn_35 : decode cX3_waitingOn 35 = .ok (.ireturn, 1) := by decide +kernel
theorem dX3_canBeRead_0 : decode cX3_canBeRead 0 = .ok (.aload_n 0, 1) := by decide +kernel
theorem dX3_canBeRead_1 : decode cX3_canBeRead 1 = .ok (.getfield 31, 3) := by decide +kernel
theorem dX3_canBeRead_4 : decode cX3_canBeRead 4 = .ok (.iload_n 1, 1) := by decide +kernel
theorem dX3_canBeRead_5 : decode cX3_canBeRead 5 = .ok (.invokevirtual 82, 3) := by decide +kernel
theorem dX3_canBeRead_8 : decode cX3_canBeRead 8 = .ok (.ifCond .eq 18, 3) := by decide +kernel
theorem dX3_canBeRead_11 : decode cX3_canBeRead 11 = .ok (.aload_n 0, 1) := by decide +kernel
theorem dX3_canBeRead_12 : decode cX3_canBeRead 12 = .ok (.getfield 38, 3) := by decide +kernel
theorem dX3_canBeRead_15 : decode cX3_canBeRead 15 = .ok (.iload_n 1, 1) := by decide +kernel
theorem dX3_canBeRead_16 : decode cX3_canBeRead 16 = .ok (.invokevirtual 152, 3) := by decide +kernel
theorem dX3_canBeRead_19 : decode cX3_canBeRead 19 = .ok (.ifCond .ne 7, 3) := by decide +kernel
theorem dX3_canBeRead_22 : decode cX3_canBeRead 22 = .ok (.iconst 1, 1) := by decide +kernel
theorem dX3_canBeRead_23 : decode cX3_canBeRead 23 = .ok (.goto 4, 3) := by decide +kernel
theorem dX3_canBeRead_26 : decode cX3_canBeRead 26 = .ok (.iconst 0, 1) := by decide +kernel
theorem dX3_canBeRead_27 : decode cX3_canBeRead 27 = .ok (.ireturn, 1) := by decide +kernel
theorem dX3_fragile_0 : decode cX3_fragile 0 = .ok (.aload_n 0, 1) := by decide +kernel
theorem dX3_fragile_1 : decode cX3_fragile 1 = .ok (.getfield 31, 3) := by decide +kernel
theorem dX3_fragile_4 : decode cX3_fragile 4 = .ok (.aload_n 0, 1) := by decide +kernel
theorem dX3_fragile_5 : decode cX3_fragile 5 = .ok (.getfield 21, 3) := by decide +kernel
theorem dX3_fragile_8 : decode cX3_fragile 8 = .ok (.iconst 5, 1) := by decide +kernel
theorem dX3_fragile_9 : decode cX3_fragile 9 = .ok (.iaload, 1) := by decide +kernel
theorem dX3_fragile_10 : decode cX3_fragile 10 = .ok (.invokevirtual 155, 3) := by decide +kernel
theorem dX3_fragile_13 : decode cX3_fragile 13 = .ok (.lreturn, 1) := by decide +kernel
theorem dX3_strengthBehindPulse_0 : decode cX3_strengthBehindPulse 0 = .ok (.iconst 0, 1) := by decide +kernel
theorem dX3_strengthBehindPulse_1 : decode cX3_strengthBehindPulse 1 = .ok (.aload_n 0, 1) := by decide +kernel
theorem dX3_strengthBehindPulse_2 : decode cX3_strengthBehindPulse 2 = .ok (.getfield 31, 3) := by decide +kernel
theorem dX3_strengthBehindPulse_5 : decode cX3_strengthBehindPulse 5 = .ok (.getfield 105, 3) := by decide +kernel
theorem dX3_strengthBehindPulse_8 : decode cX3_strengthBehindPulse 8 = .ok (.iload_n 1, 1) := by decide +kernel
theorem dX3_strengthBehindPulse_9 : decode cX3_strengthBehindPulse 9 = .ok (.iaload, 1) := by decide +kernel
theorem dX3_strengthBehindPulse_10 : decode cX3_strengthBehindPulse 10 = .ok (.iconst 1, 1) := by decide +kernel
theorem dX3_strengthBehindPulse_11 : decode cX3_strengthBehindPulse 11 = .ok (.isub, 1) := by decide +kernel
theorem dX3_strengthBehindPulse_12 : decode cX3_strengthBehindPulse 12 = .ok (.aload_n 0, 1) := by decide +kernel
theorem dX3_strengthBehindPulse_13 : decode cX3_strengthBehindPulse 13 = .ok (.getfield 15, 3) := by decide +kernel
theorem dX3_strengthBehindPulse_16 : decode cX3_strengthBehindPulse 16 = .ok (.bipush 25, 2) := by decide +kernel
theorem dX3_strengthBehindPulse_18 : decode cX3_strengthBehindPulse 18 = .ok (.idiv, 1) := by decide +kernel
theorem dX3_strengthBehindPulse_19 : decode cX3_strengthBehindPulse 19 = .ok (.isub, 1) := by decide +kernel
theorem dX3_strengthBehindPulse_20 : decode cX3_strengthBehindPulse 20 = .ok (.invokestatic 159, 3) := by decide +kernel
theorem dX3_strengthBehindPulse_23 : decode cX3_strengthBehindPulse 23 = .ok (.ireturn, 1) := by decide +kernel
theorem dX3_heatBehind_0 : decode cX3_heatBehind 0 = .ok (.bipush 100, 2) := by decide +kernel
theorem dX3_heatBehind_2 : decode cX3_heatBehind 2 = .ok (.aload_n 0, 1) := by decide +kernel
theorem dX3_heatBehind_3 : decode cX3_heatBehind 3 = .ok (.getfield 15, 3) := by decide +kernel
theorem dX3_heatBehind_6 : decode cX3_heatBehind 6 = .ok (.iload_n 1, 1) := by decide +kernel
theorem dX3_heatBehind_7 : decode cX3_heatBehind 7 = .ok (.iadd, 1) := by decide +kernel
theorem dX3_heatBehind_8 : decode cX3_heatBehind 8 = .ok (.invokestatic 165, 3) := by decide +kernel
theorem dX3_heatBehind_11 : decode cX3_heatBehind 11 = .ok (.ireturn, 1) := by decide +kernel
theorem dX3_pulse_0 : decode cX3_pulse 0 = .ok (.aload_n 0, 1) := by decide +kernel
theorem dX3_pulse_1 : decode cX3_pulse 1 = .ok (.getfield 31, 3) := by decide +kernel
theorem dX3_pulse_4 : decode cX3_pulse 4 = .ok (.getfield 105, 3) := by decide +kernel
theorem dX3_pulse_7 : decode cX3_pulse 7 = .ok (.iload_n 1, 1) := by decide +kernel
theorem dX3_pulse_8 : decode cX3_pulse 8 = .ok (.aload_n 0, 1) := by decide +kernel
theorem dX3_pulse_9 : decode cX3_pulse 9 = .ok (.iload_n 1, 1) := by decide +kernel
theorem dX3_pulse_10 : decode cX3_pulse 10 = .ok (.invokevirtual 168, 3) := by decide +kernel
theorem dX3_pulse_13 : decode cX3_pulse 13 = .ok (.iastore, 1) := by decide +kernel
theorem dX3_pulse_14 : decode cX3_pulse 14 = .ok (.aload_n 0, 1) := by decide +kernel
theorem dX3_pulse_15 : decode cX3_pulse 15 = .ok (.invokevirtual 171, 3) := by decide +kernel
theorem dX3_pulse_18 : decode cX3_pulse 18 = .ok (.iload_n 1, 1) := by decide +kernel
theorem dX3_pulse_19 : decode cX3_pulse 19 = .ok (.invokestatic 175, 3) := by decide +kernel
theorem dX3_pulse_22 : decode cX3_pulse 22 = .ok (.land, 1) := by decide +kernel
theorem dX3_pulse_23 : decode cX3_pulse 23 = .ok (.lstore_n 3, 1) := by decide +kernel
theorem dX3_pulse_24 : decode cX3_pulse 24 = .ok (.iconst 0, 1) := by decide +kernel
theorem dX3_pulse_25 : decode cX3_pulse 25 = .ok (.istore 5, 2) := by decide +kernel
theorem dX3_pulse_27 : decode cX3_pulse 27 = .ok (.iload 5, 2) := by decide +kernel
theorem dX3_pulse_29 : decode cX3_pulse 29 = .ok (.bipush 64, 2) := by decide +kernel
theorem dX3_pulse_31 : decode cX3_pulse 31 = .ok (.if_icmp .ge 35, 3) := by decide +kernel
theorem dX3_pulse_34 : decode cX3_pulse 34 = .ok (.lload_n 3, 1) := by decide +kernel
theorem dX3_pulse_35 : decode cX3_pulse 35 = .ok (.lconst 0, 1) := by decide +kernel
theorem dX3_pulse_36 : decode cX3_pulse 36 = .ok (.lcmp, 1) := by decide +kernel
theorem dX3_pulse_37 : decode cX3_pulse 37 = .ok (.ifCond .eq 29, 3) := by decide +kernel
theorem dX3_pulse_40 : decode cX3_pulse 40 = .ok (.lload_n 3, 1) := by decide +kernel
theorem dX3_pulse_41 : decode cX3_pulse 41 = .ok (.iload 5, 2) := by decide +kernel
theorem dX3_pulse_43 : decode cX3_pulse 43 = .ok (.invokestatic 178, 3) := by decide +kernel
theorem dX3_pulse_46 : decode cX3_pulse 46 = .ok (.land, 1) := by decide +kernel
theorem dX3_pulse_47 : decode cX3_pulse 47 = .ok (.lconst 0, 1) := by decide +kernel
theorem dX3_pulse_48 : decode cX3_pulse 48 = .ok (.lcmp, 1) := by decide +kernel
theorem dX3_pulse_49 : decode cX3_pulse 49 = .ok (.ifCond .eq 11, 3) := by decide +kernel
theorem dX3_pulse_52 : decode cX3_pulse 52 = .ok (.aload_n 0, 1) := by decide +kernel
theorem dX3_pulse_53 : decode cX3_pulse 53 = .ok (.iload 5, 2) := by decide +kernel
theorem dX3_pulse_55 : decode cX3_pulse 55 = .ok (.bipush 13, 2) := by decide +kernel
theorem dX3_pulse_57 : decode cX3_pulse 57 = .ok (.invokevirtual 181, 3) := by decide +kernel
theorem dX3_pulse_60 : decode cX3_pulse 60 = .ok (.iinc 5 1, 3) := by decide +kernel
theorem dX3_pulse_63 : decode cX3_pulse 63 = .ok (.goto (-36), 3) := by decide +kernel
theorem dX3_pulse_66 : decode cX3_pulse 66 = .ok (.aload_n 0, 1) := by decide +kernel
theorem dX3_pulse_67 : decode cX3_pulse 67 = .ok (.aload_n 0, 1) := by decide +kernel
theorem dX3_pulse_68 : decode cX3_pulse 68 = .ok (.iload_n 2, 1) := by decide +kernel
theorem dX3_pulse_69 : decode cX3_pulse 69 = .ok (.invokevirtual 184, 3) := by decide +kernel
theorem dX3_pulse_72 : decode cX3_pulse 72 = .ok (.putfield 15, 3) := by decide +kernel
theorem dX3_pulse_75 : decode cX3_pulse 75 = .ok (.return_, 1) := by decide +kernel
theorem dX3_holdsOne_0 : decode cX3_holdsOne 0 = .ok (.aload_n 0, 1) := by decide +kernel
theorem dX3_holdsOne_1 : decode cX3_holdsOne 1 = .ok (.getfield 31, 3) := by decide +kernel
theorem dX3_holdsOne_4 : decode cX3_holdsOne 4 = .ok (.getfield 105, 3) := by decide +kernel
theorem dX3_holdsOne_7 : decode cX3_holdsOne 7 = .ok (.iload_n 1, 1) := by decide +kernel
theorem dX3_holdsOne_8 : decode cX3_holdsOne 8 = .ok (.iaload, 1) := by decide +kernel
theorem dX3_holdsOne_9 : decode cX3_holdsOne 9 = .ok (.aload_n 0, 1) := by decide +kernel
theorem dX3_holdsOne_10 : decode cX3_holdsOne 10 = .ok (.getfield 21, 3) := by decide +kernel
theorem dX3_holdsOne_13 : decode cX3_holdsOne 13 = .ok (.iconst 4, 1) := by decide +kernel
theorem dX3_holdsOne_14 : decode cX3_holdsOne 14 = .ok (.iaload, 1) := by decide +kernel
theorem dX3_holdsOne_15 : decode cX3_holdsOne 15 = .ok (.if_icmp .lt 7, 3) := by decide +kernel
theorem dX3_holdsOne_18 : decode cX3_holdsOne 18 = .ok (.iconst 1, 1) := by decide +kernel
theorem dX3_holdsOne_19 : decode cX3_holdsOne 19 = .ok (.goto 4, 3) := by decide +kernel
theorem dX3_holdsOne_22 : decode cX3_holdsOne 22 = .ok (.iconst 0, 1) := by decide +kernel
theorem dX3_holdsOne_23 : decode cX3_holdsOne 23 = .ok (.ireturn, 1) := by decide +kernel
theorem dX3_writeBit_0 : decode cX3_writeBit 0 = .ok (.aload_n 0, 1) := by decide +kernel
theorem dX3_writeBit_1 : decode cX3_writeBit 1 = .ok (.iload_n 1, 1) := by decide +kernel
theorem dX3_writeBit_2 : decode cX3_writeBit 2 = .ok (.aload_n 0, 1) := by decide +kernel
theorem dX3_writeBit_3 : decode cX3_writeBit 3 = .ok (.getfield 21, 3) := by decide +kernel
theorem dX3_writeBit_6 : decode cX3_writeBit 6 = .ok (.iconst 1, 1) := by decide +kernel
theorem dX3_writeBit_7 : decode cX3_writeBit 7 = .ok (.iaload, 1) := by decide +kernel
theorem dX3_writeBit_8 : decode cX3_writeBit 8 = .ok (.invokevirtual 187, 3) := by decide +kernel
theorem dX3_writeBit_11 : decode cX3_writeBit 11 = .ok (.aload_n 0, 1) := by decide +kernel
theorem dX3_writeBit_12 : decode cX3_writeBit 12 = .ok (.getfield 31, 3) := by decide +kernel
theorem dX3_writeBit_15 : decode cX3_writeBit 15 = .ok (.iload_n 1, 1) := by decide +kernel
theorem dX3_writeBit_16 : decode cX3_writeBit 16 = .ok (.iload_n 2, 1) := by decide +kernel
theorem dX3_writeBit_17 : decode cX3_writeBit 17 = .ok (.ifCond .eq 15, 3) := by decide +kernel
theorem dX3_writeBit_20 : decode cX3_writeBit 20 = .ok (.aload_n 0, 1) := by decide +kernel
theorem dX3_writeBit_21 : decode cX3_writeBit 21 = .ok (.iload_n 1, 1) := by decide +kernel
theorem dX3_writeBit_22 : decode cX3_writeBit 22 = .ok (.invokevirtual 190, 3) := by decide +kernel
theorem dX3_writeBit_25 : decode cX3_writeBit 25 = .ok (.ifCond .eq 7, 3) := by decide +kernel
theorem dX3_writeBit_28 : decode cX3_writeBit 28 = .ok (.iconst 1, 1) := by decide +kernel
theorem dX3_writeBit_29 : decode cX3_writeBit 29 = .ok (.goto 4, 3) := by decide +kernel
theorem dX3_writeBit_32 : decode cX3_writeBit 32 = .ok (.iconst 0, 1) := by decide +kernel
theorem dX3_writeBit_33 : decode cX3_writeBit 33 = .ok (.invokevirtual 124, 3) := by decide +kernel
theorem dX3_writeBit_36 : decode cX3_writeBit 36 = .ok (.aload_n 0, 1) := by decide +kernel
theorem dX3_writeBit_37 : decode cX3_writeBit 37 = .ok (.getfield 38, 3) := by decide +kernel
theorem dX3_writeBit_40 : decode cX3_writeBit 40 = .ok (.iload_n 1, 1) := by decide +kernel
theorem dX3_writeBit_41 : decode cX3_writeBit 41 = .ok (.invokevirtual 152, 3) := by decide +kernel
theorem dX3_writeBit_44 : decode cX3_writeBit 44 = .ok (.ifCond .eq 22, 3) := by decide +kernel
theorem dX3_writeBit_47 : decode cX3_writeBit 47 = .ok (.aload_n 0, 1) := by decide +kernel
theorem dX3_writeBit_48 : decode cX3_writeBit 48 = .ok (.getfield 38, 3) := by decide +kernel
theorem dX3_writeBit_51 : decode cX3_writeBit 51 = .ok (.iload_n 1, 1) := by decide +kernel
theorem dX3_writeBit_52 : decode cX3_writeBit 52 = .ok (.invokevirtual 193, 3) := by decide +kernel
theorem dX3_writeBit_55 : decode cX3_writeBit 55 = .ok (.aload_n 0, 1) := by decide +kernel
theorem dX3_writeBit_56 : decode cX3_writeBit 56 = .ok (.getfield 25, 3) := by decide +kernel
theorem dX3_writeBit_59 : decode cX3_writeBit 59 = .ok (.bipush 14, 2) := by decide +kernel
theorem dX3_writeBit_61 : decode cX3_writeBit 61 = .ok (.dup2, 1) := by decide +kernel
theorem dX3_writeBit_62 : decode cX3_writeBit 62 = .ok (.iaload, 1) := by decide +kernel
theorem dX3_writeBit_63 : decode cX3_writeBit 63 = .ok (.iconst 1, 1) := by decide +kernel
theorem dX3_writeBit_64 : decode cX3_writeBit 64 = .ok (.iadd, 1) := by decide +kernel
theorem dX3_writeBit_65 : decode cX3_writeBit 65 = .ok (.iastore, 1) := by decide +kernel
theorem dX3_writeBit_66 : decode cX3_writeBit 66 = .ok (.return_, 1) := by decide +kernel
theorem dX3_readBit_0 : decode cX3_readBit 0 = .ok (.aload_n 0, 1) := by decide +kernel
theorem dX3_readBit_1 : decode cX3_readBit 1 = .ok (.iload_n 1, 1) := by decide +kernel
theorem dX3_readBit_2 : decode cX3_readBit 2 = .ok (.aload_n 0, 1) := by decide +kernel
theorem dX3_readBit_3 : decode cX3_readBit 3 = .ok (.getfield 21, 3) := by decide +kernel
theorem dX3_readBit_6 : decode cX3_readBit 6 = .ok (.iconst 2, 1) := by decide +kernel
theorem dX3_readBit_7 : decode cX3_readBit 7 = .ok (.iaload, 1) := by decide +kernel
theorem dX3_readBit_8 : decode cX3_readBit 8 = .ok (.invokevirtual 187, 3) := by decide +kernel
theorem dX3_readBit_11 : decode cX3_readBit 11 = .ok (.aload_n 0, 1) := by decide +kernel
theorem dX3_readBit_12 : decode cX3_readBit 12 = .ok (.getfield 25, 3) := by decide +kernel
theorem dX3_readBit_15 : decode cX3_readBit 15 = .ok (.bipush 8, 2) := by decide +kernel
theorem dX3_readBit_17 : decode cX3_readBit 17 = .ok (.dup2, 1) := by decide +kernel
theorem dX3_readBit_18 : decode cX3_readBit 18 = .ok (.iaload, 1) := by decide +kernel
theorem dX3_readBit_19 : decode cX3_readBit 19 = .ok (.iconst 1, 1) := by decide +kernel
theorem dX3_readBit_20 : decode cX3_readBit 20 = .ok (.iadd, 1) := by decide +kernel
theorem dX3_readBit_21 : decode cX3_readBit 21 = .ok (.iastore, 1) := by decide +kernel
theorem dX3_readBit_22 : decode cX3_readBit 22 = .ok (.aload_n 0, 1) := by decide +kernel
theorem dX3_readBit_23 : decode cX3_readBit 23 = .ok (.getfield 31, 3) := by decide +kernel
theorem dX3_readBit_26 : decode cX3_readBit 26 = .ok (.iload_n 1, 1) := by decide +kernel
theorem dX3_readBit_27 : decode cX3_readBit 27 = .ok (.invokevirtual 196, 3) := by decide +kernel
theorem dX3_readBit_30 : decode cX3_readBit 30 = .ok (.ifCond .ne 5, 3) := by decide +kernel
theorem dX3_readBit_33 : decode cX3_readBit 33 = .ok (.iconst 0, 1) := by decide +kernel
theorem dX3_readBit_34 : decode cX3_readBit 34 = .ok (.ireturn, 1) := by decide +kernel
theorem dX3_readBit_35 : decode cX3_readBit 35 = .ok (.aload_n 0, 1) := by decide +kernel
theorem dX3_readBit_36 : decode cX3_readBit 36 = .ok (.getfield 25, 3) := by decide +kernel
theorem dX3_readBit_39 : decode cX3_readBit 39 = .ok (.bipush 9, 2) := by decide +kernel
theorem dX3_readBit_41 : decode cX3_readBit 41 = .ok (.dup2, 1) := by decide +kernel
theorem dX3_readBit_42 : decode cX3_readBit 42 = .ok (.iaload, 1) := by decide +kernel
theorem dX3_readBit_43 : decode cX3_readBit 43 = .ok (.iconst 1, 1) := by decide +kernel
theorem dX3_readBit_44 : decode cX3_readBit 44 = .ok (.iadd, 1) := by decide +kernel
theorem dX3_readBit_45 : decode cX3_readBit 45 = .ok (.iastore, 1) := by decide +kernel
theorem dX3_readBit_46 : decode cX3_readBit 46 = .ok (.aload_n 0, 1) := by decide +kernel
theorem dX3_readBit_47 : decode cX3_readBit 47 = .ok (.getfield 31, 3) := by decide +kernel
theorem dX3_readBit_50 : decode cX3_readBit 50 = .ok (.iload_n 1, 1) := by decide +kernel
theorem dX3_readBit_51 : decode cX3_readBit 51 = .ok (.iconst 0, 1) := by decide +kernel
theorem dX3_readBit_52 : decode cX3_readBit 52 = .ok (.invokevirtual 124, 3) := by decide +kernel
theorem dX3_readBit_55 : decode cX3_readBit 55 = .ok (.aload_n 0, 1) := by decide +kernel
theorem dX3_readBit_56 : decode cX3_readBit 56 = .ok (.getfield 38, 3) := by decide +kernel
theorem dX3_readBit_59 : decode cX3_readBit 59 = .ok (.iload_n 1, 1) := by decide +kernel
theorem dX3_readBit_60 : decode cX3_readBit 60 = .ok (.aload_n 0, 1) := by decide +kernel
theorem dX3_readBit_61 : decode cX3_readBit 61 = .ok (.getfield 9, 3) := by decide +kernel
theorem dX3_readBit_64 : decode cX3_readBit 64 = .ok (.aload_n 0, 1) := by decide +kernel
theorem dX3_readBit_65 : decode cX3_readBit 65 = .ok (.getfield 21, 3) := by decide +kernel
theorem dX3_readBit_68 : decode cX3_readBit 68 = .ok (.iconst 3, 1) := by decide +kernel
theorem dX3_readBit_69 : decode cX3_readBit 69 = .ok (.iaload, 1) := by decide +kernel
theorem dX3_readBit_70 : decode cX3_readBit 70 = .ok (.iadd, 1) := by decide +kernel
theorem dX3_readBit_71 : decode cX3_readBit 71 = .ok (.invokevirtual 199, 3) := by decide +kernel
theorem dX3_readBit_74 : decode cX3_readBit 74 = .ok (.iconst 1, 1) := by decide +kernel
theorem dX3_readBit_75 : decode cX3_readBit 75 = .ok (.ireturn, 1) := by decide +kernel
theorem dX3_writeFirstBack_0 : decode cX3_writeFirstBack 0 = .ok (.aload_n 0, 1) := by decide +kernel
theorem dX3_writeFirstBack_1 : decode cX3_writeFirstBack 1 = .ok (.getfield 38, 3) := by decide +kernel
theorem dX3_writeFirstBack_4 : decode cX3_writeFirstBack 4 = .ok (.invokevirtual 202, 3) := by decide +kernel
theorem dX3_writeFirstBack_7 : decode cX3_writeFirstBack 7 = .ok (.istore_n 1, 1) := by decide +kernel
theorem dX3_writeFirstBack_8 : decode cX3_writeFirstBack 8 = .ok (.iload_n 1, 1) := by decide +kernel
theorem dX3_writeFirstBack_9 : decode cX3_writeFirstBack 9 = .ok (.invokestatic 206, 3) := by decide +kernel
theorem dX3_writeFirstBack_12 : decode cX3_writeFirstBack 12 = .ok (.ifCond .ne 5, 3) := by decide +kernel
theorem dX3_writeFirstBack_15 : decode cX3_writeFirstBack 15 = .ok (.iconst (-1), 1) := by decide +kernel
theorem dX3_writeFirstBack_16 : decode cX3_writeFirstBack 16 = .ok (.ireturn, 1) := by decide +kernel
theorem dX3_writeFirstBack_17 : decode cX3_writeFirstBack 17 = .ok (.aload_n 0, 1) := by decide +kernel
theorem dX3_writeFirstBack_18 : decode cX3_writeFirstBack 18 = .ok (.iload_n 1, 1) := by decide +kernel
theorem dX3_writeFirstBack_19 : decode cX3_writeFirstBack 19 = .ok (.aload_n 0, 1) := by decide +kernel
theorem dX3_writeFirstBack_20 : decode cX3_writeFirstBack 20 = .ok (.getfield 21, 3) := by decide +kernel
theorem dX3_writeFirstBack_23 : decode cX3_writeFirstBack 23 = .ok (.iconst 1, 1) := by decide +kernel
theorem dX3_writeFirstBack_24 : decode cX3_writeFirstBack 24 = .ok (.iaload, 1) := by decide +kernel
theorem dX3_writeFirstBack_25 : decode cX3_writeFirstBack 25 = .ok (.invokevirtual 187, 3) := by decide +kernel
theorem dX3_writeFirstBack_28 : decode cX3_writeFirstBack 28 = .ok (.aload_n 0, 1) := by decide +kernel
theorem dX3_writeFirstBack_29 : decode cX3_writeFirstBack 29 = .ok (.getfield 38, 3) := by decide +kernel
theorem dX3_writeFirstBack_32 : decode cX3_writeFirstBack 32 = .ok (.iload_n 1, 1) := by decide +kernel
theorem dX3_writeFirstBack_33 : decode cX3_writeFirstBack 33 = .ok (.invokevirtual 193, 3) := by decide +kernel
theorem dX3_writeFirstBack_36 : decode cX3_writeFirstBack 36 = .ok (.aload_n 0, 1) := by decide +kernel
theorem dX3_writeFirstBack_37 : decode cX3_writeFirstBack 37 = .ok (.iload_n 1, 1) := by decide +kernel
theorem dX3_writeFirstBack_38 : decode cX3_writeFirstBack 38 = .ok (.invokevirtual 190, 3) := by decide +kernel
theorem dX3_writeFirstBack_41 : decode cX3_writeFirstBack 41 = .ok (.ifCond .eq 26, 3) := by decide +kernel
theorem dX3_writeFirstBack_44 : decode cX3_writeFirstBack 44 = .ok (.aload_n 0, 1) := by decide +kernel
theorem dX3_writeFirstBack_45 : decode cX3_writeFirstBack 45 = .ok (.getfield 31, 3) := by decide +kernel
theorem dX3_writeFirstBack_48 : decode cX3_writeFirstBack 48 = .ok (.iload_n 1, 1) := by decide +kernel
theorem dX3_writeFirstBack_49 : decode cX3_writeFirstBack 49 = .ok (.iconst 1, 1) := by decide +kernel
theorem dX3_writeFirstBack_50 : decode cX3_writeFirstBack 50 = .ok (.invokevirtual 124, 3) := by decide +kernel
theorem dX3_writeFirstBack_53 : decode cX3_writeFirstBack 53 = .ok (.aload_n 0, 1) := by decide +kernel
theorem dX3_writeFirstBack_54 : decode cX3_writeFirstBack 54 = .ok (.getfield 25, 3) := by decide +kernel
theorem dX3_writeFirstBack_57 : decode cX3_writeFirstBack 57 = .ok (.bipush 10, 2) := by decide +kernel
theorem dX3_writeFirstBack_59 : decode cX3_writeFirstBack 59 = .ok (.dup2, 1) := by decide +kernel
theorem dX3_writeFirstBack_60 : decode cX3_writeFirstBack 60 = .ok (.iaload, 1) := by decide +kernel
theorem dX3_writeFirstBack_61 : decode cX3_writeFirstBack 61 = .ok (.iconst 1, 1) := by decide +kernel
theorem dX3_writeFirstBack_62 : decode cX3_writeFirstBack 62 = .ok (.iadd, 1) := by decide +kernel
theorem dX3_writeFirstBack_63 : decode cX3_writeFirstBack 63 = .ok (.iastore, 1) := by decide +kernel
theorem dX3_writeFirstBack_64 : decode cX3_writeFirstBack 64 = .ok (.goto 10, 3) := by decide +kernel
theorem dX3_writeFirstBack_67 : decode cX3_writeFirstBack 67 = .ok (.aload_n 0, 1) := by decide +kernel
theorem dX3_writeFirstBack_68 : decode cX3_writeFirstBack 68 = .ok (.iload_n 1, 1) := by decide +kernel
theorem dX3_writeFirstBack_69 : decode cX3_writeFirstBack 69 = .ok (.bipush 11, 2) := by decide +kernel
theorem dX3_writeFirstBack_71 : decode cX3_writeFirstBack 71 = .ok (.invokevirtual 181, 3) := by decide +kernel
theorem dX3_writeFirstBack_74 : decode cX3_writeFirstBack 74 = .ok (.iload_n 1, 1) := by decide +kernel
theorem dX3_writeFirstBack_75 : decode cX3_writeFirstBack 75 = .ok (.ireturn, 1) := by decide +kernel
theorem dX3_letPass_0 : decode cX3_letPass 0 = .ok (.iconst 0, 1) := by decide +kernel
theorem dX3_letPass_1 : decode cX3_letPass 1 = .ok (.istore_n 2, 1) := by decide +kernel
theorem dX3_letPass_2 : decode cX3_letPass 2 = .ok (.iload_n 2, 1) := by decide +kernel
theorem dX3_letPass_3 : decode cX3_letPass 3 = .ok (.iload_n 1, 1) := by decide +kernel
theorem dX3_letPass_4 : decode cX3_letPass 4 = .ok (.if_icmp .ge 13, 3) := by decide +kernel
theorem dX3_letPass_7 : decode cX3_letPass 7 = .ok (.aload_n 0, 1) := by decide +kernel
theorem dX3_letPass_8 : decode cX3_letPass 8 = .ok (.invokevirtual 209, 3) := by decide +kernel
theorem dX3_letPass_11 : decode cX3_letPass 11 = .ok (.iinc 2 1, 3) := by decide +kernel
theorem dX3_letPass_14 : decode cX3_letPass 14 = .ok (.goto (-12), 3) := by decide +kernel
theorem dX3_letPass_17 : decode cX3_letPass 17 = .ok (.return_, 1) := by decide +kernel
theorem dX3_tick_0 : decode cX3_tick 0 = .ok (.aload_n 0, 1) := by decide +kernel
theorem dX3_tick_1 : decode cX3_tick 1 = .ok (.dup, 1) := by decide +kernel
theorem dX3_tick_2 : decode cX3_tick 2 = .ok (.getfield 9, 3) := by decide +kernel
theorem dX3_tick_5 : decode cX3_tick 5 = .ok (.iconst 1, 1) := by decide +kernel
theorem dX3_tick_6 : decode cX3_tick 6 = .ok (.iadd, 1) := by decide +kernel
theorem dX3_tick_7 : decode cX3_tick 7 = .ok (.putfield 9, 3) := by decide +kernel
theorem dX3_tick_10 : decode cX3_tick 10 = .ok (.aload_n 0, 1) := by decide +kernel
theorem dX3_tick_11 : decode cX3_tick 11 = .ok (.iconst 0, 1) := by decide +kernel
theorem dX3_tick_12 : decode cX3_tick 12 = .ok (.aload_n 0, 1) := by decide +kernel
theorem dX3_tick_13 : decode cX3_tick 13 = .ok (.getfield 15, 3) := by decide +kernel
theorem dX3_tick_16 : decode cX3_tick 16 = .ok (.aload_n 0, 1) := by decide +kernel
theorem dX3_tick_17 : decode cX3_tick 17 = .ok (.getfield 21, 3) := by decide +kernel
theorem dX3_tick_20 : decode cX3_tick 20 = .ok (.bipush 6, 2) := by decide +kernel
theorem dX3_tick_22 : decode cX3_tick 22 = .ok (.iaload, 1) := by decide +kernel
theorem dX3_tick_23 : decode cX3_tick 23 = .ok (.isub, 1) := by decide +kernel
theorem dX3_tick_24 : decode cX3_tick 24 = .ok (.invokestatic 159, 3) := by decide +kernel
theorem dX3_tick_27 : decode cX3_tick 27 = .ok (.putfield 15, 3) := by decide +kernel
theorem dX3_tick_30 : decode cX3_tick 30 = .ok (.aload_n 0, 1) := by decide +kernel
theorem dX3_tick_31 : decode cX3_tick 31 = .ok (.invokevirtual 212, 3) := by decide +kernel
theorem dX3_tick_34 : decode cX3_tick 34 = .ok (.iconst 0, 1) := by decide +kernel
theorem dX3_tick_35 : decode cX3_tick 35 = .ok (.istore_n 1, 1) := by decide +kernel
theorem dX3_tick_36 : decode cX3_tick 36 = .ok (.iload_n 1, 1) := by decide +kernel
theorem dX3_tick_37 : decode cX3_tick 37 = .ok (.bipush 64, 2) := by decide +kernel
theorem dX3_tick_39 : decode cX3_tick 39 = .ok (.if_icmp .ge 76, 3) := by decide +kernel
theorem dX3_tick_42 : decode cX3_tick 42 = .ok (.aload_n 0, 1) := by decide +kernel
theorem dX3_tick_43 : decode cX3_tick 43 = .ok (.getfield 31, 3) := by decide +kernel
theorem dX3_tick_46 : decode cX3_tick 46 = .ok (.iload_n 1, 1) := by decide +kernel
theorem dX3_tick_47 : decode cX3_tick 47 = .ok (.invokevirtual 89, 3) := by decide +kernel
theorem dX3_tick_50 : decode cX3_tick 50 = .ok (.ifCond .eq 27, 3) := by decide +kernel
theorem dX3_tick_53 : decode cX3_tick 53 = .ok (.aload_n 0, 1) := by decide +kernel
theorem dX3_tick_54 : decode cX3_tick 54 = .ok (.getfield 31, 3) := by decide +kernel
theorem dX3_tick_57 : decode cX3_tick 57 = .ok (.getfield 92, 3) := by decide +kernel
theorem dX3_tick_60 : decode cX3_tick 60 = .ok (.iload_n 1, 1) := by decide +kernel
theorem dX3_tick_61 : decode cX3_tick 61 = .ok (.iaload, 1) := by decide +kernel
theorem dX3_tick_62 : decode cX3_tick 62 = .ok (.aload_n 0, 1) := by decide +kernel
theorem dX3_tick_63 : decode cX3_tick 63 = .ok (.getfield 9, 3) := by decide +kernel
theorem dX3_tick_66 : decode cX3_tick 66 = .ok (.if_icmp .gt 11, 3) := by decide +kernel
theorem dX3_tick_69 : decode cX3_tick 69 = .ok (.aload_n 0, 1) := by decide +kernel
theorem dX3_tick_70 : decode cX3_tick 70 = .ok (.getfield 31, 3) := by decide +kernel
theorem dX3_tick_73 : decode cX3_tick 73 = .ok (.iload_n 1, 1) := by decide +kernel
theorem dX3_tick_74 : decode cX3_tick 74 = .ok (.invokevirtual 136, 3) := by decide +kernel
theorem dX3_tick_77 : decode cX3_tick 77 = .ok (.aload_n 0, 1) := by decide +kernel
theorem dX3_tick_78 : decode cX3_tick 78 = .ok (.getfield 31, 3) := by decide +kernel
theorem dX3_tick_81 : decode cX3_tick 81 = .ok (.iload_n 1, 1) := by decide +kernel
theorem dX3_tick_82 : decode cX3_tick 82 = .ok (.invokevirtual 82, 3) := by decide +kernel
theorem dX3_tick_85 : decode cX3_tick 85 = .ok (.ifCond .eq 24, 3) := by decide +kernel
theorem dX3_tick_88 : decode cX3_tick 88 = .ok (.aload_n 0, 1) := by decide +kernel
theorem dX3_tick_89 : decode cX3_tick 89 = .ok (.getfield 31, 3) := by decide +kernel
theorem dX3_tick_92 : decode cX3_tick 92 = .ok (.getfield 86, 3) := by decide +kernel
theorem dX3_tick_95 : decode cX3_tick 95 = .ok (.iload_n 1, 1) := by decide +kernel
theorem dX3_tick_96 : decode cX3_tick 96 = .ok (.iaload, 1) := by decide +kernel
theorem dX3_tick_97 : decode cX3_tick 97 = .ok (.aload_n 0, 1) := by decide +kernel
theorem dX3_tick_98 : decode cX3_tick 98 = .ok (.getfield 9, 3) := by decide +kernel
theorem dX3_tick_101 : decode cX3_tick 101 = .ok (.if_icmp .gt 8, 3) := by decide +kernel
theorem dX3_tick_104 : decode cX3_tick 104 = .ok (.aload_n 0, 1) := by decide +kernel
theorem dX3_tick_105 : decode cX3_tick 105 = .ok (.iload_n 1, 1) := by decide +kernel
theorem dX3_tick_106 : decode cX3_tick 106 = .ok (.invokevirtual 215, 3) := by decide +kernel
theorem dX3_tick_109 : decode cX3_tick 109 = .ok (.iinc 1 1, 3) := by decide +kernel
theorem dX3_tick_112 : decode cX3_tick 112 = .ok (.goto (-76), 3) := by decide +kernel
theorem dX3_tick_115 : decode cX3_tick 115 = .ok (.return_, 1) := by decide +kernel
theorem dX3_loseLateBits_0 : decode cX3_loseLateBits 0 = .ok (.iconst 0, 1) := by decide +kernel
theorem dX3_loseLateBits_1 : decode cX3_loseLateBits 1 = .ok (.istore_n 1, 1) := by decide +kernel
theorem dX3_loseLateBits_2 : decode cX3_loseLateBits 2 = .ok (.iload_n 1, 1) := by decide +kernel
theorem dX3_loseLateBits_3 : decode cX3_loseLateBits 3 = .ok (.bipush 64, 2) := by decide +kernel
theorem dX3_loseLateBits_5 : decode cX3_loseLateBits 5 = .ok (.if_icmp .ge 55, 3) := by decide +kernel
theorem dX3_loseLateBits_8 : decode cX3_loseLateBits 8 = .ok (.aload_n 0, 1) := by decide +kernel
theorem dX3_loseLateBits_9 : decode cX3_loseLateBits 9 = .ok (.getfield 38, 3) := by decide +kernel
theorem dX3_loseLateBits_12 : decode cX3_loseLateBits 12 = .ok (.invokevirtual 202, 3) := by decide +kernel
theorem dX3_loseLateBits_15 : decode cX3_loseLateBits 15 = .ok (.istore_n 2, 1) := by decide +kernel
theorem dX3_loseLateBits_16 : decode cX3_loseLateBits 16 = .ok (.iload_n 2, 1) := by decide +kernel
theorem dX3_loseLateBits_17 : decode cX3_loseLateBits 17 = .ok (.invokestatic 206, 3) := by decide +kernel
theorem dX3_loseLateBits_20 : decode cX3_loseLateBits 20 = .ok (.ifCond .eq 18, 3) := by decide +kernel
theorem dX3_loseLateBits_23 : decode cX3_loseLateBits 23 = .ok (.aload_n 0, 1) := by decide +kernel
theorem dX3_loseLateBits_24 : decode cX3_loseLateBits 24 = .ok (.getfield 38, 3) := by decide +kernel
theorem dX3_loseLateBits_27 : decode cX3_loseLateBits 27 = .ok (.iload_n 2, 1) := by decide +kernel
theorem dX3_loseLateBits_28 : decode cX3_loseLateBits 28 = .ok (.invokevirtual 218, 3) := by decide +kernel
theorem dX3_loseLateBits_31 : decode cX3_loseLateBits 31 = .ok (.aload_n 0, 1) := by decide +kernel
theorem dX3_loseLateBits_32 : decode cX3_loseLateBits 32 = .ok (.getfield 9, 3) := by decide +kernel
theorem dX3_loseLateBits_35 : decode cX3_loseLateBits 35 = .ok (.if_icmp .lt 4, 3) := by decide +kernel
theorem dX3_loseLateBits_38 : decode cX3_loseLateBits 38 = .ok (.return_, 1) := by decide +kernel
theorem dX3_loseLateBits_39 : decode cX3_loseLateBits 39 = .ok (.aload_n 0, 1) := by decide +kernel
theorem dX3_loseLateBits_40 : decode cX3_loseLateBits 40 = .ok (.getfield 38, 3) := by decide +kernel
theorem dX3_loseLateBits_43 : decode cX3_loseLateBits 43 = .ok (.iload_n 2, 1) := by decide +kernel
theorem dX3_loseLateBits_44 : decode cX3_loseLateBits 44 = .ok (.invokevirtual 193, 3) := by decide +kernel
theorem dX3_loseLateBits_47 : decode cX3_loseLateBits 47 = .ok (.aload_n 0, 1) := by decide +kernel
theorem dX3_loseLateBits_48 : decode cX3_loseLateBits 48 = .ok (.iload_n 2, 1) := by decide +kernel
theorem dX3_loseLateBits_49 : decode cX3_loseLateBits 49 = .ok (.bipush 12, 2) := by decide +kernel
theorem dX3_loseLateBits_51 : decode cX3_loseLateBits 51 = .ok (.invokevirtual 181, 3) := by decide +kernel
theorem dX3_loseLateBits_54 : decode cX3_loseLateBits 54 = .ok (.iinc 1 1, 3) := by decide +kernel
theorem dX3_loseLateBits_57 : decode cX3_loseLateBits 57 = .ok (.goto (-55), 3) := by decide +kernel
theorem dX3_loseLateBits_60 : decode cX3_loseLateBits 60 = .ok (.return_, 1) := by decide +kernel
theorem dX3_endLeaseOf_0 : decode cX3_endLeaseOf 0 = .ok (.aload_n 0, 1) := by decide +kernel
theorem dX3_endLeaseOf_1 : decode cX3_endLeaseOf 1 = .ok (.getfield 31, 3) := by decide +kernel
theorem dX3_endLeaseOf_4 : decode cX3_endLeaseOf 4 = .ok (.iload_n 1, 1) := by decide +kernel
theorem dX3_endLeaseOf_5 : decode cX3_endLeaseOf 5 = .ok (.invokevirtual 221, 3) := by decide +kernel
theorem dX3_endLeaseOf_8 : decode cX3_endLeaseOf 8 = .ok (.aload_n 0, 1) := by decide +kernel
theorem dX3_endLeaseOf_9 : decode cX3_endLeaseOf 9 = .ok (.getfield 38, 3) := by decide +kernel
theorem dX3_endLeaseOf_12 : decode cX3_endLeaseOf 12 = .ok (.iload_n 1, 1) := by decide +kernel
theorem dX3_endLeaseOf_13 : decode cX3_endLeaseOf 13 = .ok (.invokevirtual 152, 3) := by decide +kernel
theorem dX3_endLeaseOf_16 : decode cX3_endLeaseOf 16 = .ok (.ifCond .eq 22, 3) := by decide +kernel
theorem dX3_endLeaseOf_19 : decode cX3_endLeaseOf 19 = .ok (.aload_n 0, 1) := by decide +kernel
theorem dX3_endLeaseOf_20 : decode cX3_endLeaseOf 20 = .ok (.getfield 38, 3) := by decide +kernel
theorem dX3_endLeaseOf_23 : decode cX3_endLeaseOf 23 = .ok (.iload_n 1, 1) := by decide +kernel
theorem dX3_endLeaseOf_24 : decode cX3_endLeaseOf 24 = .ok (.invokevirtual 193, 3) := by decide +kernel
theorem dX3_endLeaseOf_27 : decode cX3_endLeaseOf 27 = .ok (.aload_n 0, 1) := by decide +kernel
theorem dX3_endLeaseOf_28 : decode cX3_endLeaseOf 28 = .ok (.getfield 25, 3) := by decide +kernel
theorem dX3_endLeaseOf_31 : decode cX3_endLeaseOf 31 = .ok (.bipush 15, 2) := by decide +kernel
theorem dX3_endLeaseOf_33 : decode cX3_endLeaseOf 33 = .ok (.dup2, 1) := by decide +kernel
theorem dX3_endLeaseOf_34 : decode cX3_endLeaseOf 34 = .ok (.iaload, 1) := by decide +kernel
theorem dX3_endLeaseOf_35 : decode cX3_endLeaseOf 35 = .ok (.iconst 1, 1) := by decide +kernel
theorem dX3_endLeaseOf_36 : decode cX3_endLeaseOf 36 = .ok (.iadd, 1) := by decide +kernel
theorem dX3_endLeaseOf_37 : decode cX3_endLeaseOf 37 = .ok (.iastore, 1) := by decide +kernel
theorem dX3_endLeaseOf_38 : decode cX3_endLeaseOf 38 = .ok (.return_, 1) := by decide +kernel
theorem dX4_init_0 : decode cX4_init 0 = .ok (.aload_n 0, 1) := by decide +kernel
theorem dX4_init_1 : decode cX4_init 1 = .ok (.invokespecial 3, 3) := by decide +kernel
theorem dX4_init_4 : decode cX4_init 4 = .ok (.aload_n 0, 1) := by decide +kernel
theorem dX4_init_5 : decode cX4_init 5 = .ok (.iconst 0, 1) := by decide +kernel
theorem dX4_init_6 : decode cX4_init 6 = .ok (.putfield 9, 3) := by decide +kernel
theorem dX4_init_9 : decode cX4_init 9 = .ok (.aload_n 0, 1) := by decide +kernel
theorem dX4_init_10 : decode cX4_init 10 = .ok (.bipush 6, 2) := by decide +kernel
theorem dX4_init_12 : decode cX4_init 12 = .ok (.anewarray 15, 3) := by decide +kernel
theorem dX4_init_15 : decode cX4_init 15 = .ok (.putfield 17, 3) := by decide +kernel
theorem dX4_init_18 : decode cX4_init 18 = .ok (.iconst 0, 1) := by decide +kernel
theorem dX4_init_19 : decode cX4_init 19 = .ok (.istore_n 1, 1) := by decide +kernel
theorem dX4_init_20 : decode cX4_init 20 = .ok (.iload_n 1, 1) := by decide +kernel
theorem dX4_init_21 : decode cX4_init 21 = .ok (.bipush 6, 2) := by decide +kernel
theorem dX4_init_23 : decode cX4_init 23 = .ok (.if_icmp .ge 22, 3) := by decide +kernel
theorem dX4_init_26 : decode cX4_init 26 = .ok (.aload_n 0, 1) := by decide +kernel
theorem dX4_init_27 : decode cX4_init 27 = .ok (.getfield 17, 3) := by decide +kernel
theorem dX4_init_30 : decode cX4_init 30 = .ok (.iload_n 1, 1) := by decide +kernel
theorem dX4_init_31 : decode cX4_init 31 = .ok (.new 15, 3) := by decide +kernel
theorem dX4_init_34 : decode cX4_init 34 = .ok (.dup, 1) := by decide +kernel
theorem dX4_init_35 : decode cX4_init 35 = .ok (.invokespecial 21, 3) := by decide +kernel
theorem dX4_init_38 : decode cX4_init 38 = .ok (.aastore, 1) := by decide +kernel
theorem dX4_init_39 : decode cX4_init 39 = .ok (.iinc 1 1, 3) := by decide +kernel
theorem dX4_init_42 : decode cX4_init 42 = .ok (.goto (-22), 3) := by decide +kernel
theorem dX4_init_45 : decode cX4_init 45 = .ok (.return_, 1) := by decide +kernel
theorem dX4_keep_0 : decode cX4_keep 0 = .ok (.aload_n 0, 1) := by decide +kernel
theorem dX4_keep_1 : decode cX4_keep 1 = .ok (.getfield 9, 3) := by decide +kernel
theorem dX4_keep_4 : decode cX4_keep 4 = .ok (.bipush 6, 2) := by decide +kernel
theorem dX4_keep_6 : decode cX4_keep 6 = .ok (.if_icmp .lt 7, 3) := by decide +kernel
theorem dX4_keep_9 : decode cX4_keep 9 = .ok (.aload_n 0, 1) := by decide +kernel
theorem dX4_keep_10 : decode cX4_keep 10 = .ok (.invokevirtual 22, 3) := by decide +kernel
theorem dX4_keep_13 : decode cX4_keep 13 = .ok (.aload_n 0, 1) := by decide +kernel
theorem dX4_keep_14 : decode cX4_keep 14 = .ok (.getfield 17, 3) := by decide +kernel
theorem dX4_keep_17 : decode cX4_keep 17 = .ok (.aload_n 0, 1) := by decide +kernel
theorem dX4_keep_18 : decode cX4_keep 18 = .ok (.getfield 9, 3) := by decide +kernel
theorem dX4_keep_21 : decode cX4_keep 21 = .ok (.aaload, 1) := by decide +kernel
theorem dX4_keep_22 : decode cX4_keep 22 = .ok (.aload_n 1, 1) := by decide +kernel
theorem dX4_keep_23 : decode cX4_keep 23 = .ok (.invokevirtual 25, 3) := by decide +kernel
theorem dX4_keep_26 : decode cX4_keep 26 = .ok (.aload_n 0, 1) := by decide +kernel
theorem dX4_keep_27 : decode cX4_keep 27 = .ok (.dup, 1) := by decide +kernel
theorem dX4_keep_28 : decode cX4_keep 28 = .ok (.getfield 9, 3) := by decide +kernel
theorem dX4_keep_31 : decode cX4_keep 31 = .ok (.iconst 1, 1) := by decide +kernel
theorem dX4_keep_32 : decode cX4_keep 32 = .ok (.iadd, 1) := by decide +kernel
theorem dX4_keep_33 : decode cX4_keep 33 = .ok (.putfield 9, 3) := by decide +kernel
theorem dX4_keep_36 : decode cX4_keep 36 = .ok (.return_, 1) := by decide +kernel
theorem dX4_dropOldest_0 : decode cX4_dropOldest 0 = .ok (.aload_n 0, 1) := by decide +kernel
theorem dX4_dropOldest_1 : decode cX4_dropOldest 1 = .ok (.getfield 17, 3) := by decide +kernel
theorem dX4_dropOldest_4 : decode cX4_dropOldest 4 = .ok (.iconst 0, 1) := by decide +kernel
theorem dX4_dropOldest_5 : decode cX4_dropOldest 5 = .ok (.aaload, 1) := by decide +kernel
theorem dX4_dropOldest_6 : decode cX4_dropOldest 6 = .ok (.astore_n 1, 1) := by decide +kernel
theorem dX4_dropOldest_7 : decode cX4_dropOldest 7 = .ok (.iconst 1, 1) := by decide +kernel
theorem dX4_dropOldest_8 : decode cX4_dropOldest 8 = .ok (.istore_n 2, 1) := by decide +kernel
theorem dX4_dropOldest_9 : decode cX4_dropOldest 9 = .ok (.iload_n 2, 1) := by decide +kernel
theorem dX4_dropOldest_10 : decode cX4_dropOldest 10 = .ok (.bipush 6, 2) := by decide +kernel
theorem dX4_dropOldest_12 : decode cX4_dropOldest 12 = .ok (.if_icmp .ge 23, 3) := by decide +kernel
theorem dX4_dropOldest_15 : decode cX4_dropOldest 15 = .ok (.aload_n 0, 1) := by decide +kernel
theorem dX4_dropOldest_16 : decode cX4_dropOldest 16 = .ok (.getfield 17, 3) := by decide +kernel
theorem dX4_dropOldest_19 : decode cX4_dropOldest 19 = .ok (.iload_n 2, 1) := by decide +kernel
theorem dX4_dropOldest_20 : decode cX4_dropOldest 20 = .ok (.iconst 1, 1) := by decide +kernel
theorem dX4_dropOldest_21 : decode cX4_dropOldest 21 = .ok (.isub, 1) := by decide +kernel
theorem dX4_dropOldest_22 : decode cX4_dropOldest 22 = .ok (.aload_n 0, 1) := by decide +kernel
theorem dX4_dropOldest_23 : decode cX4_dropOldest 23 = .ok (.getfield 17, 3) := by decide +kernel
theorem dX4_dropOldest_26 : decode cX4_dropOldest 26 = .ok (.iload_n 2, 1) := by decide +kernel
theorem dX4_dropOldest_27 : decode cX4_dropOldest 27 = .ok (.aaload, 1) := by decide +kernel
theorem dX4_dropOldest_28 : decode cX4_dropOldest 28 = .ok (.aastore, 1) := by decide +kernel
theorem dX4_dropOldest_29 : decode cX4_dropOldest 29 = .ok (.iinc 2 1, 3) := by decide +kernel
theorem dX4_dropOldest_32 : decode cX4_dropOldest 32 = .ok (.goto (-23), 3) := by decide +kernel
theorem dX4_dropOldest_35 : decode cX4_dropOldest 35 = .ok (.aload_n 0, 1) := by decide +kernel
theorem dX4_dropOldest_36 : decode cX4_dropOldest 36 = .ok (.getfield 17, 3) := by decide +kernel
theorem dX4_dropOldest_39 : decode cX4_dropOldest 39 = .ok (.iconst 5, 1) := by decide +kernel
theorem dX4_dropOldest_40 : decode cX4_dropOldest 40 = .ok (.aload_n 1, 1) := by decide +kernel
theorem dX4_dropOldest_41 : decode cX4_dropOldest 41 = .ok (.aastore, 1) := by decide +kernel
theorem dX4_dropOldest_42 : decode cX4_dropOldest 42 = .ok (.aload_n 0, 1) := by decide +kernel
theorem dX4_dropOldest_43 : decode cX4_dropOldest 43 = .ok (.iconst 5, 1) := by decide +kernel
theorem dX4_dropOldest_44 : decode cX4_dropOldest 44 = .ok (.putfield 9, 3) := by decide +kernel
theorem dX4_dropOldest_47 : decode cX4_dropOldest 47 = .ok (.return_, 1) := by decide +kernel
theorem dX5_init_0 : decode cX5_init 0 = .ok (.aload_n 0, 1) := by decide +kernel
theorem dX5_init_1 : decode cX5_init 1 = .ok (.invokespecial 3, 3) := by decide +kernel
theorem dX5_init_4 : decode cX5_init 4 = .ok (.aload_n 0, 1) := by decide +kernel
theorem dX5_init_5 : decode cX5_init 5 = .ok (.iconst 0, 1) := by decide +kernel
theorem dX5_init_6 : decode cX5_init 6 = .ok (.putfield 9, 3) := by decide +kernel
theorem dX5_init_9 : decode cX5_init 9 = .ok (.aload_n 0, 1) := by decide +kernel
theorem dX5_init_10 : decode cX5_init 10 = .ok (.bipush 6, 2) := by decide +kernel
theorem dX5_init_12 : decode cX5_init 12 = .ok (.newarray .int, 2) := by decide +kernel
theorem dX5_init_14 : decode cX5_init 14 = .ok (.putfield 15, 3) := by decide +kernel
theorem dX5_init_17 : decode cX5_init 17 = .ok (.aload_n 0, 1) := by decide +kernel
theorem dX5_init_18 : decode cX5_init 18 = .ok (.bipush 6, 2) := by decide +kernel
theorem dX5_init_20 : decode cX5_init 20 = .ok (.newarray .int, 2) := by decide +kernel
theorem dX5_init_22 : decode cX5_init 22 = .ok (.putfield 19, 3) := by decide +kernel
theorem dX5_init_25 : decode cX5_init 25 = .ok (.aload_n 0, 1) := by decide +kernel
theorem dX5_init_26 : decode cX5_init 26 = .ok (.bipush 6, 2) := by decide +kernel
theorem dX5_init_28 : decode cX5_init 28 = .ok (.newarray .int, 2) := by decide +kernel
theorem dX5_init_30 : decode cX5_init 30 = .ok (.putfield 22, 3) := by decide +kernel
theorem dX5_init_33 : decode cX5_init 33 = .ok (.return_, 1) := by decide +kernel
theorem dX5_become_0 : decode cX5_become 0 = .ok (.aload_n 0, 1) := by decide +kernel
theorem dX5_become_1 : decode cX5_become 1 = .ok (.aload_n 1, 1) := by decide +kernel
theorem dX5_become_2 : decode cX5_become 2 = .ok (.getfield 9, 3) := by decide +kernel
theorem dX5_become_5 : decode cX5_become 5 = .ok (.putfield 9, 3) := by decide +kernel
theorem dX5_become_8 : decode cX5_become 8 = .ok (.aload_n 1, 1) := by decide +kernel
theorem dX5_become_9 : decode cX5_become 9 = .ok (.getfield 15, 3) := by decide +kernel
theorem dX5_become_12 : decode cX5_become 12 = .ok (.aload_n 0, 1) := by decide +kernel
theorem dX5_become_13 : decode cX5_become 13 = .ok (.getfield 15, 3) := by decide +kernel
theorem dX5_become_16 : decode cX5_become 16 = .ok (.invokestatic 25, 3) := by decide +kernel
theorem dX5_become_19 : decode cX5_become 19 = .ok (.aload_n 1, 1) := by decide +kernel
theorem dX5_become_20 : decode cX5_become 20 = .ok (.getfield 19, 3) := by decide +kernel
theorem dX5_become_23 : decode cX5_become 23 = .ok (.aload_n 0, 1) := by decide +kernel
theorem dX5_become_24 : decode cX5_become 24 = .ok (.getfield 19, 3) := by decide +kernel
theorem dX5_become_27 : decode cX5_become 27 = .ok (.invokestatic 25, 3) := by decide +kernel
theorem dX5_become_30 : decode cX5_become 30 = .ok (.aload_n 1, 1) := by decide +kernel
theorem dX5_become_31 : decode cX5_become 31 = .ok (.getfield 22, 3) := by decide +kernel
theorem dX5_become_34 : decode cX5_become 34 = .ok (.aload_n 0, 1) := by decide +kernel
theorem dX5_become_35 : decode cX5_become 35 = .ok (.getfield 22, 3) := by decide +kernel
theorem dX5_become_38 : decode cX5_become 38 = .ok (.invokestatic 25, 3) := by decide +kernel
theorem dX5_become_41 : decode cX5_become 41 = .ok (.return_, 1) := by decide +kernel
theorem dX5_has_0 : decode cX5_has 0 = .ok (.iconst 0, 1) := by decide +kernel
theorem dX5_has_1 : decode cX5_has 1 = .ok (.iload_n 1, 1) := by decide +kernel
theorem dX5_has_2 : decode cX5_has 2 = .ok (.if_icmp .gt 15, 3) := by decide +kernel
theorem dX5_has_5 : decode cX5_has 5 = .ok (.iload_n 1, 1) := by decide +kernel
theorem dX5_has_6 : decode cX5_has 6 = .ok (.aload_n 0, 1) := by decide +kernel
theorem dX5_has_7 : decode cX5_has 7 = .ok (.getfield 9, 3) := by decide +kernel
theorem dX5_has_10 : decode cX5_has 10 = .ok (.if_icmp .ge 7, 3) := by decide +kernel
theorem dX5_has_13 : decode cX5_has 13 = .ok (.iconst 1, 1) := by decide +kernel
theorem dX5_has_14 : decode cX5_has 14 = .ok (.goto 4, 3) := by decide +kernel
theorem dX5_has_17 : decode cX5_has 17 = .ok (.iconst 0, 1) := by decide +kernel
theorem dX5_has_18 : decode cX5_has 18 = .ok (.ireturn, 1) := by decide +kernel
theorem dX5_enter_0 : decode cX5_enter 0 = .ok (.aload_n 0, 1) := by decide +kernel
theorem dX5_enter_1 : decode cX5_enter 1 = .ok (.getfield 9, 3) := by decide +kernel
theorem dX5_enter_4 : decode cX5_enter 4 = .ok (.bipush 6, 2) := by decide +kernel
theorem dX5_enter_6 : decode cX5_enter 6 = .ok (.if_icmp .lt 5, 3) := by decide +kernel
theorem dX5_enter_9 : decode cX5_enter 9 = .ok (.iconst (-1), 1) := by decide +kernel
theorem dX5_enter_10 : decode cX5_enter 10 = .ok (.ireturn, 1) := by decide +kernel
theorem dX5_enter_11 : decode cX5_enter 11 = .ok (.aload_n 0, 1) := by decide +kernel
theorem dX5_enter_12 : decode cX5_enter 12 = .ok (.getfield 15, 3) := by decide +kernel
theorem dX5_enter_15 : decode cX5_enter 15 = .ok (.aload_n 0, 1) := by decide +kernel
theorem dX5_enter_16 : decode cX5_enter 16 = .ok (.getfield 9, 3) := by decide +kernel
theorem dX5_enter_19 : decode cX5_enter 19 = .ok (.iload_n 1, 1) := by decide +kernel
theorem dX5_enter_20 : decode cX5_enter 20 = .ok (.iastore, 1) := by decide +kernel
theorem dX5_enter_21 : decode cX5_enter 21 = .ok (.aload_n 0, 1) := by decide +kernel
theorem dX5_enter_22 : decode cX5_enter 22 = .ok (.dup, 1) := by decide +kernel
theorem dX5_enter_23 : decode cX5_enter 23 = .ok (.getfield 9, 3) := by decide +kernel
theorem dX5_enter_26 : decode cX5_enter 26 = .ok (.iconst 1, 1) := by decide +kernel
theorem dX5_enter_27 : decode cX5_enter 27 = .ok (.iadd, 1) := by decide +kernel
theorem dX5_enter_28 : decode cX5_enter 28 = .ok (.putfield 9, 3) := by decide +kernel
theorem dX5_enter_31 : decode cX5_enter 31 = .ok (.aload_n 0, 1) := by decide +kernel
theorem dX5_enter_32 : decode cX5_enter 32 = .ok (.getfield 9, 3) := by decide +kernel
theorem dX5_enter_35 : decode cX5_enter 35 = .ok (.iconst 1, 1) := by decide +kernel
theorem dX5_enter_36 : decode cX5_enter 36 = .ok (.isub, 1) := by decide +kernel
theorem dX5_enter_37 : decode cX5_enter 37 = .ok (.ireturn, 1) := by decide +kernel
theorem dX6_init_0 : decode cX6_init 0 = .ok (.aload_n 0, 1) := by decide +kernel
theorem dX6_init_1 : decode cX6_init 1 = .ok (.invokespecial 3, 3) := by decide +kernel
theorem dX6_init_4 : decode cX6_init 4 = .ok (.aload_n 0, 1) := by decide +kernel
theorem dX6_init_5 : decode cX6_init 5 = .ok (.iconst 0, 1) := by decide +kernel
theorem dX6_init_6 : decode cX6_init 6 = .ok (.putfield 9, 3) := by decide +kernel
theorem dX6_init_9 : decode cX6_init 9 = .ok (.aload_n 0, 1) := by decide +kernel
theorem dX6_init_10 : decode cX6_init 10 = .ok (.bipush 60, 2) := by decide +kernel
theorem dX6_init_12 : decode cX6_init 12 = .ok (.newarray .int, 2) := by decide +kernel
theorem dX6_init_14 : decode cX6_init 14 = .ok (.putfield 15, 3) := by decide +kernel
theorem dX6_init_17 : decode cX6_init 17 = .ok (.return_, 1) := by decide +kernel
theorem dX6_put_0 : decode cX6_put 0 = .ok (.aload_n 0, 1) := by decide +kernel
theorem dX6_put_1 : decode cX6_put 1 = .ok (.getfield 9, 3) := by decide +kernel
