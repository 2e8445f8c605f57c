theorem dX7_requireLimit_15 : decode cX7_requireLimit 15 = .ok (.ldc 230, 2) := by decide +kernel
theorem dX7_requireLimit_17 : decode cX7_requireLimit 17 = .ok (.invokespecial 54, 3) := by decide +kernel
theorem dX7_requireLimit_20 : decode cX7_requireLimit 20 = .ok (.athrow, 1) := by decide +kernel
theorem dX7_requireLimit_21 : decode cX7_requireLimit 21 = .ok (.return_, 1) := by decide +kernel
theorem dX7_hasBit_0 : decode cX7_hasBit 0 = .ok (.iload_n 1, 1) := by decide +kernel
theorem dX7_hasBit_1 : decode cX7_hasBit 1 = .ok (.ifCond .lt 21, 3) := by decide +kernel
theorem dX7_hasBit_4 : decode cX7_hasBit 4 = .ok (.iload_n 1, 1) := by decide +kernel
theorem dX7_hasBit_5 : decode cX7_hasBit 5 = .ok (.bipush 32, 2) := by decide +kernel
theorem dX7_hasBit_7 : decode cX7_hasBit 7 = .ok (.if_icmp .ge 15, 3) := by decide +kernel
theorem dX7_hasBit_10 : decode cX7_hasBit 10 = .ok (.iload_n 0, 1) := by decide +kernel
theorem dX7_hasBit_11 : decode cX7_hasBit 11 = .ok (.iload_n 1, 1) := by decide +kernel
theorem dX7_hasBit_12 : decode cX7_hasBit 12 = .ok (.iushr, 1) := by decide +kernel
theorem dX7_hasBit_13 : decode cX7_hasBit 13 = .ok (.iconst 1, 1) := by decide +kernel
theorem dX7_hasBit_14 : decode cX7_hasBit 14 = .ok (.iand, 1) := by decide +kernel
theorem dX7_hasBit_15 : decode cX7_hasBit 15 = .ok (.ifCond .eq 7, 3) := by decide +kernel
theorem dX7_hasBit_18 : decode cX7_hasBit 18 = .ok (.iconst 1, 1) := by decide +kernel
theorem dX7_hasBit_19 : decode cX7_hasBit 19 = .ok (.goto 4, 3) := by decide +kernel
theorem dX7_hasBit_22 : decode cX7_hasBit 22 = .ok (.iconst 0, 1) := by decide +kernel
theorem dX7_hasBit_23 : decode cX7_hasBit 23 = .ok (.ireturn, 1) := by decide +kernel
theorem dX8_init_0 : decode cX8_init 0 = .ok (.aload_n 0, 1) := by decide +kernel
theorem dX8_init_1 : decode cX8_init 1 = .ok (.invokespecial 3, 3) := by decide +kernel
theorem dX8_init_4 : decode cX8_init 4 = .ok (.aload_n 0, 1) := by decide +kernel
theorem dX8_init_5 : decode cX8_init 5 = .ok (.sipush 900, 3) := by decide +kernel
theorem dX8_init_8 : decode cX8_init 8 = .ok (.newarray .int, 2) := by decide +kernel
theorem dX8_init_10 : decode cX8_init 10 = .ok (.putfield 9, 3) := by decide +kernel
theorem dX8_init_13 : decode cX8_init 13 = .ok (.aload_n 0, 1) := by decide +kernel
theorem dX8_init_14 : decode cX8_init 14 = .ok (.iconst (-1), 1) := by decide +kernel
theorem dX8_init_15 : decode cX8_init 15 = .ok (.putfield 13, 3) := by decide +kernel
theorem dX8_init_18 : decode cX8_init 18 = .ok (.aload_n 0, 1) := by decide +kernel
theorem dX8_init_19 : decode cX8_init 19 = .ok (.sipush 1824, 3) := by decide +kernel
theorem dX8_init_22 : decode cX8_init 22 = .ok (.newarray .int, 2) := by decide +kernel
theorem dX8_init_24 : decode cX8_init 24 = .ok (.putfield 17, 3) := by decide +kernel
theorem dX8_init_27 : decode cX8_init 27 = .ok (.aload_n 0, 1) := by decide +kernel
theorem dX8_init_28 : decode cX8_init 28 = .ok (.sipush 1824, 3) := by decide +kernel
theorem dX8_init_31 : decode cX8_init 31 = .ok (.newarray .int, 2) := by decide +kernel
theorem dX8_init_33 : decode cX8_init 33 = .ok (.putfield 20, 3) := by decide +kernel
theorem dX8_init_36 : decode cX8_init 36 = .ok (.aload_n 0, 1) := by decide +kernel
theorem dX8_init_37 : decode cX8_init 37 = .ok (.sipush 1824, 3) := by decide +kernel
theorem dX8_init_40 : decode cX8_init 40 = .ok (.newarray .int, 2) := by decide +kernel
theorem dX8_init_42 : decode cX8_init 42 = .ok (.putfield 23, 3) := by decide +kernel
theorem dX8_init_45 : decode cX8_init 45 = .ok (.aload_n 0, 1) := by decide +kernel
theorem dX8_init_46 : decode cX8_init 46 = .ok (.bipush 8, 2) := by decide +kernel
theorem dX8_init_48 : decode cX8_init 48 = .ok (.sipush 1824, 3) := by decide +kernel
theorem dX8_init_51 : decode cX8_init 51 = .ok (.multianewarray 26 2, 4) := by decide +kernel
theorem dX8_init_55 : decode cX8_init 55 = .ok (.putfield 28, 3) := by decide +kernel
theorem dX8_init_58 : decode cX8_init 58 = .ok (.aload_n 0, 1) := by decide +kernel
theorem dX8_init_59 : decode cX8_init 59 = .ok (.sipush 1500, 3) := by decide +kernel
theorem dX8_init_62 : decode cX8_init 62 = .ok (.newarray .long, 2) := by decide +kernel
theorem dX8_init_64 : decode cX8_init 64 = .ok (.putfield 31, 3) := by decide +kernel
theorem dX8_init_67 : decode cX8_init 67 = .ok (.aload_n 0, 1) := by decide +kernel
theorem dX8_init_68 : decode cX8_init 68 = .ok (.bipush 32, 2) := by decide +kernel
theorem dX8_init_70 : decode cX8_init 70 = .ok (.newarray .int, 2) := by decide +kernel
theorem dX8_init_72 : decode cX8_init 72 = .ok (.putfield 35, 3) := by decide +kernel
theorem dX8_init_75 : decode cX8_init 75 = .ok (.return_, 1) := by decide +kernel
theorem dX8_thrown_0 : decode cX8_thrown 0 = .ok (.aload_n 0, 1) := by decide +kernel
theorem dX8_thrown_1 : decode cX8_thrown 1 = .ok (.getfield 38, 3) := by decide +kernel
theorem dX8_thrown_4 : decode cX8_thrown 4 = .ok (.ireturn, 1) := by decide +kernel
theorem dX8_fails_0 : decode cX8_fails 0 = .ok (.iload_n 1, 1) := by decide +kernel
theorem dX8_fails_1 : decode cX8_fails 1 = .ok (.ifCond .eq 15, 3) := by decide +kernel
theorem dX8_fails_4 : decode cX8_fails 4 = .ok (.aload_n 0, 1) := by decide +kernel
theorem dX8_fails_5 : decode cX8_fails 5 = .ok (.getfield 38, 3) := by decide +kernel
theorem dX8_fails_8 : decode cX8_fails 8 = .ok (.ifCond .ne 8, 3) := by decide +kernel
theorem dX8_fails_11 : decode cX8_fails 11 = .ok (.aload_n 0, 1) := by decide +kernel
theorem dX8_fails_12 : decode cX8_fails 12 = .ok (.iload_n 2, 1) := by decide +kernel
theorem dX8_fails_13 : decode cX8_fails 13 = .ok (.putfield 38, 3) := by decide +kernel
theorem dX8_fails_16 : decode cX8_fails 16 = .ok (.aload_n 0, 1) := by decide +kernel
theorem dX8_fails_17 : decode cX8_fails 17 = .ok (.getfield 38, 3) := by decide +kernel
theorem dX8_fails_20 : decode cX8_fails 20 = .ok (.ifCond .eq 7, 3) := by decide +kernel
theorem dX8_fails_23 : decode cX8_fails 23 = .ok (.iconst 1, 1) := by decide +kernel
theorem dX8_fails_24 : decode cX8_fails 24 = .ok (.goto 4, 3) := by decide +kernel
theorem dX8_fails_27 : decode cX8_fails 27 = .ok (.iconst 0, 1) := by decide +kernel
theorem dX8_fails_28 : decode cX8_fails 28 = .ok (.ireturn, 1) := by decide +kernel
theorem dX8_in_0 : decode cX8_in 0 = .ok (.iload_n 0, 1) := by decide +kernel
theorem dX8_in_1 : decode cX8_in 1 = .ok (.iload_n 1, 1) := by decide +kernel
theorem dX8_in_2 : decode cX8_in 2 = .ok (.if_icmp .lt 12, 3) := by decide +kernel
theorem dX8_in_5 : decode cX8_in 5 = .ok (.iload_n 0, 1) := by decide +kernel
theorem dX8_in_6 : decode cX8_in 6 = .ok (.iload_n 2, 1) := by decide +kernel
theorem dX8_in_7 : decode cX8_in 7 = .ok (.if_icmp .gt 7, 3) := by decide +kernel
theorem dX8_in_10 : decode cX8_in 10 = .ok (.iconst 1, 1) := by decide +kernel
theorem dX8_in_11 : decode cX8_in 11 = .ok (.goto 4, 3) := by decide +kernel
theorem dX8_in_14 : decode cX8_in 14 = .ok (.iconst 0, 1) := by decide +kernel
theorem dX8_in_15 : decode cX8_in 15 = .ok (.ireturn, 1) := by decide +kernel
theorem dX8_min_0 : decode cX8_min 0 = .ok (.iload_n 0, 1) := by decide +kernel
theorem dX8_min_1 : decode cX8_min 1 = .ok (.iload_n 1, 1) := by decide +kernel
theorem dX8_min_2 : decode cX8_min 2 = .ok (.if_icmp .ge 7, 3) := by decide +kernel
theorem dX8_min_5 : decode cX8_min 5 = .ok (.iload_n 0, 1) := by decide +kernel
theorem dX8_min_6 : decode cX8_min 6 = .ok (.goto 4, 3) := by decide +kernel
theorem dX8_min_9 : decode cX8_min 9 = .ok (.iload_n 1, 1) := by decide +kernel
theorem dX8_min_10 : decode cX8_min 10 = .ok (.ireturn, 1) := by decide +kernel
theorem dX8_max_0 : decode cX8_max 0 = .ok (.iload_n 0, 1) := by decide +kernel
theorem dX8_max_1 : decode cX8_max 1 = .ok (.iload_n 1, 1) := by decide +kernel
theorem dX8_max_2 : decode cX8_max 2 = .ok (.if_icmp .le 7, 3) := by decide +kernel
theorem dX8_max_5 : decode cX8_max 5 = .ok (.iload_n 0, 1) := by decide +kernel
theorem dX8_max_6 : decode cX8_max 6 = .ok (.goto 4, 3) := by decide +kernel
theorem dX8_max_9 : decode cX8_max 9 = .ok (.iload_n 1, 1) := by decide +kernel
theorem dX8_max_10 : decode cX8_max 10 = .ok (.ireturn, 1) := by decide +kernel
theorem dX8_copy_0 : decode cX8_copy 0 = .ok (.iconst 0, 1) := by decide +kernel
theorem dX8_copy_1 : decode cX8_copy 1 = .ok (.istore_n 2, 1) := by decide +kernel
theorem dX8_copy_2 : decode cX8_copy 2 = .ok (.iload_n 2, 1) := by decide +kernel
theorem dX8_copy_3 : decode cX8_copy 3 = .ok (.sipush 1824, 3) := by decide +kernel
theorem dX8_copy_6 : decode cX8_copy 6 = .ok (.if_icmp .ge 15, 3) := by decide +kernel
theorem dX8_copy_9 : decode cX8_copy 9 = .ok (.aload_n 1, 1) := by decide +kernel
theorem dX8_copy_10 : decode cX8_copy 10 = .ok (.iload_n 2, 1) := by decide +kernel
theorem dX8_copy_11 : decode cX8_copy 11 = .ok (.aload_n 0, 1) := by decide +kernel
theorem dX8_copy_12 : decode cX8_copy 12 = .ok (.iload_n 2, 1) := by decide +kernel
theorem dX8_copy_13 : decode cX8_copy 13 = .ok (.iaload, 1) := by decide +kernel
theorem dX8_copy_14 : decode cX8_copy 14 = .ok (.iastore, 1) := by decide +kernel
theorem dX8_copy_15 : decode cX8_copy 15 = .ok (.iinc 2 1, 3) := by decide +kernel
theorem dX8_copy_18 : decode cX8_copy 18 = .ok (.goto (-16), 3) := by decide +kernel
theorem dX8_copy_21 : decode cX8_copy 21 = .ok (.return_, 1) := by decide +kernel
theorem dX8_task_0 : decode cX8_task 0 = .ok (.bipush 16, 2) := by decide +kernel
theorem dX8_task_2 : decode cX8_task 2 = .ok (.bipush 8, 2) := by decide +kernel
theorem dX8_task_4 : decode cX8_task 4 = .ok (.iload_n 0, 1) := by decide +kernel
theorem dX8_task_5 : decode cX8_task 5 = .ok (.imul, 1) := by decide +kernel
theorem dX8_task_6 : decode cX8_task 6 = .ok (.iadd, 1) := by decide +kernel
theorem dX8_task_7 : decode cX8_task 7 = .ok (.ireturn, 1) := by decide +kernel
theorem dX8_core_0 : decode cX8_core 0 = .ok (.sipush 272, 3) := by decide +kernel
theorem dX8_core_3 : decode cX8_core 3 = .ok (.bipush 13, 2) := by decide +kernel
theorem dX8_core_5 : decode cX8_core 5 = .ok (.iload_n 0, 1) := by decide +kernel
theorem dX8_core_6 : decode cX8_core 6 = .ok (.imul, 1) := by decide +kernel
theorem dX8_core_7 : decode cX8_core 7 = .ok (.iadd, 1) := by decide +kernel
theorem dX8_core_8 : decode cX8_core 8 = .ok (.ireturn, 1) := by decide +kernel
theorem dX8_clearCores_0 : decode cX8_clearCores 0 = .ok (.sipush 272, 3) := by decide +kernel
theorem dX8_clearCores_3 : decode cX8_clearCores 3 = .ok (.istore_n 1, 1) := by decide +kernel
theorem dX8_clearCores_4 : decode cX8_clearCores 4 = .ok (.iload_n 1, 1) := by decide +kernel
theorem dX8_clearCores_5 : decode cX8_clearCores 5 = .ok (.sipush 324, 3) := by decide +kernel
theorem dX8_clearCores_8 : decode cX8_clearCores 8 = .ok (.if_icmp .ge 13, 3) := by decide +kernel
theorem dX8_clearCores_11 : decode cX8_clearCores 11 = .ok (.aload_n 0, 1) := by decide +kernel
theorem dX8_clearCores_12 : decode cX8_clearCores 12 = .ok (.iload_n 1, 1) := by decide +kernel
theorem dX8_clearCores_13 : decode cX8_clearCores 13 = .ok (.iconst 0, 1) := by decide +kernel
theorem dX8_clearCores_14 : decode cX8_clearCores 14 = .ok (.iastore, 1) := by decide +kernel
theorem dX8_clearCores_15 : decode cX8_clearCores 15 = .ok (.iinc 1 1, 3) := by decide +kernel
theorem dX8_clearCores_18 : decode cX8_clearCores 18 = .ok (.goto (-14), 3) := by decide +kernel
theorem dX8_clearCores_21 : decode cX8_clearCores 21 = .ok (.iconst 0, 1) := by decide +kernel
theorem dX8_clearCores_22 : decode cX8_clearCores 22 = .ok (.istore_n 1, 1) := by decide +kernel
theorem dX8_clearCores_23 : decode cX8_clearCores 23 = .ok (.iload_n 1, 1) := by decide +kernel
theorem dX8_clearCores_24 : decode cX8_clearCores 24 = .ok (.iconst 4, 1) := by decide +kernel
theorem dX8_clearCores_25 : decode cX8_clearCores 25 = .ok (.if_icmp .ge 18, 3) := by decide +kernel
theorem dX8_clearCores_28 : decode cX8_clearCores 28 = .ok (.aload_n 0, 1) := by decide +kernel
theorem dX8_clearCores_29 : decode cX8_clearCores 29 = .ok (.iload_n 1, 1) := by decide +kernel
theorem dX8_clearCores_30 : decode cX8_clearCores 30 = .ok (.invokestatic 41, 3) := by decide +kernel
theorem dX8_clearCores_33 : decode cX8_clearCores 33 = .ok (.iconst 0, 1) := by decide +kernel
theorem dX8_clearCores_34 : decode cX8_clearCores 34 = .ok (.iadd, 1) := by decide +kernel
theorem dX8_clearCores_35 : decode cX8_clearCores 35 = .ok (.iconst (-1), 1) := by decide +kernel
theorem dX8_clearCores_36 : decode cX8_clearCores 36 = .ok (.iastore, 1) := by decide +kernel
theorem dX8_clearCores_37 : decode cX8_clearCores 37 = .ok (.iinc 1 1, 3) := by decide +kernel
theorem dX8_clearCores_40 : decode cX8_clearCores 40 = .ok (.goto (-17), 3) := by decide +kernel
theorem dX8_clearCores_43 : decode cX8_clearCores 43 = .ok (.return_, 1) := by decide +kernel
theorem dX8_append_0 : decode cX8_append 0 = .ok (.aload_n 0, 1) := by decide +kernel
theorem dX8_append_1 : decode cX8_append 1 = .ok (.iconst 0, 1) := by decide +kernel
theorem dX8_append_2 : decode cX8_append 2 = .ok (.putfield 38, 3) := by decide +kernel
theorem dX8_append_5 : decode cX8_append 5 = .ok (.aload_n 0, 1) := by decide +kernel
theorem dX8_append_6 : decode cX8_append 6 = .ok (.getfield 45, 3) := by decide +kernel
theorem dX8_append_9 : decode cX8_append 9 = .ok (.bipush 20, 2) := by decide +kernel
theorem dX8_append_11 : decode cX8_append 11 = .ok (.iadd, 1) := by decide +kernel
theorem dX8_append_12 : decode cX8_append 12 = .ok (.sipush 900, 3) := by decide +kernel
theorem dX8_append_15 : decode cX8_append 15 = .ok (.if_icmp .le 5, 3) := by decide +kernel
theorem dX8_append_18 : decode cX8_append 18 = .ok (.iconst (-1), 1) := by decide +kernel
theorem dX8_append_19 : decode cX8_append 19 = .ok (.ireturn, 1) := by decide +kernel
theorem dX8_append_20 : decode cX8_append 20 = .ok (.iconst 0, 1) := by decide +kernel
theorem dX8_append_21 : decode cX8_append 21 = .ok (.istore 6, 2) := by decide +kernel
theorem dX8_append_23 : decode cX8_append 23 = .ok (.iload 6, 2) := by decide +kernel
theorem dX8_append_25 : decode cX8_append 25 = .ok (.bipush 20, 2) := by decide +kernel
theorem dX8_append_27 : decode cX8_append 27 = .ok (.if_icmp .ge 93, 3) := by decide +kernel
theorem dX8_append_30 : decode cX8_append 30 = .ok (.iload 6, 2) := by decide +kernel
theorem dX8_append_32 : decode cX8_append 32 = .ok (.iconst 4, 1) := by decide +kernel
theorem dX8_append_33 : decode cX8_append 33 = .ok (.if_icmp .ge 7, 3) := by decide +kernel
theorem dX8_append_36 : decode cX8_append 36 = .ok (.iload_n 1, 1) := by decide +kernel
theorem dX8_append_37 : decode cX8_append 37 = .ok (.goto 39, 3) := by decide +kernel
theorem dX8_append_40 : decode cX8_append 40 = .ok (.iload 6, 2) := by decide +kernel
theorem dX8_append_42 : decode cX8_append 42 = .ok (.bipush 8, 2) := by decide +kernel
theorem dX8_append_44 : decode cX8_append 44 = .ok (.if_icmp .ge 7, 3) := by decide +kernel
theorem dX8_append_47 : decode cX8_append 47 = .ok (.iload_n 2, 1) := by decide +kernel
theorem dX8_append_48 : decode cX8_append 48 = .ok (.goto 28, 3) := by decide +kernel
theorem dX8_append_51 : decode cX8_append 51 = .ok (.iload 6, 2) := by decide +kernel
theorem dX8_append_53 : decode cX8_append 53 = .ok (.bipush 12, 2) := by decide +kernel
theorem dX8_append_55 : decode cX8_append 55 = .ok (.if_icmp .ge 7, 3) := by decide +kernel
theorem dX8_append_58 : decode cX8_append 58 = .ok (.iload_n 3, 1) := by decide +kernel
theorem dX8_append_59 : decode cX8_append 59 = .ok (.goto 17, 3) := by decide +kernel
theorem dX8_append_62 : decode cX8_append 62 = .ok (.iload 6, 2) := by decide +kernel
theorem dX8_append_64 : decode cX8_append 64 = .ok (.bipush 16, 2) := by decide +kernel
theorem dX8_append_66 : decode cX8_append 66 = .ok (.if_icmp .ge 8, 3) := by decide +kernel
theorem dX8_append_69 : decode cX8_append 69 = .ok (.iload 4, 2) := by decide +kernel
theorem dX8_append_71 : decode cX8_append 71 = .ok (.goto 5, 3) := by decide +kernel
theorem dX8_append_74 : decode cX8_append 74 = .ok (.iload 5, 2) := by decide +kernel
theorem dX8_append_76 : decode cX8_append 76 = .ok (.istore 7, 2) := by decide +kernel
theorem dX8_append_78 : decode cX8_append 78 = .ok (.aload_n 0, 1) := by decide +kernel
theorem dX8_append_79 : decode cX8_append 79 = .ok (.getfield 9, 3) := by decide +kernel
theorem dX8_append_82 : decode cX8_append 82 = .ok (.aload_n 0, 1) := by decide +kernel
theorem dX8_append_83 : decode cX8_append 83 = .ok (.getfield 45, 3) := by decide +kernel
theorem dX8_append_86 : decode cX8_append 86 = .ok (.iload 7, 2) := by decide +kernel
theorem dX8_append_88 : decode cX8_append 88 = .ok (.bipush 24, 2) := by decide +kernel
theorem dX8_append_90 : decode cX8_append 90 = .ok (.bipush 8, 2) := by decide +kernel
theorem dX8_append_92 : decode cX8_append 92 = .ok (.iload 6, 2) := by decide +kernel
theorem dX8_append_94 : decode cX8_append 94 = .ok (.iconst 4, 1) := by decide +kernel
theorem dX8_append_95 : decode cX8_append 95 = .ok (.irem, 1) := by decide +kernel
theorem dX8_append_96 : decode cX8_append 96 = .ok (.imul, 1) := by decide +kernel
theorem dX8_append_97 : decode cX8_append 97 = .ok (.isub, 1) := by decide +kernel
theorem dX8_append_98 : decode cX8_append 98 = .ok (.ishr, 1) := by decide +kernel
theorem dX8_append_99 : decode cX8_append 99 = .ok (.sipush 255, 3) := by decide +kernel
theorem dX8_append_102 : decode cX8_append 102 = .ok (.iand, 1) := by decide +kernel
theorem dX8_append_103 : decode cX8_append 103 = .ok (.iastore, 1) := by decide +kernel
theorem dX8_append_104 : decode cX8_append 104 = .ok (.aload_n 0, 1) := by decide +kernel
theorem dX8_append_105 : decode cX8_append 105 = .ok (.dup, 1) := by decide +kernel
theorem dX8_append_106 : decode cX8_append 106 = .ok (.getfield 45, 3) := by decide +kernel
theorem dX8_append_109 : decode cX8_append 109 = .ok (.iconst 1, 1) := by decide +kernel
theorem dX8_append_110 : decode cX8_append 110 = .ok (.iadd, 1) := by decide +kernel
theorem dX8_append_111 : decode cX8_append 111 = .ok (.putfield 45, 3) := by decide +kernel
theorem dX8_append_114 : decode cX8_append 114 = .ok (.iinc 6 1, 3) := by decide +kernel
theorem dX8_append_117 : decode cX8_append 117 = .ok (.goto (-94), 3) := by decide +kernel
theorem dX8_append_120 : decode cX8_append 120 = .ok (.aload_n 0, 1) := by decide +kernel
theorem dX8_append_121 : decode cX8_append 121 = .ok (.getfield 45, 3) := by decide +kernel
theorem dX8_append_124 : decode cX8_append 124 = .ok (.ireturn, 1) := by decide +kernel
theorem dX8_byteAt_0 : decode cX8_byteAt 0 = .ok (.iload_n 1, 1) := by decide +kernel
theorem dX8_byteAt_1 : decode cX8_byteAt 1 = .ok (.aload_n 0, 1) := by decide +kernel
theorem dX8_byteAt_2 : decode cX8_byteAt 2 = .ok (.getfield 48, 3) := by decide +kernel
theorem dX8_byteAt_5 : decode cX8_byteAt 5 = .ok (.if_icmp .ge 12, 3) := by decide +kernel
theorem dX8_byteAt_8 : decode cX8_byteAt 8 = .ok (.aload_n 0, 1) := by decide +kernel
theorem dX8_byteAt_9 : decode cX8_byteAt 9 = .ok (.getfield 9, 3) := by decide +kernel
theorem dX8_byteAt_12 : decode cX8_byteAt 12 = .ok (.iload_n 1, 1) := by decide +kernel
theorem dX8_byteAt_13 : decode cX8_byteAt 13 = .ok (.iaload, 1) := by decide +kernel
theorem dX8_byteAt_14 : decode cX8_byteAt 14 = .ok (.goto 4, 3) := by decide +kernel
theorem dX8_byteAt_17 : decode cX8_byteAt 17 = .ok (.iconst (-1), 1) := by decide +kernel
theorem dX8_byteAt_18 : decode cX8_byteAt 18 = .ok (.ireturn, 1) := by decide +kernel
theorem dX8_next_0 : decode cX8_next 0 = .ok (.aload_n 0, 1) := by decide +kernel
theorem dX8_next_1 : decode cX8_next 1 = .ok (.aload_n 0, 1) := by decide +kernel
theorem dX8_next_2 : decode cX8_next 2 = .ok (.getfield 51, 3) := by decide +kernel
theorem dX8_next_5 : decode cX8_next 5 = .ok (.invokevirtual 54, 3) := by decide +kernel
theorem dX8_next_8 : decode cX8_next 8 = .ok (.bipush 32, 2) := by decide +kernel
theorem dX8_next_10 : decode cX8_next 10 = .ok (.if_icmp .ne 16, 3) := by decide +kernel
theorem dX8_next_13 : decode cX8_next 13 = .ok (.aload_n 0, 1) := by decide +kernel
theorem dX8_next_14 : decode cX8_next 14 = .ok (.dup, 1) := by decide +kernel
theorem dX8_next_15 : decode cX8_next 15 = .ok (.getfield 51, 3) := by decide +kernel
theorem dX8_next_18 : decode cX8_next 18 = .ok (.iconst 1, 1) := by decide +kernel
theorem dX8_next_19 : decode cX8_next 19 = .ok (.iadd, 1) := by decide +kernel
theorem dX8_next_20 : decode cX8_next 20 = .ok (.putfield 51, 3) := by decide +kernel
theorem dX8_next_23 : decode cX8_next 23 = .ok (.goto (-23), 3) := by decide +kernel
theorem dX8_next_26 : decode cX8_next 26 = .ok (.aload_n 0, 1) := by decide +kernel
theorem dX8_next_27 : decode cX8_next 27 = .ok (.aload_n 0, 1) := by decide +kernel
theorem dX8_next_28 : decode cX8_next 28 = .ok (.getfield 51, 3) := by decide +kernel
theorem dX8_next_31 : decode cX8_next 31 = .ok (.invokevirtual 54, 3) := by decide +kernel
theorem dX8_next_34 : decode cX8_next 34 = .ok (.ireturn, 1) := by decide +kernel
theorem dX8_isGood_0 : decode cX8_isGood 0 = .ok (.aload_n 0, 1) := by decide +kernel
theorem dX8_isGood_1 : decode cX8_isGood 1 = .ok (.getfield 57, 3) := by decide +kernel
theorem dX8_isGood_4 : decode cX8_isGood 4 = .ok (.ifCond .ne 7, 3) := by decide +kernel
theorem dX8_isGood_7 : decode cX8_isGood 7 = .ok (.iconst 1, 1) := by decide +kernel
theorem dX8_isGood_8 : decode cX8_isGood 8 = .ok (.goto 4, 3) := by decide +kernel
theorem dX8_isGood_11 : decode cX8_isGood 11 = .ok (.iconst 0, 1) := by decide +kernel
theorem dX8_isGood_12 : decode cX8_isGood 12 = .ok (.ireturn, 1) := by decide +kernel
theorem dX8_report_0 : decode cX8_report 0 = .ok (.aload_n 0, 1) := by decide +kernel
theorem dX8_report_1 : decode cX8_report 1 = .ok (.getfield 57, 3) := by decide +kernel
theorem dX8_report_4 : decode cX8_report 4 = .ok (.ifCond .eq 4, 3) := by decide +kernel
theorem dX8_report_7 : decode cX8_report 7 = .ok (.return_, 1) := by decide +kernel
theorem dX8_report_8 : decode cX8_report 8 = .ok (.aload_n 0, 1) := by decide +kernel
theorem dX8_report_9 : decode cX8_report 9 = .ok (.iload_n 1, 1) := by decide +kernel
theorem dX8_report_10 : decode cX8_report 10 = .ok (.putfield 57, 3) := by decide +kernel
theorem dX8_report_13 : decode cX8_report 13 = .ok (.aload_n 0, 1) := by decide +kernel
theorem dX8_report_14 : decode cX8_report 14 = .ok (.iload_n 2, 1) := by decide +kernel
theorem dX8_report_15 : decode cX8_report 15 = .ok (.putfield 60, 3) := by decide +kernel
theorem dX8_report_18 : decode cX8_report 18 = .ok (.return_, 1) := by decide +kernel
theorem dX8_isDigit_0 : decode cX8_isDigit 0 = .ok (.iload_n 0, 1) := by decide +kernel
theorem dX8_isDigit_1 : decode cX8_isDigit 1 = .ok (.bipush 48, 2) := by decide +kernel
theorem dX8_isDigit_3 : decode cX8_isDigit 3 = .ok (.bipush 57, 2) := by decide +kernel
theorem dX8_isDigit_5 : decode cX8_isDigit 5 = .ok (.invokestatic 63, 3) := by decide +kernel
theorem dX8_isDigit_8 : decode cX8_isDigit 8 = .ok (.ireturn, 1) := by decide +kernel
theorem dX8_takeWord_0 : decode cX8_takeWord 0 = .ok (.aload_n 0, 1) := by decide +kernel
theorem dX8_takeWord_1 : decode cX8_takeWord 1 = .ok (.invokevirtual 67, 3) := by decide +kernel
theorem dX8_takeWord_4 : decode cX8_takeWord 4 = .ok (.ifCond .ne 5, 3) := by decide +kernel
theorem dX8_takeWord_7 : decode cX8_takeWord 7 = .ok (.iconst 0, 1) := by decide +kernel
theorem dX8_takeWord_8 : decode cX8_takeWord 8 = .ok (.ireturn, 1) := by decide +kernel
theorem dX8_takeWord_9 : decode cX8_takeWord 9 = .ok (.aload_n 0, 1) := by decide +kernel
theorem dX8_takeWord_10 : decode cX8_takeWord 10 = .ok (.invokevirtual 71, 3) := by decide +kernel
theorem dX8_takeWord_13 : decode cX8_takeWord 13 = .ok (.pop, 1) := by decide +kernel
theorem dX8_takeWord_14 : decode cX8_takeWord 14 = .ok (.iconst 0, 1) := by decide +kernel
theorem dX8_takeWord_15 : decode cX8_takeWord 15 = .ok (.istore_n 2, 1) := by decide +kernel
theorem dX8_takeWord_16 : decode cX8_takeWord 16 = .ok (.iload_n 2, 1) := by decide +kernel
theorem dX8_takeWord_17 : decode cX8_takeWord 17 = .ok (.aload_n 1, 1) := by decide +kernel
theorem dX8_takeWord_18 : decode cX8_takeWord 18 = .ok (.invokevirtual 75, 3) := by decide +kernel
theorem dX8_takeWord_21 : decode cX8_takeWord 21 = .ok (.if_icmp .ge 27, 3) := by decide +kernel
theorem dX8_takeWord_24 : decode cX8_takeWord 24 = .ok (.aload_n 0, 1) := by decide +kernel
theorem dX8_takeWord_25 : decode cX8_takeWord 25 = .ok (.aload_n 0, 1) := by decide +kernel
theorem dX8_takeWord_26 : decode cX8_takeWord 26 = .ok (.getfield 51, 3) := by decide +kernel
theorem dX8_takeWord_29 : decode cX8_takeWord 29 = .ok (.iload_n 2, 1) := by decide +kernel
theorem dX8_takeWord_30 : decode cX8_takeWord 30 = .ok (.iadd, 1) := by decide +kernel
theorem dX8_takeWord_31 : decode cX8_takeWord 31 = .ok (.invokevirtual 54, 3) := by decide +kernel
theorem dX8_takeWord_34 : decode cX8_takeWord 34 = .ok (.aload_n 1, 1) := by decide +kernel
theorem dX8_takeWord_35 : decode cX8_takeWord 35 = .ok (.iload_n 2, 1) := by decide +kernel
theorem dX8_takeWord_36 : decode cX8_takeWord 36 = .ok (.invokevirtual 80, 3) := by decide +kernel
theorem dX8_takeWord_39 : decode cX8_takeWord 39 = .ok (.if_icmp .ne 9, 3) := by decide +kernel
theorem dX8_takeWord_42 : decode cX8_takeWord 42 = .ok (.iinc 2 1, 3) := by decide +kernel
theorem dX8_takeWord_45 : decode cX8_takeWord 45 = .ok (.goto (-29), 3) := by decide +kernel
theorem dX8_takeWord_48 : decode cX8_takeWord 48 = .ok (.iload_n 2, 1) := by decide +kernel
theorem dX8_takeWord_49 : decode cX8_takeWord 49 = .ok (.aload_n 1, 1) := by decide +kernel
theorem dX8_takeWord_50 : decode cX8_takeWord 50 = .ok (.invokevirtual 75, 3) := by decide +kernel
theorem dX8_takeWord_53 : decode cX8_takeWord 53 = .ok (.if_icmp .lt 23, 3) := by decide +kernel
theorem dX8_takeWord_56 : decode cX8_takeWord 56 = .ok (.aload_n 0, 1) := by decide +kernel
theorem dX8_takeWord_57 : decode cX8_takeWord 57 = .ok (.aload_n 0, 1) := by decide +kernel
theorem dX8_takeWord_58 : decode cX8_takeWord 58 = .ok (.getfield 51, 3) := by decide +kernel
theorem dX8_takeWord_61 : decode cX8_takeWord 61 = .ok (.iload_n 2, 1) := by decide +kernel
theorem dX8_takeWord_62 : decode cX8_takeWord 62 = .ok (.iadd, 1) := by decide +kernel
theorem dX8_takeWord_63 : decode cX8_takeWord 63 = .ok (.invokevirtual 54, 3) := by decide +kernel
theorem dX8_takeWord_66 : decode cX8_takeWord 66 = .ok (.bipush 97, 2) := by decide +kernel
theorem dX8_takeWord_68 : decode cX8_takeWord 68 = .ok (.bipush 122, 2) := by decide +kernel
theorem dX8_takeWord_70 : decode cX8_takeWord 70 = .ok (.invokestatic 63, 3) := by decide +kernel
theorem dX8_takeWord_73 : decode cX8_takeWord 73 = .ok (.ifCond .eq 5, 3) := by decide +kernel
theorem dX8_takeWord_76 : decode cX8_takeWord 76 = .ok (.iconst 0, 1) := by decide +kernel
theorem dX8_takeWord_77 : decode cX8_takeWord 77 = .ok (.ireturn, 1) := by decide +kernel
theorem dX8_takeWord_78 : decode cX8_takeWord 78 = .ok (.aload_n 0, 1) := by decide +kernel
theorem dX8_takeWord_79 : decode cX8_takeWord 79 = .ok (.dup, 1) := by decide +kernel
theorem dX8_takeWord_80 : decode cX8_takeWord 80 = .ok (.getfield 51, 3) := by decide +kernel
theorem dX8_takeWord_83 : decode cX8_takeWord 83 = .ok (.iload_n 2, 1) := by decide +kernel
theorem dX8_takeWord_84 : decode cX8_takeWord 84 = .ok (.iadd, 1) := by decide +kernel
theorem dX8_takeWord_85 : decode cX8_takeWord 85 = .ok (.putfield 51, 3) := by decide +kernel
theorem dX8_takeWord_88 : decode cX8_takeWord 88 = .ok (.iconst 1, 1) := by decide +kernel
theorem dX8_takeWord_89 : decode cX8_takeWord 89 = .ok (.ireturn, 1) := by decide +kernel
theorem dX8_expect_0 : decode cX8_expect 0 = .ok (.aload_n 0, 1) := by decide +kernel
theorem dX8_expect_1 : decode cX8_expect 1 = .ok (.invokevirtual 67, 3) := by decide +kernel
theorem dX8_expect_4 : decode cX8_expect 4 = .ok (.ifCond .ne 4, 3) := by decide +kernel
theorem dX8_expect_7 : decode cX8_expect 7 = .ok (.return_, 1) := by decide +kernel
theorem dX8_expect_8 : decode cX8_expect 8 = .ok (.aload_n 0, 1) := by decide +kernel
theorem dX8_expect_9 : decode cX8_expect 9 = .ok (.invokevirtual 71, 3) := by decide +kernel
theorem dX8_expect_12 : decode cX8_expect 12 = .ok (.iload_n 1, 1) := by decide +kernel
theorem dX8_expect_13 : decode cX8_expect 13 = .ok (.if_icmp .ne 16, 3) := by decide +kernel
theorem dX8_expect_16 : decode cX8_expect 16 = .ok (.aload_n 0, 1) := by decide +kernel
theorem dX8_expect_17 : decode cX8_expect 17 = .ok (.dup, 1) := by decide +kernel
theorem dX8_expect_18 : decode cX8_expect 18 = .ok (.getfield 51, 3) := by decide +kernel
theorem dX8_expect_21 : decode cX8_expect 21 = .ok (.iconst 1, 1) := by decide +kernel
theorem dX8_expect_22 : decode cX8_expect 22 = .ok (.iadd, 1) := by decide +kernel
theorem dX8_expect_23 : decode cX8_expect 23 = .ok (.putfield 51, 3) := by decide +kernel
theorem dX8_expect_26 : decode cX8_expect 26 = .ok (.goto 13, 3) := by decide +kernel
theorem dX8_expect_29 : decode cX8_expect 29 = .ok (.aload_n 0, 1) := by decide +kernel
theorem dX8_expect_30 : decode cX8_expect 30 = .ok (.bipush (-2), 2) := by decide +kernel
theorem dX8_expect_32 : decode cX8_expect 32 = .ok (.aload_n 0, 1) := by decide +kernel
theorem dX8_expect_33 : decode cX8_expect 33 = .ok (.getfield 51, 3) := by decide +kernel
theorem dX8_expect_36 : decode cX8_expect 36 = .ok (.invokevirtual 84, 3) := by decide +kernel
theorem dX8_expect_39 : decode cX8_expect 39 = .ok (.return_, 1) := by decide +kernel
theorem dX8_number_0 : decode cX8_number 0 = .ok (.aload_n 0, 1) := by decide +kernel
theorem dX8_number_1 : decode cX8_number 1 = .ok (.invokevirtual 67, 3) := by decide +kernel
theorem dX8_number_4 : decode cX8_number 4 = .ok (.ifCond .ne 5, 3) := by decide +kernel
theorem dX8_number_7 : decode cX8_number 7 = .ok (.iconst 0, 1) := by decide +kernel
theorem dX8_number_8 : decode cX8_number 8 = .ok (.ireturn, 1) := by decide +kernel
theorem dX8_number_9 : decode cX8_number 9 = .ok (.aload_n 0, 1) := by decide +kernel
theorem dX8_number_10 : decode cX8_number 10 = .ok (.invokevirtual 71, 3) := by decide +kernel
theorem dX8_number_13 : decode cX8_number 13 = .ok (.invokestatic 88, 3) := by decide +kernel
theorem dX8_number_16 : decode cX8_number 16 = .ok (.ifCond .ne 15, 3) := by decide +kernel
theorem dX8_number_19 : decode cX8_number 19 = .ok (.aload_n 0, 1) := by decide +kernel
theorem dX8_number_20 : decode cX8_number 20 = .ok (.bipush (-2), 2) := by decide +kernel
theorem dX8_number_22 : decode cX8_number 22 = .ok (.aload_n 0, 1) := by decide +kernel
theorem dX8_number_23 : decode cX8_number 23 = .ok (.getfield 51, 3) := by decide +kernel
theorem dX8_number_26 : decode cX8_number 26 = .ok (.invokevirtual 84, 3) := by decide +kernel
theorem dX8_number_29 : decode cX8_number 29 = .ok (.iconst 0, 1) := by decide +kernel
theorem dX8_number_30 : decode cX8_number 30 = .ok (.ireturn, 1) := by decide +kernel
theorem dX8_number_31 : decode cX8_number 31 = .ok (.aload_n 0, 1) := by decide +kernel
theorem dX8_number_32 : decode cX8_number 32 = .ok (.aload_n 0, 1) := by decide +kernel
theorem dX8_number_33 : decode cX8_number 33 = .ok (.getfield 51, 3) := by decide +kernel
theorem dX8_number_36 : decode cX8_number 36 = .ok (.putfield 92, 3) := by decide +kernel
theorem dX8_number_39 : decode cX8_number 39 = .ok (.iconst 0, 1) := by decide +kernel
theorem dX8_number_40 : decode cX8_number 40 = .ok (.istore_n 3, 1) := by decide +kernel
theorem dX8_number_41 : decode cX8_number 41 = .ok (.aload_n 0, 1) := by decide +kernel
theorem dX8_number_42 : decode cX8_number 42 = .ok (.aload_n 0, 1) := by decide +kernel
theorem dX8_number_43 : decode cX8_number 43 = .ok (.getfield 51, 3) := by decide +kernel
theorem dX8_number_46 : decode cX8_number 46 = .ok (.invokevirtual 54, 3) := by decide +kernel
theorem dX8_number_49 : decode cX8_number 49 = .ok (.invokestatic 88, 3) := by decide +kernel
theorem dX8_number_52 : decode cX8_number 52 = .ok (.ifCond .eq 38, 3) := by decide +kernel
theorem dX8_number_55 : decode cX8_number 55 = .ok (.ldc 95, 2) := by decide +kernel
theorem dX8_number_57 : decode cX8_number 57 = .ok (.bipush 10, 2) := by decide +kernel
theorem dX8_number_59 : decode cX8_number 59 = .ok (.iload_n 3, 1) := by decide +kernel
theorem dX8_number_60 : decode cX8_number 60 = .ok (.imul, 1) := by decide +kernel
theorem dX8_number_61 : decode cX8_number 61 = .ok (.aload_n 0, 1) := by decide +kernel
theorem dX8_number_62 : decode cX8_number 62 = .ok (.aload_n 0, 1) := by decide +kernel
theorem dX8_number_63 : decode cX8_number 63 = .ok (.getfield 51, 3) := by decide +kernel
theorem dX8_number_66 : decode cX8_number 66 = .ok (.invokevirtual 54, 3) := by decide +kernel
theorem dX8_number_69 : decode cX8_number 69 = .ok (.iadd, 1) := by decide +kernel
theorem dX8_number_70 : decode cX8_number 70 = .ok (.bipush 48, 2) := by decide +kernel
theorem dX8_number_72 : decode cX8_number 72 = .ok (.isub, 1) := by decide +kernel
theorem dX8_number_73 : decode cX8_number 73 = .ok (.invokestatic 96, 3) := by decide +kernel
theorem dX8_number_76 : decode cX8_number 76 = .ok (.istore_n 3, 1) := by decide +kernel
theorem dX8_number_77 : decode cX8_number 77 = .ok (.aload_n 0, 1) := by decide +kernel
theorem dX8_number_78 : decode cX8_number 78 = .ok (.dup, 1) := by decide +kernel
theorem dX8_number_79 : decode cX8_number 79 = .ok (.getfield 51, 3) := by decide +kernel
theorem dX8_number_82 : decode cX8_number 82 = .ok (.iconst 1, 1) := by decide +kernel
theorem dX8_number_83 : decode cX8_number 83 = .ok (.iadd, 1) := by decide +kernel
theorem dX8_number_84 : decode cX8_number 84 = .ok (.putfield 51, 3) := by decide +kernel
theorem dX8_number_87 : decode cX8_number 87 = .ok (.goto (-46), 3) := by decide +kernel
theorem dX8_number_90 : decode cX8_number 90 = .ok (.iload_n 3, 1) := by decide +kernel
theorem dX8_number_91 : decode cX8_number 91 = .ok (.iload_n 1, 1) := by decide +kernel
theorem dX8_number_92 : decode cX8_number 92 = .ok (.iload_n 2, 1) := by decide +kernel
theorem dX8_number_93 : decode cX8_number 93 = .ok (.invokestatic 63, 3) := by decide +kernel
theorem dX8_number_96 : decode cX8_number 96 = .ok (.ifCond .ne 13, 3) := by decide +kernel
theorem dX8_number_99 : decode cX8_number 99 = .ok (.aload_n 0, 1) := by decide +kernel
theorem dX8_number_100 : decode cX8_number 100 = .ok (.bipush (-3), 2) := by decide +kernel
theorem dX8_number_102 : decode cX8_number 102 = .ok (.aload_n 0, 1) := by decide +kernel
theorem dX8_number_103 : decode cX8_number 103 = .ok (.getfield 92, 3) := by decide +kernel
theorem dX8_number_106 : decode cX8_number 106 = .ok (.invokevirtual 84, 3) := by decide +kernel
theorem dX8_number_109 : decode cX8_number 109 = .ok (.iload_n 3, 1) := by decide +kernel
theorem dX8_number_110 : decode cX8_number 110 = .ok (.ireturn, 1) := by decide +kernel
theorem dX8_emit_0 : decode cX8_emit 0 = .ok (.aload_n 0, 1) := by decide +kernel
theorem dX8_emit_1 : decode cX8_emit 1 = .ok (.invokevirtual 67, 3) := by decide +kernel
theorem dX8_emit_4 : decode cX8_emit 4 = .ok (.ifCond .ne 4, 3) := by decide +kernel
theorem dX8_emit_7 : decode cX8_emit 7 = .ok (.return_, 1) := by decide +kernel
theorem dX8_emit_8 : decode cX8_emit 8 = .ok (.aload_n 0, 1) := by decide +kernel
theorem dX8_emit_9 : decode cX8_emit 9 = .ok (.getfield 20, 3) := by decide +kernel
theorem dX8_emit_12 : decode cX8_emit 12 = .ok (.sipush 324, 3) := by decide +kernel
theorem dX8_emit_15 : decode cX8_emit 15 = .ok (.aload_n 0, 1) := by decide +kernel
theorem dX8_emit_16 : decode cX8_emit 16 = .ok (.getfield 20, 3) := by decide +kernel
theorem dX8_emit_19 : decode cX8_emit 19 = .ok (.bipush 7, 2) := by decide +kernel
theorem dX8_emit_21 : decode cX8_emit 21 = .ok (.iaload, 1) := by decide +kernel
theorem dX8_emit_22 : decode cX8_emit 22 = .ok (.iadd, 1) := by decide +kernel
theorem dX8_emit_23 : decode cX8_emit 23 = .ok (.iload_n 1, 1) := by decide +kernel
theorem dX8_emit_24 : decode cX8_emit 24 = .ok (.iastore, 1) := by decide +kernel
theorem dX8_emit_25 : decode cX8_emit 25 = .ok (.aload_n 0, 1) := by decide +kernel
theorem dX8_emit_26 : decode cX8_emit 26 = .ok (.getfield 20, 3) := by decide +kernel
theorem dX8_emit_29 : decode cX8_emit 29 = .ok (.bipush 7, 2) := by decide +kernel
theorem dX8_emit_31 : decode cX8_emit 31 = .ok (.dup2, 1) := by decide +kernel
theorem dX8_emit_32 : decode cX8_emit 32 = .ok (.iaload, 1) := by decide +kernel
theorem dX8_emit_33 : decode cX8_emit 33 = .ok (.iconst 1, 1) := by decide +kernel
theorem dX8_emit_34 : decode cX8_emit 34 = .ok (.iadd, 1) := by decide +kernel
theorem dX8_emit_35 : decode cX8_emit 35 = .ok (.iastore, 1) := by decide +kernel
theorem dX8_emit_36 : decode cX8_emit 36 = .ok (.return_, 1) := by decide +kernel
theorem dX8_factor_0 : decode cX8_factor 0 = .ok (.aload_n 0, 1) := by decide +kernel
theorem dX8_factor_1 : decode cX8_factor 1 = .ok (.invokevirtual 67, 3) := by decide +kernel
theorem dX8_factor_4 : decode cX8_factor 4 = .ok (.ifCond .ne 4, 3) := by decide +kernel
theorem dX8_factor_7 : decode cX8_factor 7 = .ok (.return_, 1) := by decide +kernel
theorem dX8_factor_8 : decode cX8_factor 8 = .ok (.aload_n 0, 1) := by decide +kernel
theorem dX8_factor_9 : decode cX8_factor 9 = .ok (.invokevirtual 71, 3) := by decide +kernel
theorem dX8_factor_12 : decode cX8_factor 12 = .ok (.istore_n 1, 1) := by decide +kernel
theorem dX8_factor_13 : decode cX8_factor 13 = .ok (.iload_n 1, 1) := by decide +kernel
theorem dX8_factor_14 : decode cX8_factor 14 = .ok (.bipush 40, 2) := by decide +kernel
theorem dX8_factor_16 : decode cX8_factor 16 = .ok (.if_icmp .ne 62, 3) := by decide +kernel
theorem dX8_factor_19 : decode cX8_factor 19 = .ok (.aload_n 0, 1) := by decide +kernel
theorem dX8_factor_20 : decode cX8_factor 20 = .ok (.getfield 100, 3) := by decide +kernel
theorem dX8_factor_23 : decode cX8_factor 23 = .ok (.iconst 4, 1) := by decide +kernel
theorem dX8_factor_24 : decode cX8_factor 24 = .ok (.if_icmp .ne 13, 3) := by decide +kernel
theorem dX8_factor_27 : decode cX8_factor 27 = .ok (.aload_n 0, 1) := by decide +kernel
theorem dX8_factor_28 : decode cX8_factor 28 = .ok (.bipush (-5), 2) := by decide +kernel
theorem dX8_factor_30 : decode cX8_factor 30 = .ok (.aload_n 0, 1) := by decide +kernel
theorem dX8_factor_31 : decode cX8_factor 31 = .ok (.getfield 51, 3) := by decide +kernel
theorem dX8_factor_34 : decode cX8_factor 34 = .ok (.invokevirtual 84, 3) := by decide +kernel
theorem dX8_factor_37 : decode cX8_factor 37 = .ok (.aload_n 0, 1) := by decide +kernel
theorem dX8_factor_38 : decode cX8_factor 38 = .ok (.dup, 1) := by decide +kernel
theorem dX8_factor_39 : decode cX8_factor 39 = .ok (.getfield 51, 3) := by decide +kernel
theorem dX8_factor_42 : decode cX8_factor 42 = .ok (.iconst 1, 1) := by decide +kernel
theorem dX8_factor_43 : decode cX8_factor 43 = .ok (.iadd, 1) := by decide +kernel
theorem dX8_factor_44 : decode cX8_factor 44 = .ok (.putfield 51, 3) := by decide +kernel
theorem dX8_factor_47 : decode cX8_factor 47 = .ok (.aload_n 0, 1) := by decide +kernel
theorem dX8_factor_48 : decode cX8_factor 48 = .ok (.dup, 1) := by decide +kernel
theorem dX8_factor_49 : decode cX8_factor 49 = .ok (.getfield 100, 3) := by decide +kernel
theorem dX8_factor_52 : decode cX8_factor 52 = .ok (.iconst 1, 1) := by decide +kernel
theorem dX8_factor_53 : decode cX8_factor 53 = .ok (.iadd, 1) := by decide +kernel
theorem dX8_factor_54 : decode cX8_factor 54 = .ok (.putfield 100, 3) := by decide +kernel
theorem dX8_factor_57 : decode cX8_factor 57 = .ok (.aload_n 0, 1) := by decide +kernel
theorem dX8_factor_58 : decode cX8_factor 58 = .ok (.invokevirtual 103, 3) := by decide +kernel
theorem dX8_factor_61 : decode cX8_factor 61 = .ok (.aload_n 0, 1) := by decide +kernel
theorem dX8_factor_62 : decode cX8_factor 62 = .ok (.bipush 41, 2) := by decide +kernel
theorem dX8_factor_64 : decode cX8_factor 64 = .ok (.invokevirtual 106, 3) := by decide +kernel
theorem dX8_factor_67 : decode cX8_factor 67 = .ok (.aload_n 0, 1) := by decide +kernel
theorem dX8_factor_68 : decode cX8_factor 68 = .ok (.dup, 1) := by decide +kernel
theorem dX8_factor_69 : decode cX8_factor 69 = .ok (.getfield 100, 3) := by decide +kernel
theorem dX8_factor_72 : decode cX8_factor 72 = .ok (.iconst 1, 1) := by decide +kernel
theorem dX8_factor_73 : decode cX8_factor 73 = .ok (.isub, 1) := by decide +kernel
theorem dX8_factor_74 : decode cX8_factor 74 = .ok (.putfield 100, 3) := by decide +kernel
theorem dX8_factor_77 : decode cX8_factor 77 = .ok (.return_, 1) := by decide +kernel
theorem dX8_factor_78 : decode cX8_factor 78 = .ok (.iload_n 1, 1) := by decide +kernel
theorem dX8_factor_79 : decode cX8_factor 79 = .ok (.invokestatic 88, 3) := by decide +kernel
theorem dX8_factor_82 : decode cX8_factor 82 = .ok (.ifCond .eq 7, 3) := by decide +kernel
theorem dX8_factor_85 : decode cX8_factor 85 = .ok (.iconst (-1), 1) := by decide +kernel
theorem dX8_factor_86 : decode cX8_factor 86 = .ok (.goto 56, 3) := by decide +kernel
theorem dX8_factor_89 : decode cX8_factor 89 = .ok (.aload_n 0, 1) := by decide +kernel
theorem dX8_factor_90 : decode cX8_factor 90 = .ok (.ldc 110, 2) := by decide +kernel
theorem dX8_factor_92 : decode cX8_factor 92 = .ok (.invokevirtual 112, 3) := by decide +kernel
theorem dX8_factor_95 : decode cX8_factor 95 = .ok (.ifCond .eq 7, 3) := by decide +kernel
theorem dX8_factor_98 : decode cX8_factor 98 = .ok (.iconst 0, 1) := by decide +kernel
theorem dX8_factor_99 : decode cX8_factor 99 = .ok (.goto 43, 3) := by decide +kernel
theorem dX8_factor_102 : decode cX8_factor 102 = .ok (.aload_n 0, 1) := by decide +kernel
theorem dX8_factor_103 : decode cX8_factor 103 = .ok (.ldc 116, 2) := by decide +kernel
theorem dX8_factor_105 : decode cX8_factor 105 = .ok (.invokevirtual 112, 3) := by decide +kernel
theorem dX8_factor_108 : decode cX8_factor 108 = .ok (.ifCond .eq 7, 3) := by decide +kernel
theorem dX8_factor_111 : decode cX8_factor 111 = .ok (.iconst 1, 1) := by decide +kernel
theorem dX8_factor_112 : decode cX8_factor 112 = .ok (.goto 30, 3) := by decide +kernel
theorem dX8_factor_115 : decode cX8_factor 115 = .ok (.aload_n 0, 1) := by decide +kernel
theorem dX8_factor_116 : decode cX8_factor 116 = .ok (.ldc 118, 2) := by decide +kernel
theorem dX8_factor_118 : decode cX8_factor 118 = .ok (.invokevirtual 112, 3) := by decide +kernel
theorem dX8_factor_121 : decode cX8_factor 121 = .ok (.ifCond .eq 7, 3) := by decide +kernel
theorem dX8_factor_124 : decode cX8_factor 124 = .ok (.iconst 2, 1) := by decide +kernel
theorem dX8_factor_125 : decode cX8_factor 125 = .ok (.goto 17, 3) := by decide +kernel
theorem dX8_factor_128 : decode cX8_factor 128 = .ok (.aload_n 0, 1) := by decide +kernel
theorem dX8_factor_129 : decode cX8_factor 129 = .ok (.ldc 119, 2) := by decide +kernel
theorem dX8_factor_131 : decode cX8_factor 131 = .ok (.invokevirtual 112, 3) := by decide +kernel
theorem dX8_factor_134 : decode cX8_factor 134 = .ok (.ifCond .eq 7, 3) := by decide +kernel
theorem dX8_factor_137 : decode cX8_factor 137 = .ok (.iconst 3, 1) := by decide +kernel
theorem dX8_factor_138 : decode cX8_factor 138 = .ok (.goto 4, 3) := by decide +kernel
theorem dX8_factor_141 : decode cX8_factor 141 = .ok (.iconst (-1), 1) := by decide +kernel
theorem dX8_factor_142 : decode cX8_factor 142 = .ok (.istore_n 2, 1) := by decide +kernel
theorem dX8_factor_143 : decode cX8_factor 143 = .ok (.iload_n 2, 1) := by decide +kernel
theorem dX8_factor_144 : decode cX8_factor 144 = .ok (.ifCond .ge 14, 3) := by decide +kernel
theorem dX8_factor_147 : decode cX8_factor 147 = .ok (.aload_n 0, 1) := by decide +kernel
theorem dX8_factor_148 : decode cX8_factor 148 = .ok (.iconst 0, 1) := by decide +kernel
theorem dX8_factor_149 : decode cX8_factor 149 = .ok (.sipush 9999, 3) := by decide +kernel
theorem dX8_factor_152 : decode cX8_factor 152 = .ok (.invokevirtual 121, 3) := by decide +kernel
theorem dX8_factor_155 : decode cX8_factor 155 = .ok (.goto 4, 3) := by decide +kernel
theorem dX8_factor_158 : decode cX8_factor 158 = .ok (.iload_n 2, 1) := by decide +kernel
theorem dX8_factor_159 : decode cX8_factor 159 = .ok (.istore_n 3, 1) := by decide +kernel
theorem dX8_factor_160 : decode cX8_factor 160 = .ok (.aload_n 0, 1) := by decide +kernel
theorem dX8_factor_161 : decode cX8_factor 161 = .ok (.iload_n 2, 1) := by decide +kernel
theorem dX8_factor_162 : decode cX8_factor 162 = .ok (.ifCond .ge 7, 3) := by decide +kernel
theorem dX8_factor_165 : decode cX8_factor 165 = .ok (.iconst 0, 1) := by decide +kernel
theorem dX8_factor_166 : decode cX8_factor 166 = .ok (.goto 4, 3) := by decide +kernel
theorem dX8_factor_169 : decode cX8_factor 169 = .ok (.iconst 1, 1) := by decide +kernel
theorem dX8_factor_170 : decode cX8_factor 170 = .ok (.invokevirtual 124, 3) := by decide +kernel
theorem dX8_factor_173 : decode cX8_factor 173 = .ok (.aload_n 0, 1) := by decide +kernel
theorem dX8_factor_174 : decode cX8_factor 174 = .ok (.iload_n 3, 1) := by decide +kernel
theorem dX8_factor_175 : decode cX8_factor 175 = .ok (.invokevirtual 124, 3) := by decide +kernel
theorem dX8_factor_178 : decode cX8_factor 178 = .ok (.return_, 1) := by decide +kernel
theorem dX8_term_0 : decode cX8_term 0 = .ok (.aload_n 0, 1) := by decide +kernel
theorem dX8_term_1 : decode cX8_term 1 = .ok (.invokevirtual 127, 3) := by decide +kernel
theorem dX8_term_4 : decode cX8_term 4 = .ok (.aload_n 0, 1) := by decide +kernel
theorem dX8_term_5 : decode cX8_term 5 = .ok (.invokevirtual 67, 3) := by decide +kernel
theorem dX8_term_8 : decode cX8_term 8 = .ok (.ifCond .eq 66, 3) := by decide +kernel
theorem dX8_term_11 : decode cX8_term 11 = .ok (.aload_n 0, 1) := by decide +kernel
theorem dX8_term_12 : decode cX8_term 12 = .ok (.invokevirtual 71, 3) := by decide +kernel
theorem dX8_term_15 : decode cX8_term 15 = .ok (.bipush 42, 2) := by decide +kernel
theorem dX8_term_17 : decode cX8_term 17 = .ok (.if_icmp .eq 12, 3) := by decide +kernel
theorem dX8_term_20 : decode cX8_term 20 = .ok (.aload_n 0, 1) := by decide +kernel
theorem dX8_term_21 : decode cX8_term 21 = .ok (.invokevirtual 71, 3) := by decide +kernel
theorem dX8_term_24 : decode cX8_term 24 = .ok (.bipush 47, 2) := by decide +kernel
theorem dX8_term_26 : decode cX8_term 26 = .ok (.if_icmp .ne 48, 3) := by decide +kernel
theorem dX8_term_29 : decode cX8_term 29 = .ok (.aload_n 0, 1) := by decide +kernel
theorem dX8_term_30 : decode cX8_term 30 = .ok (.invokevirtual 71, 3) := by decide +kernel
theorem dX8_term_33 : decode cX8_term 33 = .ok (.bipush 42, 2) := by decide +kernel
theorem dX8_term_35 : decode cX8_term 35 = .ok (.if_icmp .ne 7, 3) := by decide +kernel
theorem dX8_term_38 : decode cX8_term 38 = .ok (.iconst 1, 1) := by decide +kernel
theorem dX8_term_39 : decode cX8_term 39 = .ok (.goto 4, 3) := by decide +kernel
theorem dX8_term_42 : decode cX8_term 42 = .ok (.iconst 0, 1) := by decide +kernel
theorem dX8_term_43 : decode cX8_term 43 = .ok (.istore_n 1, 1) := by decide +kernel
theorem dX8_term_44 : decode cX8_term 44 = .ok (.aload_n 0, 1) := by decide +kernel
theorem dX8_term_45 : decode cX8_term 45 = .ok (.dup, 1) := by decide +kernel
theorem dX8_term_46 : decode cX8_term 46 = .ok (.getfield 51, 3) := by decide +kernel
theorem dX8_term_49 : decode cX8_term 49 = .ok (.iconst 1, 1) := by decide +kernel
theorem dX8_term_50 : decode cX8_term 50 = .ok (.iadd, 1) := by decide +kernel
theorem dX8_term_51 : decode cX8_term 51 = .ok (.putfield 51, 3) := by decide +kernel
theorem dX8_term_54 : decode cX8_term 54 = .ok (.aload_n 0, 1) := by decide +kernel
theorem dX8_term_55 : decode cX8_term 55 = .ok (.invokevirtual 127, 3) := by decide +kernel
theorem dX8_term_58 : decode cX8_term 58 = .ok (.aload_n 0, 1) := by decide +kernel
theorem dX8_term_59 : decode cX8_term 59 = .ok (.iload_n 1, 1) := by decide +kernel
theorem dX8_term_60 : decode cX8_term 60 = .ok (.ifCond .eq 7, 3) := by decide +kernel
theorem dX8_term_63 : decode cX8_term 63 = .ok (.iconst 4, 1) := by decide +kernel
theorem dX8_term_64 : decode cX8_term 64 = .ok (.goto 4, 3) := by decide +kernel
theorem dX8_term_67 : decode cX8_term 67 = .ok (.iconst 5, 1) := by decide +kernel
theorem dX8_term_68 : decode cX8_term 68 = .ok (.invokevirtual 124, 3) := by decide +kernel
theorem dX8_term_71 : decode cX8_term 71 = .ok (.goto (-67), 3) := by decide +kernel
theorem dX8_term_74 : decode cX8_term 74 = .ok (.return_, 1) := by decide +kernel
theorem dX8_sum_0 : decode cX8_sum 0 = .ok (.aload_n 0, 1) := by decide +kernel
theorem dX8_sum_1 : decode cX8_sum 1 = .ok (.invokevirtual 130, 3) := by decide +kernel
theorem dX8_sum_4 : decode cX8_sum 4 = .ok (.aload_n 0, 1) := by decide +kernel
theorem dX8_sum_5 : decode cX8_sum 5 = .ok (.invokevirtual 67, 3) := by decide +kernel
theorem dX8_sum_8 : decode cX8_sum 8 = .ok (.ifCond .eq 66, 3) := by decide +kernel
theorem dX8_sum_11 : decode cX8_sum 11 = .ok (.aload_n 0, 1) := by decide +kernel
theorem dX8_sum_12 : decode cX8_sum 12 = .ok (.invokevirtual 71, 3) := by decide +kernel
theorem dX8_sum_15 : decode cX8_sum 15 = .ok (.bipush 43, 2) := by decide +kernel
theorem dX8_sum_17 : decode cX8_sum 17 = .ok (.if_icmp .eq 12, 3) := by decide +kernel
theorem dX8_sum_20 : decode cX8_sum 20 = .ok (.aload_n 0, 1) := by decide +kernel
theorem dX8_sum_21 : decode cX8_sum 21 = .ok (.invokevirtual 71, 3) := by decide +kernel
theorem dX8_sum_24 : decode cX8_sum 24 = .ok (.bipush 45, 2) := by decide +kernel
theorem dX8_sum_26 : decode cX8_sum 26 = .ok (.if_icmp .ne 48, 3) := by decide +kernel
theorem dX8_sum_29 : decode cX8_sum 29 = .ok (.aload_n 0, 1) := by decide +kernel
theorem dX8_sum_30 : decode cX8_sum 30 = .ok (.invokevirtual 71, 3) := by decide +kernel
theorem dX8_sum_33 : decode cX8_sum 33 = .ok (.bipush 43, 2) := by decide +kernel
theorem dX8_sum_35 : decode cX8_sum 35 = .ok (.if_icmp .ne 7, 3) := by decide +kernel
theorem dX8_sum_38 : decode cX8_sum 38 = .ok (.iconst 1, 1) := by decide +kernel
theorem dX8_sum_39 : decode cX8_sum 39 = .ok (.goto 4, 3) := by decide +kernel
theorem dX8_sum_42 : decode cX8_sum 42 = .ok (.iconst 0, 1) := by decide +kernel
theorem dX8_sum_43 : decode cX8_sum 43 = .ok (.istore_n 1, 1) := by decide +kernel
theorem dX8_sum_44 : decode cX8_sum 44 = .ok (.aload_n 0, 1) := by decide +kernel
theorem dX8_sum_45 : decode cX8_sum 45 = .ok (.dup, 1) := by decide +kernel
theorem dX8_sum_46 : decode cX8_sum 46 = .ok (.getfield 51, 3) := by decide +kernel
theorem dX8_sum_49 : decode cX8_sum 49 = .ok (.iconst 1, 1) := by decide +kernel
theorem dX8_sum_50 : decode cX8_sum 50 = .ok (.iadd, 1) := by decide +kernel
theorem dX8_sum_51 : decode cX8_sum 51 = .ok (.putfield 51, 3) := by decide +kernel
theorem dX8_sum_54 : decode cX8_sum 54 = .ok (.aload_n 0, 1) := by decide +kernel
theorem dX8_sum_55 : decode cX8_sum 55 = .ok (.invokevirtual 130, 3) := by decide +kernel
theorem dX8_sum_58 : decode cX8_sum 58 = .ok (.aload_n 0, 1) := by decide +kernel
theorem dX8_sum_59 : decode cX8_sum 59 = .ok (.iload_n 1, 1) := by decide +kernel
theorem dX8_sum_60 : decode cX8_sum 60 = .ok (.ifCond .eq 7, 3) := by decide +kernel
theorem dX8_sum_63 : decode cX8_sum 63 = .ok (.iconst 2, 1) := by decide +kernel
theorem dX8_sum_64 : decode cX8_sum 64 = .ok (.goto 4, 3) := by decide +kernel
theorem dX8_sum_67 : decode cX8_sum 67 = .ok (.iconst 3, 1) := by decide +kernel
theorem dX8_sum_68 : decode cX8_sum 68 = .ok (.invokevirtual 124, 3) := by decide +kernel
theorem dX8_sum_71 : decode cX8_sum 71 = .ok (.goto (-67), 3) := by decide +kernel
theorem dX8_sum_74 : decode cX8_sum 74 = .ok (.return_, 1) := by decide +kernel
theorem dX8_once_0 : decode cX8_once 0 = .ok (.aload_n 0, 1) := by decide +kernel
theorem dX8_once_1 : decode cX8_once 1 = .ok (.getfield 133, 3) := by decide +kernel
theorem dX8_once_4 : decode cX8_once 4 = .ok (.iload_n 1, 1) := by decide +kernel
theorem dX8_once_5 : decode cX8_once 5 = .ok (.ishr, 1) := by decide +kernel
theorem dX8_once_6 : decode cX8_once 6 = .ok (.iconst 1, 1) := by decide +kernel
theorem dX8_once_7 : decode cX8_once 7 = .ok (.iand, 1) := by decide +kernel
theorem dX8_once_8 : decode cX8_once 8 = .ok (.iconst 1, 1) := by decide +kernel
theorem dX8_once_9 : decode cX8_once 9 = .ok (.if_icmp .ne 10, 3) := by decide +kernel
theorem dX8_once_12 : decode cX8_once 12 = .ok (.aload_n 0, 1) := by decide +kernel
theorem dX8_once_13 : decode cX8_once 13 = .ok (.bipush (-2), 2) := by decide +kernel
theorem dX8_once_15 : decode cX8_once 15 = .ok (.iload_n 2, 1) := by decide +kernel
theorem dX8_once_16 : decode cX8_once 16 = .ok (.invokevirtual 84, 3) := by decide +kernel
theorem dX8_once_19 : decode cX8_once 19 = .ok (.aload_n 0, 1) := by decide +kernel
theorem dX8_once_20 : decode cX8_once 20 = .ok (.dup, 1) := by decide +kernel
theorem dX8_once_21 : decode cX8_once 21 = .ok (.getfield 133, 3) := by decide +kernel
theorem dX8_once_24 : decode cX8_once 24 = .ok (.iconst 1, 1) := by decide +kernel
theorem dX8_once_25 : decode cX8_once 25 = .ok (.iload_n 1, 1) := by decide +kernel
theorem dX8_once_26 : decode cX8_once 26 = .ok (.ishl, 1) := by decide +kernel
theorem dX8_once_27 : decode cX8_once 27 = .ok (.ior, 1) := by decide +kernel
theorem dX8_once_28 : decode cX8_once 28 = .ok (.putfield 133, 3) := by decide +kernel
theorem dX8_once_31 : decode cX8_once 31 = .ok (.return_, 1) := by decide +kernel
theorem dX8_addTask_0 : decode cX8_addTask 0 = .ok (.aload_n 0, 1) := by decide +kernel
theorem dX8_addTask_1 : decode cX8_addTask 1 = .ok (.iconst 3, 1) := by decide +kernel
theorem dX8_addTask_2 : decode cX8_addTask 2 = .ok (.iaload, 1) := by decide +kernel
theorem dX8_addTask_3 : decode cX8_addTask 3 = .ok (.istore 4, 2) := by decide +kernel
theorem dX8_addTask_5 : decode cX8_addTask 5 = .ok (.iload 4, 2) := by decide +kernel
theorem dX8_addTask_7 : decode cX8_addTask 7 = .ok (.invokestatic 136, 3) := by decide +kernel
theorem dX8_addTask_10 : decode cX8_addTask 10 = .ok (.istore 5, 2) := by decide +kernel
theorem dX8_addTask_12 : decode cX8_addTask 12 = .ok (.aload_n 0, 1) := by decide +kernel
theorem dX8_addTask_13 : decode cX8_addTask 13 = .ok (.iconst 3, 1) := by decide +kernel
theorem dX8_addTask_14 : decode cX8_addTask 14 = .ok (.dup2, 1) := by decide +kernel
theorem dX8_addTask_15 : decode cX8_addTask 15 = .ok (.iaload, 1) := by decide +kernel
theorem dX8_addTask_16 : decode cX8_addTask 16 = .ok (.iconst 1, 1) := by decide +kernel
theorem dX8_addTask_17 : decode cX8_addTask 17 = .ok (.iadd, 1) := by decide +kernel
theorem dX8_addTask_18 : decode cX8_addTask 18 = .ok (.iastore, 1) := by decide +kernel
theorem dX8_addTask_19 : decode cX8_addTask 19 = .ok (.aload_n 0, 1) := by decide +kernel
theorem dX8_addTask_20 : decode cX8_addTask 20 = .ok (.iload 5, 2) := by decide +kernel
theorem dX8_addTask_22 : decode cX8_addTask 22 = .ok (.iload_n 1, 1) := by decide +kernel
theorem dX8_addTask_23 : decode cX8_addTask 23 = .ok (.iastore, 1) := by decide +kernel
theorem dX8_addTask_24 : decode cX8_addTask 24 = .ok (.aload_n 0, 1) := by decide +kernel
theorem dX8_addTask_25 : decode cX8_addTask 25 = .ok (.iload 5, 2) := by decide +kernel
theorem dX8_addTask_27 : decode cX8_addTask 27 = .ok (.iconst 1, 1) := by decide +kernel
theorem dX8_addTask_28 : decode cX8_addTask 28 = .ok (.iadd, 1) := by decide +kernel
theorem dX8_addTask_29 : decode cX8_addTask 29 = .ok (.iload_n 2, 1) := by decide +kernel
theorem dX8_addTask_30 : decode cX8_addTask 30 = .ok (.iastore, 1) := by decide +kernel
theorem dX8_addTask_31 : decode cX8_addTask 31 = .ok (.aload_n 0, 1) := by decide +kernel
theorem dX8_addTask_32 : decode cX8_addTask 32 = .ok (.iload 5, 2) := by decide +kernel
theorem dX8_addTask_34 : decode cX8_addTask 34 = .ok (.iconst 2, 1) := by decide +kernel
theorem dX8_addTask_35 : decode cX8_addTask 35 = .ok (.iadd, 1) := by decide +kernel
theorem dX8_addTask_36 : decode cX8_addTask 36 = .ok (.iload_n 3, 1) := by decide +kernel
theorem dX8_addTask_37 : decode cX8_addTask 37 = .ok (.iastore, 1) := by decide +kernel
theorem dX8_addTask_38 : decode cX8_addTask 38 = .ok (.aload_n 0, 1) := by decide +kernel
theorem dX8_addTask_39 : decode cX8_addTask 39 = .ok (.iload 5, 2) := by decide +kernel
theorem dX8_addTask_41 : decode cX8_addTask 41 = .ok (.iconst 3, 1) := by decide +kernel
theorem dX8_addTask_42 : decode cX8_addTask 42 = .ok (.iadd, 1) := by decide +kernel
theorem dX8_addTask_43 : decode cX8_addTask 43 = .ok (.iconst 0, 1) := by decide +kernel
theorem dX8_addTask_44 : decode cX8_addTask 44 = .ok (.iastore, 1) := by decide +kernel
theorem dX8_addTask_45 : decode cX8_addTask 45 = .ok (.aload_n 0, 1) := by decide +kernel
theorem dX8_addTask_46 : decode cX8_addTask 46 = .ok (.iload 4, 2) := by decide +kernel
theorem dX8_addTask_48 : decode cX8_addTask 48 = .ok (.invokestatic 139, 3) := by decide +kernel
theorem dX8_addTask_51 : decode cX8_addTask 51 = .ok (.iload 4, 2) := by decide +kernel
theorem dX8_addTask_53 : decode cX8_addTask 53 = .ok (.ireturn, 1) := by decide +kernel
theorem dX8_putToWait_0 : decode cX8_putToWait 0 = .ok (.aload_n 0, 1) := by decide +kernel
theorem dX8_putToWait_1 : decode cX8_putToWait 1 = .ok (.iload_n 1, 1) := by decide +kernel
theorem dX8_putToWait_2 : decode cX8_putToWait 2 = .ok (.invokestatic 136, 3) := by decide +kernel
theorem dX8_putToWait_5 : decode cX8_putToWait 5 = .ok (.iconst 4, 1) := by decide +kernel
theorem dX8_putToWait_6 : decode cX8_putToWait 6 = .ok (.iadd, 1) := by decide +kernel
theorem dX8_putToWait_7 : decode cX8_putToWait 7 = .ok (.iconst 0, 1) := by decide +kernel
theorem dX8_putToWait_8 : decode cX8_putToWait 8 = .ok (.iastore, 1) := by decide +kernel
theorem dX8_putToWait_9 : decode cX8_putToWait 9 = .ok (.aload_n 0, 1) := by decide +kernel
theorem dX8_putToWait_10 : decode cX8_putToWait 10 = .ok (.iload_n 1, 1) := by decide +kernel
theorem dX8_putToWait_11 : decode cX8_putToWait 11 = .ok (.invokestatic 136, 3) := by decide +kernel
theorem dX8_putToWait_14 : decode cX8_putToWait 14 = .ok (.iconst 5, 1) := by decide +kernel
theorem dX8_putToWait_15 : decode cX8_putToWait 15 = .ok (.iadd, 1) := by decide +kernel
theorem dX8_putToWait_16 : decode cX8_putToWait 16 = .ok (.iconst 0, 1) := by decide +kernel
theorem dX8_putToWait_17 : decode cX8_putToWait 17 = .ok (.iastore, 1) := by decide +kernel
theorem dX8_putToWait_18 : decode cX8_putToWait 18 = .ok (.aload_n 0, 1) := by decide +kernel
theorem dX8_putToWait_19 : decode cX8_putToWait 19 = .ok (.iload_n 1, 1) := by decide +kernel
theorem dX8_putToWait_20 : decode cX8_putToWait 20 = .ok (.invokestatic 136, 3) := by decide +kernel
theorem dX8_putToWait_23 : decode cX8_putToWait 23 = .ok (.bipush 6, 2) := by decide +kernel
theorem dX8_putToWait_25 : decode cX8_putToWait 25 = .ok (.iadd, 1) := by decide +kernel
theorem dX8_putToWait_26 : decode cX8_putToWait 26 = .ok (.iconst (-1), 1) := by decide +kernel
theorem dX8_putToWait_27 : decode cX8_putToWait 27 = .ok (.iastore, 1) := by decide +kernel
theorem dX8_putToWait_28 : decode cX8_putToWait 28 = .ok (.aload_n 0, 1) := by decide +kernel
theorem dX8_putToWait_29 : decode cX8_putToWait 29 = .ok (.iload_n 1, 1) := by decide +kernel
theorem dX8_putToWait_30 : decode cX8_putToWait 30 = .ok (.invokestatic 136, 3) := by decide +kernel
theorem dX8_putToWait_33 : decode cX8_putToWait 33 = .ok (.bipush 7, 2) := by decide +kernel
theorem dX8_putToWait_35 : decode cX8_putToWait 35 = .ok (.iadd, 1) := by decide +kernel
theorem dX8_putToWait_36 : decode cX8_putToWait 36 = .ok (.iconst (-1), 1) := by decide +kernel
theorem dX8_putToWait_37 : decode cX8_putToWait 37 = .ok (.iastore, 1) := by decide +kernel
theorem dX8_putToWait_38 : decode cX8_putToWait 38 = .ok (.return_, 1) := by decide +kernel
theorem dX8_readTask_0 : decode cX8_readTask 0 = .ok (.aload_n 0, 1) := by decide +kernel
theorem dX8_readTask_1 : decode cX8_readTask 1 = .ok (.getfield 20, 3) := by decide +kernel
theorem dX8_readTask_4 : decode cX8_readTask 4 = .ok (.iconst 3, 1) := by decide +kernel
theorem dX8_readTask_5 : decode cX8_readTask 5 = .ok (.iaload, 1) := by decide +kernel
theorem dX8_readTask_6 : decode cX8_readTask 6 = .ok (.bipush 32, 2) := by decide +kernel
theorem dX8_readTask_8 : decode cX8_readTask 8 = .ok (.if_icmp .ne 10, 3) := by decide +kernel
theorem dX8_readTask_11 : decode cX8_readTask 11 = .ok (.aload_n 0, 1) := by decide +kernel
theorem dX8_readTask_12 : decode cX8_readTask 12 = .ok (.bipush (-4), 2) := by decide +kernel
theorem dX8_readTask_14 : decode cX8_readTask 14 = .ok (.iload_n 1, 1) := by decide +kernel
theorem dX8_readTask_15 : decode cX8_readTask 15 = .ok (.invokevirtual 84, 3) := by decide +kernel
theorem dX8_readTask_18 : decode cX8_readTask 18 = .ok (.aload_n 0, 1) := by decide +kernel
theorem dX8_readTask_19 : decode cX8_readTask 19 = .ok (.iconst 1, 1) := by decide +kernel
theorem dX8_readTask_20 : decode cX8_readTask 20 = .ok (.bipush 99, 2) := by decide +kernel
theorem dX8_readTask_22 : decode cX8_readTask 22 = .ok (.invokevirtual 121, 3) := by decide +kernel
theorem dX8_readTask_25 : decode cX8_readTask 25 = .ok (.istore_n 2, 1) := by decide +kernel
theorem dX8_readTask_26 : decode cX8_readTask 26 = .ok (.aload_n 0, 1) := by decide +kernel
theorem dX8_readTask_27 : decode cX8_readTask 27 = .ok (.iconst 0, 1) := by decide +kernel
theorem dX8_readTask_28 : decode cX8_readTask 28 = .ok (.bipush 9, 2) := by decide +kernel
theorem dX8_readTask_30 : decode cX8_readTask 30 = .ok (.invokevirtual 121, 3) := by decide +kernel
theorem dX8_readTask_33 : decode cX8_readTask 33 = .ok (.istore_n 3, 1) := by decide +kernel
theorem dX8_readTask_34 : decode cX8_readTask 34 = .ok (.aload_n 0, 1) := by decide +kernel
theorem dX8_readTask_35 : decode cX8_readTask 35 = .ok (.invokevirtual 67, 3) := by decide +kernel
theorem dX8_readTask_38 : decode cX8_readTask 38 = .ok (.ifCond .eq 19, 3) := by decide +kernel
theorem dX8_readTask_41 : decode cX8_readTask 41 = .ok (.aload_n 0, 1) := by decide +kernel
theorem dX8_readTask_42 : decode cX8_readTask 42 = .ok (.getfield 20, 3) := by decide +kernel
theorem dX8_readTask_45 : decode cX8_readTask 45 = .ok (.iconst 3, 1) := by decide +kernel
theorem dX8_readTask_46 : decode cX8_readTask 46 = .ok (.iaload, 1) := by decide +kernel
theorem dX8_readTask_47 : decode cX8_readTask 47 = .ok (.aload_n 0, 1) := by decide +kernel
theorem dX8_readTask_48 : decode cX8_readTask 48 = .ok (.getfield 20, 3) := by decide +kernel
theorem dX8_readTask_51 : decode cX8_readTask 51 = .ok (.iconst 0, 1) := by decide +kernel
theorem dX8_readTask_52 : decode cX8_readTask 52 = .ok (.iaload, 1) := by decide +kernel
theorem dX8_readTask_53 : decode cX8_readTask 53 = .ok (.irem, 1) := by decide +kernel
theorem dX8_readTask_54 : decode cX8_readTask 54 = .ok (.goto 4, 3) := by decide +kernel
theorem dX8_readTask_57 : decode cX8_readTask 57 = .ok (.iconst 0, 1) := by decide +kernel
theorem dX8_readTask_58 : decode cX8_readTask 58 = .ok (.istore 4, 2) := by decide +kernel
theorem dX8_readTask_60 : decode cX8_readTask 60 = .ok (.iconst 0, 1) := by decide +kernel
theorem dX8_readTask_61 : decode cX8_readTask 61 = .ok (.istore 5, 2) := by decide +kernel
theorem dX8_readTask_63 : decode cX8_readTask 63 = .ok (.aload_n 0, 1) := by decide +kernel
theorem dX8_readTask_64 : decode cX8_readTask 64 = .ok (.ldc 118, 2) := by decide +kernel
theorem dX8_readTask_66 : decode cX8_readTask 66 = .ok (.invokevirtual 112, 3) := by decide +kernel
theorem dX8_readTask_69 : decode cX8_readTask 69 = .ok (.ifCond .eq 18, 3) := by decide +kernel
theorem dX8_readTask_72 : decode cX8_readTask 72 = .ok (.aload_n 0, 1) := by decide +kernel
theorem dX8_readTask_73 : decode cX8_readTask 73 = .ok (.iconst 0, 1) := by decide +kernel
theorem dX8_readTask_74 : decode cX8_readTask 74 = .ok (.aload_n 0, 1) := by decide +kernel
theorem dX8_readTask_75 : decode cX8_readTask 75 = .ok (.getfield 20, 3) := by decide +kernel
theorem dX8_readTask_78 : decode cX8_readTask 78 = .ok (.iconst 0, 1) := by decide +kernel
theorem dX8_readTask_79 : decode cX8_readTask 79 = .ok (.iaload, 1) := by decide +kernel
theorem dX8_readTask_80 : decode cX8_readTask 80 = .ok (.iconst 1, 1) := by decide +kernel
theorem dX8_readTask_81 : decode cX8_readTask 81 = .ok (.isub, 1) := by decide +kernel
theorem dX8_readTask_82 : decode cX8_readTask 82 = .ok (.invokevirtual 121, 3) := by decide +kernel
theorem dX8_readTask_85 : decode cX8_readTask 85 = .ok (.istore 4, 2) := by decide +kernel
theorem dX8_readTask_87 : decode cX8_readTask 87 = .ok (.aload_n 0, 1) := by decide +kernel
theorem dX8_readTask_88 : decode cX8_readTask 88 = .ok (.ldc 143, 2) := by decide +kernel
theorem dX8_readTask_90 : decode cX8_readTask 90 = .ok (.invokevirtual 112, 3) := by decide +kernel
theorem dX8_readTask_93 : decode cX8_readTask 93 = .ok (.ifCond .eq 73, 3) := by decide +kernel
theorem dX8_readTask_96 : decode cX8_readTask 96 = .ok (.aload_n 0, 1) := by decide +kernel
theorem dX8_readTask_97 : decode cX8_readTask 97 = .ok (.iconst 0, 1) := by decide +kernel
theorem dX8_readTask_98 : decode cX8_readTask 98 = .ok (.aload_n 0, 1) := by decide +kernel
theorem dX8_readTask_99 : decode cX8_readTask 99 = .ok (.getfield 20, 3) := by decide +kernel
theorem dX8_readTask_102 : decode cX8_readTask 102 = .ok (.iconst 3, 1) := by decide +kernel
theorem dX8_readTask_103 : decode cX8_readTask 103 = .ok (.iaload, 1) := by decide +kernel
theorem dX8_readTask_104 : decode cX8_readTask 104 = .ok (.iconst 1, 1) := by decide +kernel
theorem dX8_readTask_105 : decode cX8_readTask 105 = .ok (.isub, 1) := by decide +kernel
theorem dX8_readTask_106 : decode cX8_readTask 106 = .ok (.invokevirtual 121, 3) := by decide +kernel
theorem dX8_readTask_109 : decode cX8_readTask 109 = .ok (.istore 6, 2) := by decide +kernel
theorem dX8_readTask_111 : decode cX8_readTask 111 = .ok (.aload_n 0, 1) := by decide +kernel
theorem dX8_readTask_112 : decode cX8_readTask 112 = .ok (.invokevirtual 67, 3) := by decide +kernel
theorem dX8_readTask_115 : decode cX8_readTask 115 = .ok (.ifCond .eq 24, 3) := by decide +kernel
theorem dX8_readTask_118 : decode cX8_readTask 118 = .ok (.iload 5, 2) := by decide +kernel
theorem dX8_readTask_120 : decode cX8_readTask 120 = .ok (.iload 6, 2) := by decide +kernel
theorem dX8_readTask_122 : decode cX8_readTask 122 = .ok (.ishr, 1) := by decide +kernel
theorem dX8_readTask_123 : decode cX8_readTask 123 = .ok (.iconst 1, 1) := by decide +kernel
theorem dX8_readTask_124 : decode cX8_readTask 124 = .ok (.iand, 1) := by decide +kernel
theorem dX8_readTask_125 : decode cX8_readTask 125 = .ok (.iconst 1, 1) := by decide +kernel
theorem dX8_readTask_126 : decode cX8_readTask 126 = .ok (.if_icmp .ne 13, 3) := by decide +kernel
theorem dX8_readTask_129 : decode cX8_readTask 129 = .ok (.aload_n 0, 1) := by decide +kernel
theorem dX8_readTask_130 : decode cX8_readTask 130 = .ok (.bipush (-3), 2) := by decide +kernel
theorem dX8_readTask_132 : decode cX8_readTask 132 = .ok (.aload_n 0, 1) := by decide +kernel
theorem dX8_readTask_133 : decode cX8_readTask 133 = .ok (.getfield 92, 3) := by decide +kernel
theorem dX8_readTask_136 : decode cX8_readTask 136 = .ok (.invokevirtual 84, 3) := by decide +kernel
theorem dX8_readTask_139 : decode cX8_readTask 139 = .ok (.aload_n 0, 1) := by decide +kernel
theorem dX8_readTask_140 : decode cX8_readTask 140 = .ok (.invokevirtual 67, 3) := by decide +kernel
theorem dX8_readTask_143 : decode cX8_readTask 143 = .ok (.ifCond .ne 4, 3) := by decide +kernel
theorem dX8_readTask_146 : decode cX8_readTask 146 = .ok (.return_, 1) := by decide +kernel
theorem dX8_readTask_147 : decode cX8_readTask 147 = .ok (.iload 5, 2) := by decide +kernel
theorem dX8_readTask_149 : decode cX8_readTask 149 = .ok (.iconst 1, 1) := by decide +kernel
theorem dX8_readTask_150 : decode cX8_readTask 150 = .ok (.iload 6, 2) := by decide +kernel
theorem dX8_readTask_152 : decode cX8_readTask 152 = .ok (.ishl, 1) := by decide +kernel
theorem dX8_readTask_153 : decode cX8_readTask 153 = .ok (.ior, 1) := by decide +kernel
theorem dX8_readTask_154 : decode cX8_readTask 154 = .ok (.istore 5, 2) := by decide +kernel
theorem dX8_readTask_156 : decode cX8_readTask 156 = .ok (.aload_n 0, 1) := by decide +kernel
theorem dX8_readTask_157 : decode cX8_readTask 157 = .ok (.invokevirtual 71, 3) := by decide +kernel
theorem dX8_readTask_160 : decode cX8_readTask 160 = .ok (.invokestatic 88, 3) := by decide +kernel
theorem dX8_readTask_163 : decode cX8_readTask 163 = .ok (.ifCond .ne (-67), 3) := by decide +kernel
theorem dX8_readTask_166 : decode cX8_readTask 166 = .ok (.aload_n 0, 1) := by decide +kernel
theorem dX8_readTask_167 : decode cX8_readTask 167 = .ok (.invokevirtual 67, 3) := by decide +kernel
theorem dX8_readTask_170 : decode cX8_readTask 170 = .ok (.ifCond .ne 4, 3) := by decide +kernel
theorem dX8_readTask_173 : decode cX8_readTask 173 = .ok (.return_, 1) := by decide +kernel
theorem dX8_readTask_174 : decode cX8_readTask 174 = .ok (.aload_n 0, 1) := by decide +kernel
theorem dX8_readTask_175 : decode cX8_readTask 175 = .ok (.getfield 20, 3) := by decide +kernel
theorem dX8_readTask_178 : decode cX8_readTask 178 = .ok (.aload_n 0, 1) := by decide +kernel
theorem dX8_readTask_179 : decode cX8_readTask 179 = .ok (.getfield 20, 3) := by decide +kernel
theorem dX8_readTask_182 : decode cX8_readTask 182 = .ok (.iload_n 2, 1) := by decide +kernel
theorem dX8_readTask_183 : decode cX8_readTask 183 = .ok (.iload_n 3, 1) := by decide +kernel
theorem dX8_readTask_184 : decode cX8_readTask 184 = .ok (.iload 4, 2) := by decide +kernel
theorem dX8_readTask_186 : decode cX8_readTask 186 = .ok (.invokestatic 145, 3) := by decide +kernel
theorem dX8_readTask_189 : decode cX8_readTask 189 = .ok (.invokestatic 136, 3) := by decide +kernel
theorem dX8_readTask_192 : decode cX8_readTask 192 = .ok (.iconst 3, 1) := by decide +kernel
theorem dX8_readTask_193 : decode cX8_readTask 193 = .ok (.iadd, 1) := by decide +kernel
theorem dX8_readTask_194 : decode cX8_readTask 194 = .ok (.iload 5, 2) := by decide +kernel
theorem dX8_readTask_196 : decode cX8_readTask 196 = .ok (.iastore, 1) := by decide +kernel
theorem dX8_readTask_197 : decode cX8_readTask 197 = .ok (.return_, 1) := by decide +kernel
theorem dX8_readFence_0 : decode cX8_readFence 0 = .ok (.aload_n 0, 1) := by decide +kernel
theorem dX8_readFence_1 : decode cX8_readFence 1 = .ok (.getfield 20, 3) := by decide +kernel
theorem dX8_readFence_4 : decode cX8_readFence 4 = .ok (.iconst 4, 1) := by decide +kernel
theorem dX8_readFence_5 : decode cX8_readFence 5 = .ok (.iaload, 1) := by decide +kernel
theorem dX8_readFence_6 : decode cX8_readFence 6 = .ok (.bipush 8, 2) := by decide +kernel
theorem dX8_readFence_8 : decode cX8_readFence 8 = .ok (.if_icmp .ne 10, 3) := by decide +kernel
theorem dX8_readFence_11 : decode cX8_readFence 11 = .ok (.aload_n 0, 1) := by decide +kernel
theorem dX8_readFence_12 : decode cX8_readFence 12 = .ok (.bipush (-4), 2) := by decide +kernel
theorem dX8_readFence_14 : decode cX8_readFence 14 = .ok (.iload_n 1, 1) := by decide +kernel
theorem dX8_readFence_15 : decode cX8_readFence 15 = .ok (.invokevirtual 84, 3) := by decide +kernel
theorem dX8_readFence_18 : decode cX8_readFence 18 = .ok (.aload_n 0, 1) := by decide +kernel
theorem dX8_readFence_19 : decode cX8_readFence 19 = .ok (.invokevirtual 67, 3) := by decide +kernel
theorem dX8_readFence_22 : decode cX8_readFence 22 = .ok (.ifCond .ne 4, 3) := by decide +kernel
theorem dX8_readFence_25 : decode cX8_readFence 25 = .ok (.return_, 1) := by decide +kernel
theorem dX8_readFence_26 : decode cX8_readFence 26 = .ok (.aload_n 0, 1) := by decide +kernel
theorem dX8_readFence_27 : decode cX8_readFence 27 = .ok (.getfield 20, 3) := by decide +kernel
theorem dX8_readFence_30 : decode cX8_readFence 30 = .ok (.bipush 8, 2) := by decide +kernel
theorem dX8_readFence_32 : decode cX8_readFence 32 = .ok (.aload_n 0, 1) := by decide +kernel
theorem dX8_readFence_33 : decode cX8_readFence 33 = .ok (.getfield 20, 3) := by decide +kernel
theorem dX8_readFence_36 : decode cX8_readFence 36 = .ok (.iconst 4, 1) := by decide +kernel
theorem dX8_readFence_37 : decode cX8_readFence 37 = .ok (.iaload, 1) := by decide +kernel
theorem dX8_readFence_38 : decode cX8_readFence 38 = .ok (.iadd, 1) := by decide +kernel
theorem dX8_readFence_39 : decode cX8_readFence 39 = .ok (.aload_n 0, 1) := by decide +kernel
theorem dX8_readFence_40 : decode cX8_readFence 40 = .ok (.getfield 20, 3) := by decide +kernel
theorem dX8_readFence_43 : decode cX8_readFence 43 = .ok (.iconst 3, 1) := by decide +kernel
theorem dX8_readFence_44 : decode cX8_readFence 44 = .ok (.iaload, 1) := by decide +kernel
theorem dX8_readFence_45 : decode cX8_readFence 45 = .ok (.iastore, 1) := by decide +kernel
theorem dX8_readFence_46 : decode cX8_readFence 46 = .ok (.aload_n 0, 1) := by decide +kernel
theorem dX8_readFence_47 : decode cX8_readFence 47 = .ok (.getfield 20, 3) := by decide +kernel
theorem dX8_readFence_50 : decode cX8_readFence 50 = .ok (.iconst 4, 1) := by decide +kernel
theorem dX8_readFence_51 : decode cX8_readFence 51 = .ok (.dup2, 1) := by decide +kernel
theorem dX8_readFence_52 : decode cX8_readFence 52 = .ok (.iaload, 1) := by decide +kernel
theorem dX8_readFence_53 : decode cX8_readFence 53 = .ok (.iconst 1, 1) := by decide +kernel
theorem dX8_readFence_54 : decode cX8_readFence 54 = .ok (.iadd, 1) := by decide +kernel
theorem dX8_readFence_55 : decode cX8_readFence 55 = .ok (.iastore, 1) := by decide +kernel
theorem dX8_readFence_56 : decode cX8_readFence 56 = .ok (.return_, 1) := by decide +kernel
theorem dX8_statement_0 : decode cX8_statement 0 = .ok (.aload_n 0, 1) := by decide +kernel
theorem dX8_statement_1 : decode cX8_statement 1 = .ok (.invokevirtual 71, 3) := by decide +kernel
theorem dX8_statement_4 : decode cX8_statement 4 = .ok (.pop, 1) := by decide +kernel
theorem dX8_statement_5 : decode cX8_statement 5 = .ok (.aload_n 0, 1) := by decide +kernel
theorem dX8_statement_6 : decode cX8_statement 6 = .ok (.getfield 51, 3) := by decide +kernel
theorem dX8_statement_9 : decode cX8_statement 9 = .ok (.istore_n 1, 1) := by decide +kernel
theorem dX8_statement_10 : decode cX8_statement 10 = .ok (.aload_n 0, 1) := by decide +kernel
theorem dX8_statement_11 : decode cX8_statement 11 = .ok (.ldc 149, 2) := by decide +kernel
theorem dX8_statement_13 : decode cX8_statement 13 = .ok (.invokevirtual 112, 3) := by decide +kernel
theorem dX8_statement_16 : decode cX8_statement 16 = .ok (.ifCond .eq 11, 3) := by decide +kernel
theorem dX8_statement_19 : decode cX8_statement 19 = .ok (.aload_n 0, 1) := by decide +kernel
theorem dX8_statement_20 : decode cX8_statement 20 = .ok (.iload_n 1, 1) := by decide +kernel
theorem dX8_statement_21 : decode cX8_statement 21 = .ok (.invokevirtual 150, 3) := by decide +kernel
theorem dX8_statement_24 : decode cX8_statement 24 = .ok (.goto 57, 3) := by decide +kernel
theorem dX8_statement_27 : decode cX8_statement 27 = .ok (.aload_n 0, 1) := by decide +kernel
theorem dX8_statement_28 : decode cX8_statement 28 = .ok (.ldc 153, 2) := by decide +kernel
theorem dX8_statement_30 : decode cX8_statement 30 = .ok (.invokevirtual 112, 3) := by decide +kernel
theorem dX8_statement_33 : decode cX8_statement 33 = .ok (.ifCond .eq 11, 3) := by decide +kernel
theorem dX8_statement_36 : decode cX8_statement 36 = .ok (.aload_n 0, 1) := by decide +kernel
theorem dX8_statement_37 : decode cX8_statement 37 = .ok (.iload_n 1, 1) := by decide +kernel
theorem dX8_statement_38 : decode cX8_statement 38 = .ok (.invokevirtual 155, 3) := by decide +kernel
theorem dX8_statement_41 : decode cX8_statement 41 = .ok (.goto 40, 3) := by decide +kernel
theorem dX8_statement_44 : decode cX8_statement 44 = .ok (.aload_n 0, 1) := by decide +kernel
theorem dX8_statement_45 : decode cX8_statement 45 = .ok (.ldc 158, 2) := by decide +kernel
theorem dX8_statement_47 : decode cX8_statement 47 = .ok (.invokevirtual 112, 3) := by decide +kernel
theorem dX8_statement_50 : decode cX8_statement 50 = .ok (.ifCond .eq 24, 3) := by decide +kernel
theorem dX8_statement_53 : decode cX8_statement 53 = .ok (.aload_n 0, 1) := by decide +kernel
theorem dX8_statement_54 : decode cX8_statement 54 = .ok (.iconst 0, 1) := by decide +kernel
theorem dX8_statement_55 : decode cX8_statement 55 = .ok (.iload_n 1, 1) := by decide +kernel
theorem dX8_statement_56 : decode cX8_statement 56 = .ok (.invokevirtual 159, 3) := by decide +kernel
theorem dX8_statement_59 : decode cX8_statement 59 = .ok (.aload_n 0, 1) := by decide +kernel
theorem dX8_statement_60 : decode cX8_statement 60 = .ok (.getfield 20, 3) := by decide +kernel
theorem dX8_statement_63 : decode cX8_statement 63 = .ok (.bipush 6, 2) := by decide +kernel
theorem dX8_statement_65 : decode cX8_statement 65 = .ok (.iconst 1, 1) := by decide +kernel
theorem dX8_statement_66 : decode cX8_statement 66 = .ok (.iastore, 1) := by decide +kernel
theorem dX8_statement_67 : decode cX8_statement 67 = .ok (.aload_n 0, 1) := by decide +kernel
theorem dX8_statement_68 : decode cX8_statement 68 = .ok (.invokevirtual 103, 3) := by decide +kernel
theorem dX8_statement_71 : decode cX8_statement 71 = .ok (.goto 10, 3) := by decide +kernel
theorem dX8_statement_74 : decode cX8_statement 74 = .ok (.aload_n 0, 1) := by decide +kernel
theorem dX8_statement_75 : decode cX8_statement 75 = .ok (.bipush (-2), 2) := by decide +kernel
theorem dX8_statement_77 : decode cX8_statement 77 = .ok (.iload_n 1, 1) := by decide +kernel
theorem dX8_statement_78 : decode cX8_statement 78 = .ok (.invokevirtual 84, 3) := by decide +kernel
theorem dX8_statement_81 : decode cX8_statement 81 = .ok (.aload_n 0, 1) := by decide +kernel
theorem dX8_statement_82 : decode cX8_statement 82 = .ok (.bipush 59, 2) := by decide +kernel
theorem dX8_statement_84 : decode cX8_statement 84 = .ok (.invokevirtual 106, 3) := by decide +kernel
theorem dX8_statement_87 : decode cX8_statement 87 = .ok (.return_, 1) := by decide +kernel
theorem dX8_load_0 : decode cX8_load 0 = .ok (.aload_n 0, 1) := by decide +kernel
theorem dX8_load_1 : decode cX8_load 1 = .ok (.iconst 0, 1) := by decide +kernel
theorem dX8_load_2 : decode cX8_load 2 = .ok (.putfield 38, 3) := by decide +kernel
theorem dX8_load_5 : decode cX8_load 5 = .ok (.aload_n 0, 1) := by decide +kernel
theorem dX8_load_6 : decode cX8_load 6 = .ok (.iload_n 1, 1) := by decide +kernel
theorem dX8_load_7 : decode cX8_load 7 = .ok (.iconst 0, 1) := by decide +kernel
theorem dX8_load_8 : decode cX8_load 8 = .ok (.aload_n 0, 1) := by decide +kernel
theorem dX8_load_9 : decode cX8_load 9 = .ok (.getfield 45, 3) := by decide +kernel
theorem dX8_load_12 : decode cX8_load 12 = .ok (.invokestatic 63, 3) := by decide +kernel
theorem dX8_load_15 : decode cX8_load 15 = .ok (.ifCond .ne 7, 3) := by decide +kernel
theorem dX8_load_18 : decode cX8_load 18 = .ok (.iconst 1, 1) := by decide +kernel
theorem dX8_load_19 : decode cX8_load 19 = .ok (.goto 4, 3) := by decide +kernel
theorem dX8_load_22 : decode cX8_load 22 = .ok (.iconst 0, 1) := by decide +kernel
theorem dX8_load_23 : decode cX8_load 23 = .ok (.iconst 1, 1) := by decide +kernel
theorem dX8_load_24 : decode cX8_load 24 = .ok (.invokevirtual 162, 3) := by decide +kernel
theorem dX8_load_27 : decode cX8_load 27 = .ok (.ifCond .eq 5, 3) := by decide +kernel
theorem dX8_load_30 : decode cX8_load 30 = .ok (.iconst 0, 1) := by decide +kernel
theorem dX8_load_31 : decode cX8_load 31 = .ok (.ireturn, 1) := by decide +kernel
theorem dX8_load_32 : decode cX8_load 32 = .ok (.aload_n 0, 1) := by decide +kernel
theorem dX8_load_33 : decode cX8_load 33 = .ok (.iconst 0, 1) := by decide +kernel
theorem dX8_load_34 : decode cX8_load 34 = .ok (.putfield 45, 3) := by decide +kernel
theorem dX8_load_37 : decode cX8_load 37 = .ok (.aload_n 0, 1) := by decide +kernel
theorem dX8_load_38 : decode cX8_load 38 = .ok (.iload_n 1, 1) := by decide +kernel
theorem dX8_load_39 : decode cX8_load 39 = .ok (.putfield 48, 3) := by decide +kernel
theorem dX8_load_42 : decode cX8_load 42 = .ok (.aload_n 0, 1) := by decide +kernel
theorem dX8_load_43 : decode cX8_load 43 = .ok (.iconst 0, 1) := by decide +kernel
theorem dX8_load_44 : decode cX8_load 44 = .ok (.putfield 51, 3) := by decide +kernel
theorem dX8_load_47 : decode cX8_load 47 = .ok (.aload_n 0, 1) := by decide +kernel
theorem dX8_load_48 : decode cX8_load 48 = .ok (.iconst 0, 1) := by decide +kernel
theorem dX8_load_49 : decode cX8_load 49 = .ok (.putfield 57, 3) := by decide +kernel
theorem dX8_load_52 : decode cX8_load 52 = .ok (.aload_n 0, 1) := by decide +kernel
theorem dX8_load_53 : decode cX8_load 53 = .ok (.iconst (-1), 1) := by decide +kernel
theorem dX8_load_54 : decode cX8_load 54 = .ok (.putfield 60, 3) := by decide +kernel
theorem dX8_load_57 : decode cX8_load 57 = .ok (.aload_n 0, 1) := by decide +kernel
theorem dX8_load_58 : decode cX8_load 58 = .ok (.iconst 0, 1) := by decide +kernel
theorem dX8_load_59 : decode cX8_load 59 = .ok (.putfield 100, 3) := by decide +kernel
theorem dX8_load_62 : decode cX8_load 62 = .ok (.aload_n 0, 1) := by decide +kernel
theorem dX8_load_63 : decode cX8_load 63 = .ok (.iconst 0, 1) := by decide +kernel
theorem dX8_load_64 : decode cX8_load 64 = .ok (.putfield 133, 3) := by decide +kernel
theorem dX8_load_67 : decode cX8_load 67 = .ok (.iconst 0, 1) := by decide +kernel
theorem dX8_load_68 : decode cX8_load 68 = .ok (.istore_n 2, 1) := by decide +kernel
theorem dX8_load_69 : decode cX8_load 69 = .ok (.iload_n 2, 1) := by decide +kernel
theorem dX8_load_70 : decode cX8_load 70 = .ok (.sipush 1824, 3) := by decide +kernel
theorem dX8_load_73 : decode cX8_load 73 = .ok (.if_icmp .ge 16, 3) := by decide +kernel
theorem dX8_load_76 : decode cX8_load 76 = .ok (.aload_n 0, 1) := by decide +kernel
theorem dX8_load_77 : decode cX8_load 77 = .ok (.getfield 20, 3) := by decide +kernel
theorem dX8_load_80 : decode cX8_load 80 = .ok (.iload_n 2, 1) := by decide +kernel
theorem dX8_load_81 : decode cX8_load 81 = .ok (.iconst 0, 1) := by decide +kernel
theorem dX8_load_82 : decode cX8_load 82 = .ok (.iastore, 1) := by decide +kernel
theorem dX8_load_83 : decode cX8_load 83 = .ok (.iinc 2 1, 3) := by decide +kernel
theorem dX8_load_86 : decode cX8_load 86 = .ok (.goto (-17), 3) := by decide +kernel
theorem dX8_load_89 : decode cX8_load 89 = .ok (.aload_n 0, 1) := by decide +kernel
theorem dX8_load_90 : decode cX8_load 90 = .ok (.getfield 20, 3) := by decide +kernel
theorem dX8_load_93 : decode cX8_load 93 = .ok (.invokestatic 166, 3) := by decide +kernel
theorem dX8_load_96 : decode cX8_load 96 = .ok (.aload_n 0, 1) := by decide +kernel
theorem dX8_load_97 : decode cX8_load 97 = .ok (.ldc 170, 2) := by decide +kernel
theorem dX8_load_99 : decode cX8_load 99 = .ok (.invokevirtual 112, 3) := by decide +kernel
theorem dX8_load_102 : decode cX8_load 102 = .ok (.ifCond .ne 13, 3) := by decide +kernel
theorem dX8_load_105 : decode cX8_load 105 = .ok (.aload_n 0, 1) := by decide +kernel
theorem dX8_load_106 : decode cX8_load 106 = .ok (.bipush (-2), 2) := by decide +kernel
theorem dX8_load_108 : decode cX8_load 108 = .ok (.aload_n 0, 1) := by decide +kernel
theorem dX8_load_109 : decode cX8_load 109 = .ok (.getfield 51, 3) := by decide +kernel
theorem dX8_load_112 : decode cX8_load 112 = .ok (.invokevirtual 84, 3) := by decide +kernel
theorem dX8_load_115 : decode cX8_load 115 = .ok (.aload_n 0, 1) := by decide +kernel
theorem dX8_load_116 : decode cX8_load 116 = .ok (.getfield 20, 3) := by decide +kernel
theorem dX8_load_119 : decode cX8_load 119 = .ok (.iconst 0, 1) := by decide +kernel
theorem dX8_load_120 : decode cX8_load 120 = .ok (.aload_n 0, 1) := by decide +kernel
theorem dX8_load_121 : decode cX8_load 121 = .ok (.iconst 1, 1) := by decide +kernel
theorem dX8_load_122 : decode cX8_load 122 = .ok (.iconst 4, 1) := by decide +kernel
theorem dX8_load_123 : decode cX8_load 123 = .ok (.invokevirtual 121, 3) := by decide +kernel
theorem dX8_load_126 : decode cX8_load 126 = .ok (.iastore, 1) := by decide +kernel
theorem dX8_load_127 : decode cX8_load 127 = .ok (.aload_n 0, 1) := by decide +kernel
theorem dX8_load_128 : decode cX8_load 128 = .ok (.getfield 20, 3) := by decide +kernel
theorem dX8_load_131 : decode cX8_load 131 = .ok (.iconst 1, 1) := by decide +kernel
theorem dX8_load_132 : decode cX8_load 132 = .ok (.aload_n 0, 1) := by decide +kernel
theorem dX8_load_133 : decode cX8_load 133 = .ok (.iconst 1, 1) := by decide +kernel
theorem dX8_load_134 : decode cX8_load 134 = .ok (.bipush 8, 2) := by decide +kernel
theorem dX8_load_136 : decode cX8_load 136 = .ok (.invokevirtual 121, 3) := by decide +kernel
theorem dX8_load_139 : decode cX8_load 139 = .ok (.iastore, 1) := by decide +kernel
theorem dX8_load_140 : decode cX8_load 140 = .ok (.aload_n 0, 1) := by decide +kernel
theorem dX8_load_141 : decode cX8_load 141 = .ok (.getfield 20, 3) := by decide +kernel
theorem dX8_load_144 : decode cX8_load 144 = .ok (.iconst 2, 1) := by decide +kernel
theorem dX8_load_145 : decode cX8_load 145 = .ok (.aload_n 0, 1) := by decide +kernel
theorem dX8_load_146 : decode cX8_load 146 = .ok (.iconst 0, 1) := by decide +kernel
theorem dX8_load_147 : decode cX8_load 147 = .ok (.bipush 20, 2) := by decide +kernel
theorem dX8_load_149 : decode cX8_load 149 = .ok (.invokevirtual 121, 3) := by decide +kernel
theorem dX8_load_152 : decode cX8_load 152 = .ok (.iastore, 1) := by decide +kernel
theorem dX8_load_153 : decode cX8_load 153 = .ok (.aload_n 0, 1) := by decide +kernel
theorem dX8_load_154 : decode cX8_load 154 = .ok (.bipush 59, 2) := by decide +kernel
theorem dX8_load_156 : decode cX8_load 156 = .ok (.invokevirtual 106, 3) := by decide +kernel
theorem dX8_load_159 : decode cX8_load 159 = .ok (.aload_n 0, 1) := by decide +kernel
theorem dX8_load_160 : decode cX8_load 160 = .ok (.invokevirtual 67, 3) := by decide +kernel
theorem dX8_load_163 : decode cX8_load 163 = .ok (.ifCond .eq 18, 3) := by decide +kernel
theorem dX8_load_166 : decode cX8_load 166 = .ok (.aload_n 0, 1) := by decide +kernel
theorem dX8_load_167 : decode cX8_load 167 = .ok (.invokevirtual 71, 3) := by decide +kernel
theorem dX8_load_170 : decode cX8_load 170 = .ok (.iconst (-1), 1) := by decide +kernel
theorem dX8_load_171 : decode cX8_load 171 = .ok (.if_icmp .eq 10, 3) := by decide +kernel
theorem dX8_load_174 : decode cX8_load 174 = .ok (.aload_n 0, 1) := by decide +kernel
theorem dX8_load_175 : decode cX8_load 175 = .ok (.invokevirtual 172, 3) := by decide +kernel
theorem dX8_load_178 : decode cX8_load 178 = .ok (.goto (-19), 3) := by decide +kernel
theorem dX8_load_181 : decode cX8_load 181 = .ok (.aload_n 0, 1) := by decide +kernel
theorem dX8_load_182 : decode cX8_load 182 = .ok (.aload_n 0, 1) := by decide +kernel
theorem dX8_load_183 : decode cX8_load 183 = .ok (.getfield 60, 3) := by decide +kernel
theorem dX8_load_186 : decode cX8_load 186 = .ok (.putfield 13, 3) := by decide +kernel
theorem dX8_load_189 : decode cX8_load 189 = .ok (.aload_n 0, 1) := by decide +kernel
theorem dX8_load_190 : decode cX8_load 190 = .ok (.invokevirtual 67, 3) := by decide +kernel
theorem dX8_load_193 : decode cX8_load 193 = .ok (.ifCond .ne 8, 3) := by decide +kernel
theorem dX8_load_196 : decode cX8_load 196 = .ok (.aload_n 0, 1) := by decide +kernel
theorem dX8_load_197 : decode cX8_load 197 = .ok (.getfield 57, 3) := by decide +kernel
theorem dX8_load_200 : decode cX8_load 200 = .ok (.ireturn, 1) := by decide +kernel
theorem dX8_load_201 : decode cX8_load 201 = .ok (.aload_n 0, 1) := by decide +kernel
theorem dX8_load_202 : decode cX8_load 202 = .ok (.invokevirtual 175, 3) := by decide +kernel
theorem dX8_load_205 : decode cX8_load 205 = .ok (.aload_n 0, 1) := by decide +kernel
theorem dX8_load_206 : decode cX8_load 206 = .ok (.getfield 20, 3) := by decide +kernel
theorem dX8_load_209 : decode cX8_load 209 = .ok (.aload_n 0, 1) := by decide +kernel
theorem dX8_load_210 : decode cX8_load 210 = .ok (.getfield 17, 3) := by decide +kernel
theorem dX8_load_213 : decode cX8_load 213 = .ok (.invokestatic 178, 3) := by decide +kernel
theorem dX8_load_216 : decode cX8_load 216 = .ok (.aload_n 0, 1) := by decide +kernel
theorem dX8_load_217 : decode cX8_load 217 = .ok (.getfield 17, 3) := by decide +kernel
theorem dX8_load_220 : decode cX8_load 220 = .ok (.iconst 3, 1) := by decide +kernel
theorem dX8_load_221 : decode cX8_load 221 = .ok (.iaload, 1) := by decide +kernel
theorem dX8_load_222 : decode cX8_load 222 = .ok (.ireturn, 1) := by decide +kernel
theorem dX8_errorOffset_0 : decode cX8_errorOffset 0 = .ok (.aload_n 0, 1) := by decide +kernel
theorem dX8_errorOffset_1 : decode cX8_errorOffset 1 = .ok (.iconst 0, 1) := by decide +kernel
theorem dX8_errorOffset_2 : decode cX8_errorOffset 2 = .ok (.putfield 38, 3) := by decide +kernel
theorem dX8_errorOffset_5 : decode cX8_errorOffset 5 = .ok (.aload_n 0, 1) := by decide +kernel
theorem dX8_errorOffset_6 : decode cX8_errorOffset 6 = .ok (.getfield 13, 3) := by decide +kernel
theorem dX8_errorOffset_9 : decode cX8_errorOffset 9 = .ok (.ireturn, 1) := by decide +kernel
theorem dX8_limited_0 : decode cX8_limited 0 = .ok (.lload_n 0, 1) := by decide +kernel
theorem dX8_limited_1 : decode cX8_limited 1 = .ok (.ldc2_w 182, 3) := by decide +kernel
theorem dX8_limited_4 : decode cX8_limited 4 = .ok (.lcmp, 1) := by decide +kernel
theorem dX8_limited_5 : decode cX8_limited 5 = .ok (.ifCond .le 9, 3) := by decide +kernel
theorem dX8_limited_8 : decode cX8_limited 8 = .ok (.ldc2_w 182, 3) := by decide +kernel
theorem dX8_limited_11 : decode cX8_limited 11 = .ok (.goto 18, 3) := by decide +kernel
theorem dX8_limited_14 : decode cX8_limited 14 = .ok (.lload_n 0, 1) := by decide +kernel
theorem dX8_limited_15 : decode cX8_limited 15 = .ok (.ldc2_w 184, 3) := by decide +kernel
theorem dX8_limited_18 : decode cX8_limited 18 = .ok (.lcmp, 1) := by decide +kernel
theorem dX8_limited_19 : decode cX8_limited 19 = .ok (.ifCond .ge 9, 3) := by decide +kernel
theorem dX8_limited_22 : decode cX8_limited 22 = .ok (.ldc2_w 184, 3) := by decide +kernel
theorem dX8_limited_25 : decode cX8_limited 25 = .ok (.goto 4, 3) := by decide +kernel
theorem dX8_limited_28 : decode cX8_limited 28 = .ok (.lload_n 0, 1) := by decide +kernel
theorem dX8_limited_29 : decode cX8_limited 29 = .ok (.lreturn, 1) := by decide +kernel
theorem dX8_operate_0 : decode cX8_operate 0 = .ok (.iload_n 0, 1) := by decide +kernel
theorem dX8_operate_1 : decode cX8_operate 1 = .ok (.iconst 5, 1) := by decide +kernel
theorem dX8_operate_2 : decode cX8_operate 2 = .ok (.if_icmp .ne 17, 3) := by decide +kernel
theorem dX8_operate_5 : decode cX8_operate 5 = .ok (.lload_n 3, 1) := by decide +kernel
theorem dX8_operate_6 : decode cX8_operate 6 = .ok (.lconst 0, 1) := by decide +kernel
theorem dX8_operate_7 : decode cX8_operate 7 = .ok (.lcmp, 1) := by decide +kernel
theorem dX8_operate_8 : decode cX8_operate 8 = .ok (.ifCond .ne 7, 3) := by decide +kernel
theorem dX8_operate_11 : decode cX8_operate 11 = .ok (.lconst 0, 1) := by decide +kernel
theorem dX8_operate_12 : decode cX8_operate 12 = .ok (.goto 6, 3) := by decide +kernel
theorem dX8_operate_15 : decode cX8_operate 15 = .ok (.lload_n 1, 1) := by decide +kernel
theorem dX8_operate_16 : decode cX8_operate 16 = .ok (.lload_n 3, 1) := by decide +kernel
theorem dX8_operate_17 : decode cX8_operate 17 = .ok (.ldiv, 1) := by decide +kernel
theorem dX8_operate_18 : decode cX8_operate 18 = .ok (.lreturn, 1) := by decide +kernel
theorem dX8_operate_19 : decode cX8_operate 19 = .ok (.iload_n 0, 1) := by decide +kernel
theorem dX8_operate_20 : decode cX8_operate 20 = .ok (.iconst 2, 1) := by decide +kernel
theorem dX8_operate_21 : decode cX8_operate 21 = .ok (.if_icmp .ne 9, 3) := by decide +kernel
theorem dX8_operate_24 : decode cX8_operate 24 = .ok (.lload_n 1, 1) := by decide +kernel
theorem dX8_operate_25 : decode cX8_operate 25 = .ok (.lload_n 3, 1) := by decide +kernel
theorem dX8_operate_26 : decode cX8_operate 26 = .ok (.ladd, 1) := by decide +kernel
theorem dX8_operate_27 : decode cX8_operate 27 = .ok (.goto 17, 3) := by decide +kernel
theorem dX8_operate_30 : decode cX8_operate 30 = .ok (.iload_n 0, 1) := by decide +kernel
theorem dX8_operate_31 : decode cX8_operate 31 = .ok (.iconst 3, 1) := by decide +kernel
theorem dX8_operate_32 : decode cX8_operate 32 = .ok (.if_icmp .ne 9, 3) := by decide +kernel
theorem dX8_operate_35 : decode cX8_operate 35 = .ok (.lload_n 1, 1) := by decide +kernel
theorem dX8_operate_36 : decode cX8_operate 36 = .ok (.lload_n 3, 1) := by decide +kernel
theorem dX8_operate_37 : decode cX8_operate 37 = .ok (.lsub, 1) := by decide +kernel
theorem dX8_operate_38 : decode cX8_operate 38 = .ok (.goto 6, 3) := by decide +kernel
theorem dX8_operate_41 : decode cX8_operate 41 = .ok (.lload_n 1, 1) := by decide +kernel
theorem dX8_operate_42 : decode cX8_operate 42 = .ok (.lload_n 3, 1) := by decide +kernel
theorem dX8_operate_43 : decode cX8_operate 43 = .ok (.lmul, 1) := by decide +kernel
theorem dX8_operate_44 : decode cX8_operate 44 = .ok (.invokestatic 186, 3) := by decide +kernel
theorem dX8_operate_47 : decode cX8_operate 47 = .ok (.lreturn, 1) := by decide +kernel
theorem dX8_lengthOf_0 : decode cX8_lengthOf 0 = .ok (.aload_n 1, 1) := by decide +kernel
theorem dX8_lengthOf_1 : decode cX8_lengthOf 1 = .ok (.bipush 6, 2) := by decide +kernel
theorem dX8_lengthOf_3 : decode cX8_lengthOf 3 = .ok (.iaload, 1) := by decide +kernel
theorem dX8_lengthOf_4 : decode cX8_lengthOf 4 = .ok (.ifCond .ne 10, 3) := by decide +kernel
theorem dX8_lengthOf_7 : decode cX8_lengthOf 7 = .ok (.aload_n 1, 1) := by decide +kernel
theorem dX8_lengthOf_8 : decode cX8_lengthOf 8 = .ok (.iload_n 2, 1) := by decide +kernel
theorem dX8_lengthOf_9 : decode cX8_lengthOf 9 = .ok (.invokestatic 136, 3) := by decide +kernel
theorem dX8_lengthOf_12 : decode cX8_lengthOf 12 = .ok (.iaload, 1) := by decide +kernel
theorem dX8_lengthOf_13 : decode cX8_lengthOf 13 = .ok (.ireturn, 1) := by decide +kernel
theorem dX8_lengthOf_14 : decode cX8_lengthOf 14 = .ok (.iconst 0, 1) := by decide +kernel
theorem dX8_lengthOf_15 : decode cX8_lengthOf 15 = .ok (.istore 4, 2) := by decide +kernel
theorem dX8_lengthOf_17 : decode cX8_lengthOf 17 = .ok (.iconst 0, 1) := by decide +kernel
theorem dX8_lengthOf_18 : decode cX8_lengthOf 18 = .ok (.istore 5, 2) := by decide +kernel
theorem dX8_lengthOf_20 : decode cX8_lengthOf 20 = .ok (.iload 5, 2) := by decide +kernel
theorem dX8_lengthOf_22 : decode cX8_lengthOf 22 = .ok (.aload_n 1, 1) := by decide +kernel
theorem dX8_lengthOf_23 : decode cX8_lengthOf 23 = .ok (.bipush 7, 2) := by decide +kernel
theorem dX8_lengthOf_25 : decode cX8_lengthOf 25 = .ok (.iaload, 1) := by decide +kernel
theorem dX8_lengthOf_26 : decode cX8_lengthOf 26 = .ok (.if_icmp .ge 148, 3) := by decide +kernel
theorem dX8_lengthOf_29 : decode cX8_lengthOf 29 = .ok (.aload_n 1, 1) := by decide +kernel
theorem dX8_lengthOf_30 : decode cX8_lengthOf 30 = .ok (.sipush 324, 3) := by decide +kernel
theorem dX8_lengthOf_33 : decode cX8_lengthOf 33 = .ok (.iload 5, 2) := by decide +kernel
theorem dX8_lengthOf_35 : decode cX8_lengthOf 35 = .ok (.iadd, 1) := by decide +kernel
theorem dX8_lengthOf_36 : decode cX8_lengthOf 36 = .ok (.iaload, 1) := by decide +kernel
theorem dX8_lengthOf_37 : decode cX8_lengthOf 37 = .ok (.istore 6, 2) := by decide +kernel
theorem dX8_lengthOf_39 : decode cX8_lengthOf 39 = .ok (.iload 6, 2) := by decide +kernel
theorem dX8_lengthOf_41 : decode cX8_lengthOf 41 = .ok (.iconst 1, 1) := by decide +kernel
theorem dX8_lengthOf_42 : decode cX8_lengthOf 42 = .ok (.if_icmp .gt 93, 3) := by decide +kernel
theorem dX8_lengthOf_45 : decode cX8_lengthOf 45 = .ok (.iinc 5 1, 3) := by decide +kernel
theorem dX8_lengthOf_48 : decode cX8_lengthOf 48 = .ok (.aload_n 1, 1) := by decide +kernel
theorem dX8_lengthOf_49 : decode cX8_lengthOf 49 = .ok (.sipush 324, 3) := by decide +kernel
theorem dX8_lengthOf_52 : decode cX8_lengthOf 52 = .ok (.iload 5, 2) := by decide +kernel
theorem dX8_lengthOf_54 : decode cX8_lengthOf 54 = .ok (.iadd, 1) := by decide +kernel
theorem dX8_lengthOf_55 : decode cX8_lengthOf 55 = .ok (.iaload, 1) := by decide +kernel
theorem dX8_lengthOf_56 : decode cX8_lengthOf 56 = .ok (.istore 7, 2) := by decide +kernel
theorem dX8_lengthOf_58 : decode cX8_lengthOf 58 = .ok (.aload_n 0, 1) := by decide +kernel
theorem dX8_lengthOf_59 : decode cX8_lengthOf 59 = .ok (.getfield 31, 3) := by decide +kernel
theorem dX8_lengthOf_62 : decode cX8_lengthOf 62 = .ok (.iload 4, 2) := by decide +kernel
theorem dX8_lengthOf_64 : decode cX8_lengthOf 64 = .ok (.iload 6, 2) := by decide +kernel
theorem dX8_lengthOf_66 : decode cX8_lengthOf 66 = .ok (.ifCond .ne 9, 3) := by decide +kernel
theorem dX8_lengthOf_69 : decode cX8_lengthOf 69 = .ok (.iload 7, 2) := by decide +kernel
theorem dX8_lengthOf_71 : decode cX8_lengthOf 71 = .ok (.i2l, 1) := by decide +kernel
theorem dX8_lengthOf_72 : decode cX8_lengthOf 72 = .ok (.goto 56, 3) := by decide +kernel
theorem dX8_lengthOf_75 : decode cX8_lengthOf 75 = .ok (.iload 7, 2) := by decide +kernel
theorem dX8_lengthOf_77 : decode cX8_lengthOf 77 = .ok (.ifCond .ne 13, 3) := by decide +kernel
theorem dX8_lengthOf_80 : decode cX8_lengthOf 80 = .ok (.aload_n 1, 1) := by decide +kernel
theorem dX8_lengthOf_81 : decode cX8_lengthOf 81 = .ok (.iload_n 2, 1) := by decide +kernel
theorem dX8_lengthOf_82 : decode cX8_lengthOf 82 = .ok (.invokestatic 136, 3) := by decide +kernel
theorem dX8_lengthOf_85 : decode cX8_lengthOf 85 = .ok (.iaload, 1) := by decide +kernel
theorem dX8_lengthOf_86 : decode cX8_lengthOf 86 = .ok (.i2l, 1) := by decide +kernel
theorem dX8_lengthOf_87 : decode cX8_lengthOf 87 = .ok (.goto 41, 3) := by decide +kernel
theorem dX8_lengthOf_90 : decode cX8_lengthOf 90 = .ok (.iload 7, 2) := by decide +kernel
theorem dX8_lengthOf_92 : decode cX8_lengthOf 92 = .ok (.iconst 1, 1) := by decide +kernel
theorem dX8_lengthOf_93 : decode cX8_lengthOf 93 = .ok (.if_icmp .ne 15, 3) := by decide +kernel
theorem dX8_lengthOf_96 : decode cX8_lengthOf 96 = .ok (.aload_n 1, 1) := by decide +kernel
theorem dX8_lengthOf_97 : decode cX8_lengthOf 97 = .ok (.iload_n 2, 1) := by decide +kernel
theorem dX8_lengthOf_98 : decode cX8_lengthOf 98 = .ok (.invokestatic 136, 3) := by decide +kernel
theorem dX8_lengthOf_101 : decode cX8_lengthOf 101 = .ok (.iconst 1, 1) := by decide +kernel
theorem dX8_lengthOf_102 : decode cX8_lengthOf 102 = .ok (.iadd, 1) := by decide +kernel
theorem dX8_lengthOf_103 : decode cX8_lengthOf 103 = .ok (.iaload, 1) := by decide +kernel
theorem dX8_lengthOf_104 : decode cX8_lengthOf 104 = .ok (.i2l, 1) := by decide +kernel
theorem dX8_lengthOf_105 : decode cX8_lengthOf 105 = .ok (.goto 23, 3) := by decide +kernel
theorem dX8_lengthOf_108 : decode cX8_lengthOf 108 = .ok (.iload 7, 2) := by decide +kernel
theorem dX8_lengthOf_110 : decode cX8_lengthOf 110 = .ok (.iconst 2, 1) := by decide +kernel
theorem dX8_lengthOf_111 : decode cX8_lengthOf 111 = .ok (.if_icmp .ne 8, 3) := by decide +kernel
theorem dX8_lengthOf_114 : decode cX8_lengthOf 114 = .ok (.iload_n 3, 1) := by decide +kernel
theorem dX8_lengthOf_115 : decode cX8_lengthOf 115 = .ok (.i2l, 1) := by decide +kernel
theorem dX8_lengthOf_116 : decode cX8_lengthOf 116 = .ok (.goto 12, 3) := by decide +kernel
theorem dX8_lengthOf_119 : decode cX8_lengthOf 119 = .ok (.aload_n 1, 1) := by decide +kernel
theorem dX8_lengthOf_120 : decode cX8_lengthOf 120 = .ok (.iload_n 3, 1) := by decide +kernel
theorem dX8_lengthOf_121 : decode cX8_lengthOf 121 = .ok (.invokestatic 41, 3) := by decide +kernel
theorem dX8_lengthOf_124 : decode cX8_lengthOf 124 = .ok (.iconst 4, 1) := by decide +kernel
theorem dX8_lengthOf_125 : decode cX8_lengthOf 125 = .ok (.iadd, 1) := by decide +kernel
theorem dX8_lengthOf_126 : decode cX8_lengthOf 126 = .ok (.iaload, 1) := by decide +kernel
theorem dX8_lengthOf_127 : decode cX8_lengthOf 127 = .ok (.i2l, 1) := by decide +kernel
theorem dX8_lengthOf_128 : decode cX8_lengthOf 128 = .ok (.lastore, 1) := by decide +kernel
theorem dX8_lengthOf_129 : decode cX8_lengthOf 129 = .ok (.iinc 4 1, 3) := by decide +kernel
theorem dX8_lengthOf_132 : decode cX8_lengthOf 132 = .ok (.goto 36, 3) := by decide +kernel
theorem dX8_lengthOf_135 : decode cX8_lengthOf 135 = .ok (.iinc 4 (-1), 3) := by decide +kernel
theorem dX8_lengthOf_138 : decode cX8_lengthOf 138 = .ok (.aload_n 0, 1) := by decide +kernel
theorem dX8_lengthOf_139 : decode cX8_lengthOf 139 = .ok (.getfield 31, 3) := by decide +kernel
theorem dX8_lengthOf_142 : decode cX8_lengthOf 142 = .ok (.iload 4, 2) := by decide +kernel
theorem dX8_lengthOf_144 : decode cX8_lengthOf 144 = .ok (.iconst 1, 1) := by decide +kernel
theorem dX8_lengthOf_145 : decode cX8_lengthOf 145 = .ok (.isub, 1) := by decide +kernel
theorem dX8_lengthOf_146 : decode cX8_lengthOf 146 = .ok (.iload 6, 2) := by decide +kernel
theorem dX8_lengthOf_148 : decode cX8_lengthOf 148 = .ok (.aload_n 0, 1) := by decide +kernel
theorem dX8_lengthOf_149 : decode cX8_lengthOf 149 = .ok (.getfield 31, 3) := by decide +kernel
theorem dX8_lengthOf_152 : decode cX8_lengthOf 152 = .ok (.iload 4, 2) := by decide +kernel
theorem dX8_lengthOf_154 : decode cX8_lengthOf 154 = .ok (.iconst 1, 1) := by decide +kernel
theorem dX8_lengthOf_155 : decode cX8_lengthOf 155 = .ok (.isub, 1) := by decide +kernel
theorem dX8_lengthOf_156 : decode cX8_lengthOf 156 = .ok (.laload, 1) := by decide +kernel
theorem dX8_lengthOf_157 : decode cX8_lengthOf 157 = .ok (.aload_n 0, 1) := by decide +kernel
theorem dX8_lengthOf_158 : decode cX8_lengthOf 158 = .ok (.getfield 31, 3) := by decide +kernel
theorem dX8_lengthOf_161 : decode cX8_lengthOf 161 = .ok (.iload 4, 2) := by decide +kernel
theorem dX8_lengthOf_163 : decode cX8_lengthOf 163 = .ok (.laload, 1) := by decide +kernel
theorem dX8_lengthOf_164 : decode cX8_lengthOf 164 = .ok (.invokestatic 190, 3) := by decide +kernel
theorem dX8_lengthOf_167 : decode cX8_lengthOf 167 = .ok (.lastore, 1) := by decide +kernel
theorem dX8_lengthOf_168 : decode cX8_lengthOf 168 = .ok (.iinc 5 1, 3) := by decide +kernel
theorem dX8_lengthOf_171 : decode cX8_lengthOf 171 = .ok (.goto (-151), 3) := by decide +kernel
theorem dX8_lengthOf_174 : decode cX8_lengthOf 174 = .ok (.aload_n 0, 1) := by decide +kernel
theorem dX8_lengthOf_175 : decode cX8_lengthOf 175 = .ok (.getfield 31, 3) := by decide +kernel
theorem dX8_lengthOf_178 : decode cX8_lengthOf 178 = .ok (.iconst 0, 1) := by decide +kernel
theorem dX8_lengthOf_179 : decode cX8_lengthOf 179 = .ok (.laload, 1) := by decide +kernel
theorem dX8_lengthOf_180 : decode cX8_lengthOf 180 = .ok (.lconst 1, 1) := by decide +kernel
theorem dX8_lengthOf_181 : decode cX8_lengthOf 181 = .ok (.lcmp, 1) := by decide +kernel
theorem dX8_lengthOf_182 : decode cX8_lengthOf 182 = .ok (.ifCond .ge 7, 3) := by decide +kernel
theorem dX8_lengthOf_185 : decode cX8_lengthOf 185 = .ok (.iconst 1, 1) := by decide +kernel
theorem dX8_lengthOf_186 : decode cX8_lengthOf 186 = .ok (.goto 29, 3) := by decide +kernel
theorem dX8_lengthOf_189 : decode cX8_lengthOf 189 = .ok (.aload_n 0, 1) := by decide +kernel
theorem dX8_lengthOf_190 : decode cX8_lengthOf 190 = .ok (.getfield 31, 3) := by decide +kernel
theorem dX8_lengthOf_193 : decode cX8_lengthOf 193 = .ok (.iconst 0, 1) := by decide +kernel
theorem dX8_lengthOf_194 : decode cX8_lengthOf 194 = .ok (.laload, 1) := by decide +kernel
theorem dX8_lengthOf_195 : decode cX8_lengthOf 195 = .ok (.ldc2_w 194, 3) := by decide +kernel
theorem dX8_lengthOf_198 : decode cX8_lengthOf 198 = .ok (.lcmp, 1) := by decide +kernel
theorem dX8_lengthOf_199 : decode cX8_lengthOf 199 = .ok (.ifCond .le 9, 3) := by decide +kernel
theorem dX8_lengthOf_202 : decode cX8_lengthOf 202 = .ok (.sipush 999, 3) := by decide +kernel
theorem dX8_lengthOf_205 : decode cX8_lengthOf 205 = .ok (.goto 10, 3) := by decide +kernel
theorem dX8_lengthOf_208 : decode cX8_lengthOf 208 = .ok (.aload_n 0, 1) := by decide +kernel
theorem dX8_lengthOf_209 : decode cX8_lengthOf 209 = .ok (.getfield 31, 3) := by decide +kernel
theorem dX8_lengthOf_212 : decode cX8_lengthOf 212 = .ok (.iconst 0, 1) := by decide +kernel
theorem dX8_lengthOf_213 : decode cX8_lengthOf 213 = .ok (.laload, 1) := by decide +kernel
theorem dX8_lengthOf_214 : decode cX8_lengthOf 214 = .ok (.l2i, 1) := by decide +kernel
theorem dX8_lengthOf_215 : decode cX8_lengthOf 215 = .ok (.ireturn, 1) := by decide +kernel
theorem dX8_isFinished_0 : decode cX8_isFinished 0 = .ok (.aload_n 0, 1) := by decide +kernel
theorem dX8_isFinished_1 : decode cX8_isFinished 1 = .ok (.iload_n 1, 1) := by decide +kernel
theorem dX8_isFinished_2 : decode cX8_isFinished 2 = .ok (.invokestatic 136, 3) := by decide +kernel
theorem dX8_isFinished_5 : decode cX8_isFinished 5 = .ok (.iconst 4, 1) := by decide +kernel
theorem dX8_isFinished_6 : decode cX8_isFinished 6 = .ok (.iadd, 1) := by decide +kernel
theorem dX8_isFinished_7 : decode cX8_isFinished 7 = .ok (.iaload, 1) := by decide +kernel
theorem dX8_isFinished_8 : decode cX8_isFinished 8 = .ok (.iconst 4, 1) := by decide +kernel
theorem dX8_isFinished_9 : decode cX8_isFinished 9 = .ok (.if_icmp .lt 7, 3) := by decide +kernel
theorem dX8_isFinished_12 : decode cX8_isFinished 12 = .ok (.iconst 1, 1) := by decide +kernel
theorem dX8_isFinished_13 : decode cX8_isFinished 13 = .ok (.goto 4, 3) := by decide +kernel
theorem dX8_isFinished_16 : decode cX8_isFinished 16 = .ok (.iconst 0, 1) := by decide +kernel
theorem dX8_isFinished_17 : decode cX8_isFinished 17 = .ok (.ireturn, 1) := by decide +kernel
theorem dX8_isOpened_0 : decode cX8_isOpened 0 = .ok (.iconst 0, 1) := by decide +kernel
theorem dX8_isOpened_1 : decode cX8_isOpened 1 = .ok (.istore_n 2, 1) := by decide +kernel
theorem dX8_isOpened_2 : decode cX8_isOpened 2 = .ok (.iload_n 2, 1) := by decide +kernel
theorem dX8_isOpened_3 : decode cX8_isOpened 3 = .ok (.aload_n 0, 1) := by decide +kernel
theorem dX8_isOpened_4 : decode cX8_isOpened 4 = .ok (.bipush 8, 2) := by decide +kernel
theorem dX8_isOpened_6 : decode cX8_isOpened 6 = .ok (.iload_n 1, 1) := by decide +kernel
theorem dX8_isOpened_7 : decode cX8_isOpened 7 = .ok (.iadd, 1) := by decide +kernel
theorem dX8_isOpened_8 : decode cX8_isOpened 8 = .ok (.iaload, 1) := by decide +kernel
theorem dX8_isOpened_9 : decode cX8_isOpened 9 = .ok (.if_icmp .ge 19, 3) := by decide +kernel
theorem dX8_isOpened_12 : decode cX8_isOpened 12 = .ok (.aload_n 0, 1) := by decide +kernel
theorem dX8_isOpened_13 : decode cX8_isOpened 13 = .ok (.iload_n 2, 1) := by decide +kernel
theorem dX8_isOpened_14 : decode cX8_isOpened 14 = .ok (.invokestatic 196, 3) := by decide +kernel
theorem dX8_isOpened_17 : decode cX8_isOpened 17 = .ok (.ifCond .ne 5, 3) := by decide +kernel
theorem dX8_isOpened_20 : decode cX8_isOpened 20 = .ok (.iconst 0, 1) := by decide +kernel
theorem dX8_isOpened_21 : decode cX8_isOpened 21 = .ok (.ireturn, 1) := by decide +kernel
theorem dX8_isOpened_22 : decode cX8_isOpened 22 = .ok (.iinc 2 1, 3) := by decide +kernel
theorem dX8_isOpened_25 : decode cX8_isOpened 25 = .ok (.goto (-23), 3) := by decide +kernel
theorem dX8_isOpened_28 : decode cX8_isOpened 28 = .ok (.iconst 1, 1) := by decide +kernel
theorem dX8_isOpened_29 : decode cX8_isOpened 29 = .ok (.ireturn, 1) := by decide +kernel
theorem dX8_counterOf_0 : decode cX8_counterOf 0 = .ok (.iconst 0, 1) := by decide +kernel
theorem dX8_counterOf_1 : decode cX8_counterOf 1 = .ok (.istore_n 2, 1) := by decide +kernel
theorem dX8_counterOf_2 : decode cX8_counterOf 2 = .ok (.iconst 0, 1) := by decide +kernel
theorem dX8_counterOf_3 : decode cX8_counterOf 3 = .ok (.istore_n 3, 1) := by decide +kernel
theorem dX8_counterOf_4 : decode cX8_counterOf 4 = .ok (.iload_n 3, 1) := by decide +kernel
theorem dX8_counterOf_5 : decode cX8_counterOf 5 = .ok (.iload_n 1, 1) := by decide +kernel
theorem dX8_counterOf_6 : decode cX8_counterOf 6 = .ok (.if_icmp .ge 41, 3) := by decide +kernel
theorem dX8_counterOf_9 : decode cX8_counterOf 9 = .ok (.iload_n 2, 1) := by decide +kernel
theorem dX8_counterOf_10 : decode cX8_counterOf 10 = .ok (.aload_n 0, 1) := by decide +kernel
theorem dX8_counterOf_11 : decode cX8_counterOf 11 = .ok (.iload_n 1, 1) := by decide +kernel
theorem dX8_counterOf_12 : decode cX8_counterOf 12 = .ok (.invokestatic 136, 3) := by decide +kernel
theorem dX8_counterOf_15 : decode cX8_counterOf 15 = .ok (.iconst 3, 1) := by decide +kernel
theorem dX8_counterOf_16 : decode cX8_counterOf 16 = .ok (.iadd, 1) := by decide +kernel
theorem dX8_counterOf_17 : decode cX8_counterOf 17 = .ok (.iaload, 1) := by decide +kernel
theorem dX8_counterOf_18 : decode cX8_counterOf 18 = .ok (.iload_n 3, 1) := by decide +kernel
theorem dX8_counterOf_19 : decode cX8_counterOf 19 = .ok (.ishr, 1) := by decide +kernel
theorem dX8_counterOf_20 : decode cX8_counterOf 20 = .ok (.iconst 1, 1) := by decide +kernel
theorem dX8_counterOf_21 : decode cX8_counterOf 21 = .ok (.iand, 1) := by decide +kernel
theorem dX8_counterOf_22 : decode cX8_counterOf 22 = .ok (.iconst 1, 1) := by decide +kernel
theorem dX8_counterOf_23 : decode cX8_counterOf 23 = .ok (.if_icmp .ne 15, 3) := by decide +kernel
theorem dX8_counterOf_26 : decode cX8_counterOf 26 = .ok (.aload_n 0, 1) := by decide +kernel
theorem dX8_counterOf_27 : decode cX8_counterOf 27 = .ok (.iload_n 3, 1) := by decide +kernel
theorem dX8_counterOf_28 : decode cX8_counterOf 28 = .ok (.invokestatic 196, 3) := by decide +kernel
theorem dX8_counterOf_31 : decode cX8_counterOf 31 = .ok (.ifCond .ne 7, 3) := by decide +kernel
theorem dX8_counterOf_34 : decode cX8_counterOf 34 = .ok (.iconst 1, 1) := by decide +kernel
theorem dX8_counterOf_35 : decode cX8_counterOf 35 = .ok (.goto 4, 3) := by decide +kernel
theorem dX8_counterOf_38 : decode cX8_counterOf 38 = .ok (.iconst 0, 1) := by decide +kernel
theorem dX8_counterOf_39 : decode cX8_counterOf 39 = .ok (.iadd, 1) := by decide +kernel
theorem dX8_counterOf_40 : decode cX8_counterOf 40 = .ok (.istore_n 2, 1) := by decide +kernel
theorem dX8_counterOf_41 : decode cX8_counterOf 41 = .ok (.iinc 3 1, 3) := by decide +kernel
theorem dX8_counterOf_44 : decode cX8_counterOf 44 = .ok (.goto (-40), 3) := by decide +kernel
theorem dX8_counterOf_47 : decode cX8_counterOf 47 = .ok (.iconst 0, 1) := by decide +kernel
theorem dX8_counterOf_48 : decode cX8_counterOf 48 = .ok (.istore_n 3, 1) := by decide +kernel
theorem dX8_counterOf_49 : decode cX8_counterOf 49 = .ok (.iload_n 3, 1) := by decide +kernel
theorem dX8_counterOf_50 : decode cX8_counterOf 50 = .ok (.aload_n 0, 1) := by decide +kernel
theorem dX8_counterOf_51 : decode cX8_counterOf 51 = .ok (.iconst 4, 1) := by decide +kernel
theorem dX8_counterOf_52 : decode cX8_counterOf 52 = .ok (.iaload, 1) := by decide +kernel
theorem dX8_counterOf_53 : decode cX8_counterOf 53 = .ok (.if_icmp .ge 35, 3) := by decide +kernel
theorem dX8_counterOf_56 : decode cX8_counterOf 56 = .ok (.iload_n 2, 1) := by decide +kernel
theorem dX8_counterOf_57 : decode cX8_counterOf 57 = .ok (.aload_n 0, 1) := by decide +kernel
theorem dX8_counterOf_58 : decode cX8_counterOf 58 = .ok (.bipush 8, 2) := by decide +kernel
theorem dX8_counterOf_60 : decode cX8_counterOf 60 = .ok (.iload_n 3, 1) := by decide +kernel
theorem dX8_counterOf_61 : decode cX8_counterOf 61 = .ok (.iadd, 1) := by decide +kernel
theorem dX8_counterOf_62 : decode cX8_counterOf 62 = .ok (.iaload, 1) := by decide +kernel
theorem dX8_counterOf_63 : decode cX8_counterOf 63 = .ok (.iload_n 1, 1) := by decide +kernel
theorem dX8_counterOf_64 : decode cX8_counterOf 64 = .ok (.if_icmp .gt 15, 3) := by decide +kernel
theorem dX8_counterOf_67 : decode cX8_counterOf 67 = .ok (.aload_n 0, 1) := by decide +kernel
theorem dX8_counterOf_68 : decode cX8_counterOf 68 = .ok (.iload_n 3, 1) := by decide +kernel
theorem dX8_counterOf_69 : decode cX8_counterOf 69 = .ok (.invokestatic 200, 3) := by decide +kernel
theorem dX8_counterOf_72 : decode cX8_counterOf 72 = .ok (.ifCond .ne 7, 3) := by decide +kernel
theorem dX8_counterOf_75 : decode cX8_counterOf 75 = .ok (.iconst 1, 1) := by decide +kernel
theorem dX8_counterOf_76 : decode cX8_counterOf 76 = .ok (.goto 4, 3) := by decide +kernel
theorem dX8_counterOf_79 : decode cX8_counterOf 79 = .ok (.iconst 0, 1) := by decide +kernel
theorem dX8_counterOf_80 : decode cX8_counterOf 80 = .ok (.iadd, 1) := by decide +kernel
theorem dX8_counterOf_81 : decode cX8_counterOf 81 = .ok (.istore_n 2, 1) := by decide +kernel
theorem dX8_counterOf_82 : decode cX8_counterOf 82 = .ok (.iinc 3 1, 3) := by decide +kernel
theorem dX8_counterOf_85 : decode cX8_counterOf 85 = .ok (.goto (-36), 3) := by decide +kernel
theorem dX8_counterOf_88 : decode cX8_counterOf 88 = .ok (.iload_n 2, 1) := by decide +kernel
theorem dX8_counterOf_89 : decode cX8_counterOf 89 = .ok (.ireturn, 1) := by decide +kernel
theorem dX8_finishedOf_0 : decode cX8_finishedOf 0 = .ok (.iconst 0, 1) := by decide +kernel
theorem dX8_finishedOf_1 : decode cX8_finishedOf 1 = .ok (.istore_n 1, 1) := by decide +kernel
theorem dX8_finishedOf_2 : decode cX8_finishedOf 2 = .ok (.iconst 0, 1) := by decide +kernel
theorem dX8_finishedOf_3 : decode cX8_finishedOf 3 = .ok (.istore_n 2, 1) := by decide +kernel
theorem dX8_finishedOf_4 : decode cX8_finishedOf 4 = .ok (.iload_n 2, 1) := by decide +kernel
theorem dX8_finishedOf_5 : decode cX8_finishedOf 5 = .ok (.aload_n 0, 1) := by decide +kernel
theorem dX8_finishedOf_6 : decode cX8_finishedOf 6 = .ok (.iconst 3, 1) := by decide +kernel
theorem dX8_finishedOf_7 : decode cX8_finishedOf 7 = .ok (.iaload, 1) := by decide +kernel
theorem dX8_finishedOf_8 : decode cX8_finishedOf 8 = .ok (.if_icmp .ge 25, 3) := by decide +kernel
theorem dX8_finishedOf_11 : decode cX8_finishedOf 11 = .ok (.iload_n 1, 1) := by decide +kernel
theorem dX8_finishedOf_12 : decode cX8_finishedOf 12 = .ok (.aload_n 0, 1) := by decide +kernel
theorem dX8_finishedOf_13 : decode cX8_finishedOf 13 = .ok (.iload_n 2, 1) := by decide +kernel
theorem dX8_finishedOf_14 : decode cX8_finishedOf 14 = .ok (.invokestatic 196, 3) := by decide +kernel
theorem dX8_finishedOf_17 : decode cX8_finishedOf 17 = .ok (.ifCond .eq 7, 3) := by decide +kernel
theorem dX8_finishedOf_20 : decode cX8_finishedOf 20 = .ok (.iconst 1, 1) := by decide +kernel
theorem dX8_finishedOf_21 : decode cX8_finishedOf 21 = .ok (.goto 4, 3) := by decide +kernel
theorem dX8_finishedOf_24 : decode cX8_finishedOf 24 = .ok (.iconst 0, 1) := by decide +kernel
theorem dX8_finishedOf_25 : decode cX8_finishedOf 25 = .ok (.iadd, 1) := by decide +kernel
theorem dX8_finishedOf_26 : decode cX8_finishedOf 26 = .ok (.istore_n 1, 1) := by decide +kernel
theorem dX8_finishedOf_27 : decode cX8_finishedOf 27 = .ok (.iinc 2 1, 3) := by decide +kernel
theorem dX8_finishedOf_30 : decode cX8_finishedOf 30 = .ok (.goto (-26), 3) := by decide +kernel
theorem dX8_finishedOf_33 : decode cX8_finishedOf 33 = .ok (.iload_n 1, 1) := by decide +kernel
theorem dX8_finishedOf_34 : decode cX8_finishedOf 34 = .ok (.ireturn, 1) := by decide +kernel
theorem dX8_goOn_0 : decode cX8_goOn 0 = .ok (.iconst 0, 1) := by decide +kernel
theorem dX8_goOn_1 : decode cX8_goOn 1 = .ok (.istore_n 1, 1) := by decide +kernel
theorem dX8_goOn_2 : decode cX8_goOn 2 = .ok (.iconst 0, 1) := by decide +kernel
theorem dX8_goOn_3 : decode cX8_goOn 3 = .ok (.istore_n 2, 1) := by decide +kernel
theorem dX8_goOn_4 : decode cX8_goOn 4 = .ok (.iload_n 2, 1) := by decide +kernel
theorem dX8_goOn_5 : decode cX8_goOn 5 = .ok (.aload_n 0, 1) := by decide +kernel
theorem dX8_goOn_6 : decode cX8_goOn 6 = .ok (.iconst 0, 1) := by decide +kernel
theorem dX8_goOn_7 : decode cX8_goOn 7 = .ok (.iaload, 1) := by decide +kernel
theorem dX8_goOn_8 : decode cX8_goOn 8 = .ok (.if_icmp .ge 85, 3) := by decide +kernel
theorem dX8_goOn_11 : decode cX8_goOn 11 = .ok (.aload_n 0, 1) := by decide +kernel
theorem dX8_goOn_12 : decode cX8_goOn 12 = .ok (.iload_n 2, 1) := by decide +kernel
theorem dX8_goOn_13 : decode cX8_goOn 13 = .ok (.invokestatic 41, 3) := by decide +kernel
theorem dX8_goOn_16 : decode cX8_goOn 16 = .ok (.iconst 0, 1) := by decide +kernel
theorem dX8_goOn_17 : decode cX8_goOn 17 = .ok (.iadd, 1) := by decide +kernel
theorem dX8_goOn_18 : decode cX8_goOn 18 = .ok (.iaload, 1) := by decide +kernel
theorem dX8_goOn_19 : decode cX8_goOn 19 = .ok (.istore_n 3, 1) := by decide +kernel
theorem dX8_goOn_20 : decode cX8_goOn 20 = .ok (.iload_n 3, 1) := by decide +kernel
theorem dX8_goOn_21 : decode cX8_goOn 21 = .ok (.iconst (-1), 1) := by decide +kernel
theorem dX8_goOn_22 : decode cX8_goOn 22 = .ok (.if_icmp .ne 6, 3) := by decide +kernel
theorem dX8_goOn_25 : decode cX8_goOn 25 = .ok (.goto 62, 3) := by decide +kernel
theorem dX8_goOn_28 : decode cX8_goOn 28 = .ok (.aload_n 0, 1) := by decide +kernel
theorem dX8_goOn_29 : decode cX8_goOn 29 = .ok (.iload_n 3, 1) := by decide +kernel
theorem dX8_goOn_30 : decode cX8_goOn 30 = .ok (.invokestatic 136, 3) := by decide +kernel
theorem dX8_goOn_33 : decode cX8_goOn 33 = .ok (.iconst 5, 1) := by decide +kernel
theorem dX8_goOn_34 : decode cX8_goOn 34 = .ok (.iadd, 1) := by decide +kernel
theorem dX8_goOn_35 : decode cX8_goOn 35 = .ok (.dup2, 1) := by decide +kernel
theorem dX8_goOn_36 : decode cX8_goOn 36 = .ok (.iaload, 1) := by decide +kernel
theorem dX8_goOn_37 : decode cX8_goOn 37 = .ok (.iconst 1, 1) := by decide +kernel
theorem dX8_goOn_38 : decode cX8_goOn 38 = .ok (.isub, 1) := by decide +kernel
theorem dX8_goOn_39 : decode cX8_goOn 39 = .ok (.iastore, 1) := by decide +kernel
theorem dX8_goOn_40 : decode cX8_goOn 40 = .ok (.aload_n 0, 1) := by decide +kernel
theorem dX8_goOn_41 : decode cX8_goOn 41 = .ok (.iload_n 3, 1) := by decide +kernel
theorem dX8_goOn_42 : decode cX8_goOn 42 = .ok (.invokestatic 136, 3) := by decide +kernel
theorem dX8_goOn_45 : decode cX8_goOn 45 = .ok (.iconst 5, 1) := by decide +kernel
theorem dX8_goOn_46 : decode cX8_goOn 46 = .ok (.iadd, 1) := by decide +kernel
theorem dX8_goOn_47 : decode cX8_goOn 47 = .ok (.iaload, 1) := by decide +kernel
theorem dX8_goOn_48 : decode cX8_goOn 48 = .ok (.ifCond .le 6, 3) := by decide +kernel
theorem dX8_goOn_51 : decode cX8_goOn 51 = .ok (.goto 36, 3) := by decide +kernel
theorem dX8_goOn_54 : decode cX8_goOn 54 = .ok (.aload_n 0, 1) := by decide +kernel
theorem dX8_goOn_55 : decode cX8_goOn 55 = .ok (.iload_n 3, 1) := by decide +kernel
theorem dX8_goOn_56 : decode cX8_goOn 56 = .ok (.invokestatic 136, 3) := by decide +kernel
theorem dX8_goOn_59 : decode cX8_goOn 59 = .ok (.iconst 4, 1) := by decide +kernel
theorem dX8_goOn_60 : decode cX8_goOn 60 = .ok (.iadd, 1) := by decide +kernel
theorem dX8_goOn_61 : decode cX8_goOn 61 = .ok (.iconst 4, 1) := by decide +kernel
theorem dX8_goOn_62 : decode cX8_goOn 62 = .ok (.iastore, 1) := by decide +kernel
theorem dX8_goOn_63 : decode cX8_goOn 63 = .ok (.aload_n 0, 1) := by decide +kernel
theorem dX8_goOn_64 : decode cX8_goOn 64 = .ok (.iload_n 3, 1) := by decide +kernel
theorem dX8_goOn_65 : decode cX8_goOn 65 = .ok (.invokestatic 136, 3) := by decide +kernel
theorem dX8_goOn_68 : decode cX8_goOn 68 = .ok (.bipush 7, 2) := by decide +kernel
theorem dX8_goOn_70 : decode cX8_goOn 70 = .ok (.iadd, 1) := by decide +kernel
theorem dX8_goOn_71 : decode cX8_goOn 71 = .ok (.aload_n 0, 1) := by decide +kernel
theorem dX8_goOn_72 : decode cX8_goOn 72 = .ok (.iconst 5, 1) := by decide +kernel
theorem dX8_goOn_73 : decode cX8_goOn 73 = .ok (.iaload, 1) := by decide +kernel
theorem dX8_goOn_74 : decode cX8_goOn 74 = .ok (.iastore, 1) := by decide +kernel
theorem dX8_goOn_75 : decode cX8_goOn 75 = .ok (.aload_n 0, 1) := by decide +kernel
theorem dX8_goOn_76 : decode cX8_goOn 76 = .ok (.iload_n 2, 1) := by decide +kernel
theorem dX8_goOn_77 : decode cX8_goOn 77 = .ok (.invokestatic 41, 3) := by decide +kernel
theorem dX8_goOn_80 : decode cX8_goOn 80 = .ok (.iconst 0, 1) := by decide +kernel
theorem dX8_goOn_81 : decode cX8_goOn 81 = .ok (.iadd, 1) := by decide +kernel
theorem dX8_goOn_82 : decode cX8_goOn 82 = .ok (.iconst (-1), 1) := by decide +kernel
theorem dX8_goOn_83 : decode cX8_goOn 83 = .ok (.iastore, 1) := by decide +kernel
theorem dX8_goOn_84 : decode cX8_goOn 84 = .ok (.iinc 1 1, 3) := by decide +kernel
theorem dX8_goOn_87 : decode cX8_goOn 87 = .ok (.iinc 2 1, 3) := by decide +kernel
theorem dX8_goOn_90 : decode cX8_goOn 90 = .ok (.goto (-86), 3) := by decide +kernel
theorem dX8_goOn_93 : decode cX8_goOn 93 = .ok (.iload_n 1, 1) := by decide +kernel
theorem dX8_goOn_94 : decode cX8_goOn 94 = .ok (.ireturn, 1) := by decide +kernel
theorem dX8_coreFor_0 : decode cX8_coreFor 0 = .ok (.aload_n 0, 1) := by decide +kernel
theorem dX8_coreFor_1 : decode cX8_coreFor 1 = .ok (.iload_n 1, 1) := by decide +kernel
theorem dX8_coreFor_2 : decode cX8_coreFor 2 = .ok (.invokestatic 136, 3) := by decide +kernel
theorem dX8_coreFor_5 : decode cX8_coreFor 5 = .ok (.iconst 2, 1) := by decide +kernel
theorem dX8_coreFor_6 : decode cX8_coreFor 6 = .ok (.iadd, 1) := by decide +kernel
theorem dX8_coreFor_7 : decode cX8_coreFor 7 = .ok (.iaload, 1) := by decide +kernel
theorem dX8_coreFor_8 : decode cX8_coreFor 8 = .ok (.istore_n 2, 1) := by decide +kernel
theorem dX8_coreFor_9 : decode cX8_coreFor 9 = .ok (.aload_n 0, 1) := by decide +kernel
theorem dX8_coreFor_10 : decode cX8_coreFor 10 = .ok (.iload_n 2, 1) := by decide +kernel
theorem dX8_coreFor_11 : decode cX8_coreFor 11 = .ok (.invokestatic 41, 3) := by decide +kernel
theorem dX8_coreFor_14 : decode cX8_coreFor 14 = .ok (.iconst 4, 1) := by decide +kernel
theorem dX8_coreFor_15 : decode cX8_coreFor 15 = .ok (.iadd, 1) := by decide +kernel
theorem dX8_coreFor_16 : decode cX8_coreFor 16 = .ok (.iaload, 1) := by decide +kernel
theorem dX8_coreFor_17 : decode cX8_coreFor 17 = .ok (.aload_n 0, 1) := by decide +kernel
theorem dX8_coreFor_18 : decode cX8_coreFor 18 = .ok (.iconst 1, 1) := by decide +kernel
theorem dX8_coreFor_19 : decode cX8_coreFor 19 = .ok (.iaload, 1) := by decide +kernel
theorem dX8_coreFor_20 : decode cX8_coreFor 20 = .ok (.if_icmp .ge 5, 3) := by decide +kernel
theorem dX8_coreFor_23 : decode cX8_coreFor 23 = .ok (.iload_n 2, 1) := by decide +kernel
theorem dX8_coreFor_24 : decode cX8_coreFor 24 = .ok (.ireturn, 1) := by decide +kernel
theorem dX8_coreFor_25 : decode cX8_coreFor 25 = .ok (.iconst (-1), 1) := by decide +kernel
theorem dX8_coreFor_26 : decode cX8_coreFor 26 = .ok (.istore_n 3, 1) := by decide +kernel
theorem dX8_coreFor_27 : decode cX8_coreFor 27 = .ok (.iconst 0, 1) := by decide +kernel
theorem dX8_coreFor_28 : decode cX8_coreFor 28 = .ok (.istore 4, 2) := by decide +kernel
theorem dX8_coreFor_30 : decode cX8_coreFor 30 = .ok (.iload 4, 2) := by decide +kernel
theorem dX8_coreFor_32 : decode cX8_coreFor 32 = .ok (.aload_n 0, 1) := by decide +kernel
theorem dX8_coreFor_33 : decode cX8_coreFor 33 = .ok (.iconst 0, 1) := by decide +kernel
theorem dX8_coreFor_34 : decode cX8_coreFor 34 = .ok (.iaload, 1) := by decide +kernel
theorem dX8_coreFor_35 : decode cX8_coreFor 35 = .ok (.if_icmp .ge 52, 3) := by decide +kernel
theorem dX8_coreFor_38 : decode cX8_coreFor 38 = .ok (.aload_n 0, 1) := by decide +kernel
theorem dX8_coreFor_39 : decode cX8_coreFor 39 = .ok (.iload 4, 2) := by decide +kernel
theorem dX8_coreFor_41 : decode cX8_coreFor 41 = .ok (.invokestatic 41, 3) := by decide +kernel
theorem dX8_coreFor_44 : decode cX8_coreFor 44 = .ok (.iconst 4, 1) := by decide +kernel
theorem dX8_coreFor_45 : decode cX8_coreFor 45 = .ok (.iadd, 1) := by decide +kernel
theorem dX8_coreFor_46 : decode cX8_coreFor 46 = .ok (.iaload, 1) := by decide +kernel
theorem dX8_coreFor_47 : decode cX8_coreFor 47 = .ok (.aload_n 0, 1) := by decide +kernel
theorem dX8_coreFor_48 : decode cX8_coreFor 48 = .ok (.iconst 1, 1) := by decide +kernel
theorem dX8_coreFor_49 : decode cX8_coreFor 49 = .ok (.iaload, 1) := by decide +kernel
theorem dX8_coreFor_50 : decode cX8_coreFor 50 = .ok (.if_icmp .ge 31, 3) := by decide +kernel
theorem dX8_coreFor_53 : decode cX8_coreFor 53 = .ok (.iload_n 3, 1) := by decide +kernel
theorem dX8_coreFor_54 : decode cX8_coreFor 54 = .ok (.iconst (-1), 1) := by decide +kernel
theorem dX8_coreFor_55 : decode cX8_coreFor 55 = .ok (.if_icmp .eq 23, 3) := by decide +kernel
theorem dX8_coreFor_58 : decode cX8_coreFor 58 = .ok (.aload_n 0, 1) := by decide +kernel
theorem dX8_coreFor_59 : decode cX8_coreFor 59 = .ok (.iload 4, 2) := by decide +kernel
theorem dX8_coreFor_61 : decode cX8_coreFor 61 = .ok (.invokestatic 41, 3) := by decide +kernel
theorem dX8_coreFor_64 : decode cX8_coreFor 64 = .ok (.iconst 4, 1) := by decide +kernel
theorem dX8_coreFor_65 : decode cX8_coreFor 65 = .ok (.iadd, 1) := by decide +kernel
theorem dX8_coreFor_66 : decode cX8_coreFor 66 = .ok (.iaload, 1) := by decide +kernel
theorem dX8_coreFor_67 : decode cX8_coreFor 67 = .ok (.aload_n 0, 1) := by decide +kernel
theorem dX8_coreFor_68 : decode cX8_coreFor 68 = .ok (.iload_n 3, 1) := by decide +kernel
theorem dX8_coreFor_69 : decode cX8_coreFor 69 = .ok (.invokestatic 41, 3) := by decide +kernel
theorem dX8_coreFor_72 : decode cX8_coreFor 72 = .ok (.iconst 4, 1) := by decide +kernel
theorem dX8_coreFor_73 : decode cX8_coreFor 73 = .ok (.iadd, 1) := by decide +kernel
theorem dX8_coreFor_74 : decode cX8_coreFor 74 = .ok (.iaload, 1) := by decide +kernel
theorem dX8_coreFor_75 : decode cX8_coreFor 75 = .ok (.if_icmp .ge 6, 3) := by decide +kernel
theorem dX8_coreFor_78 : decode cX8_coreFor 78 = .ok (.iload 4, 2) := by decide +kernel
theorem dX8_coreFor_80 : decode cX8_coreFor 80 = .ok (.istore_n 3, 1) := by decide +kernel
theorem dX8_coreFor_81 : decode cX8_coreFor 81 = .ok (.iinc 4 1, 3) := by decide +kernel
theorem dX8_coreFor_84 : decode cX8_coreFor 84 = .ok (.goto (-54), 3) := by decide +kernel
theorem dX8_coreFor_87 : decode cX8_coreFor 87 = .ok (.iload_n 3, 1) := by decide +kernel
theorem dX8_coreFor_88 : decode cX8_coreFor 88 = .ok (.ireturn, 1) := by decide +kernel
theorem dX8_queueReady_0 : decode cX8_queueReady 0 = .ok (.iconst 0, 1) := by decide +kernel
theorem dX8_queueReady_1 : decode cX8_queueReady 1 = .ok (.istore_n 1, 1) := by decide +kernel
theorem dX8_queueReady_2 : decode cX8_queueReady 2 = .ok (.iload_n 1, 1) := by decide +kernel
theorem dX8_queueReady_3 : decode cX8_queueReady 3 = .ok (.aload_n 0, 1) := by decide +kernel
theorem dX8_queueReady_4 : decode cX8_queueReady 4 = .ok (.iconst 3, 1) := by decide +kernel
theorem dX8_queueReady_5 : decode cX8_queueReady 5 = .ok (.iaload, 1) := by decide +kernel
theorem dX8_queueReady_6 : decode cX8_queueReady 6 = .ok (.if_icmp .ge 37, 3) := by decide +kernel
theorem dX8_queueReady_9 : decode cX8_queueReady 9 = .ok (.aload_n 0, 1) := by decide +kernel
theorem dX8_queueReady_10 : decode cX8_queueReady 10 = .ok (.iload_n 1, 1) := by decide +kernel
theorem dX8_queueReady_11 : decode cX8_queueReady 11 = .ok (.invokestatic 136, 3) := by decide +kernel
theorem dX8_queueReady_14 : decode cX8_queueReady 14 = .ok (.iconst 4, 1) := by decide +kernel
theorem dX8_queueReady_15 : decode cX8_queueReady 15 = .ok (.iadd, 1) := by decide +kernel
theorem dX8_queueReady_16 : decode cX8_queueReady 16 = .ok (.iaload, 1) := by decide +kernel
theorem dX8_queueReady_17 : decode cX8_queueReady 17 = .ok (.ifCond .ne 20, 3) := by decide +kernel
theorem dX8_queueReady_20 : decode cX8_queueReady 20 = .ok (.aload_n 0, 1) := by decide +kernel
theorem dX8_queueReady_21 : decode cX8_queueReady 21 = .ok (.iload_n 1, 1) := by decide +kernel
theorem dX8_queueReady_22 : decode cX8_queueReady 22 = .ok (.invokestatic 203, 3) := by decide +kernel
theorem dX8_queueReady_25 : decode cX8_queueReady 25 = .ok (.ifCond .ne 12, 3) := by decide +kernel
theorem dX8_queueReady_28 : decode cX8_queueReady 28 = .ok (.aload_n 0, 1) := by decide +kernel
theorem dX8_queueReady_29 : decode cX8_queueReady 29 = .ok (.iload_n 1, 1) := by decide +kernel
theorem dX8_queueReady_30 : decode cX8_queueReady 30 = .ok (.invokestatic 136, 3) := by decide +kernel
theorem dX8_queueReady_33 : decode cX8_queueReady 33 = .ok (.iconst 4, 1) := by decide +kernel
theorem dX8_queueReady_34 : decode cX8_queueReady 34 = .ok (.iadd, 1) := by decide +kernel
theorem dX8_queueReady_35 : decode cX8_queueReady 35 = .ok (.iconst 1, 1) := by decide +kernel
theorem dX8_queueReady_36 : decode cX8_queueReady 36 = .ok (.iastore, 1) := by decide +kernel
theorem dX8_queueReady_37 : decode cX8_queueReady 37 = .ok (.iinc 1 1, 3) := by decide +kernel
theorem dX8_queueReady_40 : decode cX8_queueReady 40 = .ok (.goto (-38), 3) := by decide +kernel
theorem dX8_queueReady_43 : decode cX8_queueReady 43 = .ok (.bipush 9, 2) := by decide +kernel
theorem dX8_queueReady_45 : decode cX8_queueReady 45 = .ok (.istore_n 1, 1) := by decide +kernel
theorem dX8_queueReady_46 : decode cX8_queueReady 46 = .ok (.iload_n 1, 1) := by decide +kernel
theorem dX8_queueReady_47 : decode cX8_queueReady 47 = .ok (.ifCond .lt 102, 3) := by decide +kernel
theorem dX8_queueReady_50 : decode cX8_queueReady 50 = .ok (.iconst 0, 1) := by decide +kernel
theorem dX8_queueReady_51 : decode cX8_queueReady 51 = .ok (.istore_n 2, 1) := by decide +kernel
theorem dX8_queueReady_52 : decode cX8_queueReady 52 = .ok (.iload_n 2, 1) := by decide +kernel
theorem dX8_queueReady_53 : decode cX8_queueReady 53 = .ok (.aload_n 0, 1) := by decide +kernel
theorem dX8_queueReady_54 : decode cX8_queueReady 54 = .ok (.iconst 3, 1) := by decide +kernel
theorem dX8_queueReady_55 : decode cX8_queueReady 55 = .ok (.iaload, 1) := by decide +kernel
theorem dX8_queueReady_56 : decode cX8_queueReady 56 = .ok (.if_icmp .ge 87, 3) := by decide +kernel
theorem dX8_queueReady_59 : decode cX8_queueReady 59 = .ok (.aload_n 0, 1) := by decide +kernel
theorem dX8_queueReady_60 : decode cX8_queueReady 60 = .ok (.iload_n 2, 1) := by decide +kernel
theorem dX8_queueReady_61 : decode cX8_queueReady 61 = .ok (.invokestatic 136, 3) := by decide +kernel
theorem dX8_queueReady_64 : decode cX8_queueReady 64 = .ok (.iconst 4, 1) := by decide +kernel
theorem dX8_queueReady_65 : decode cX8_queueReady 65 = .ok (.iadd, 1) := by decide +kernel
theorem dX8_queueReady_66 : decode cX8_queueReady 66 = .ok (.iaload, 1) := by decide +kernel
theorem dX8_queueReady_67 : decode cX8_queueReady 67 = .ok (.iconst 1, 1) := by decide +kernel
theorem dX8_queueReady_68 : decode cX8_queueReady 68 = .ok (.if_icmp .ne 69, 3) := by decide +kernel
theorem dX8_queueReady_71 : decode cX8_queueReady 71 = .ok (.aload_n 0, 1) := by decide +kernel
theorem dX8_queueReady_72 : decode cX8_queueReady 72 = .ok (.iload_n 2, 1) := by decide +kernel
theorem dX8_queueReady_73 : decode cX8_queueReady 73 = .ok (.invokestatic 136, 3) := by decide +kernel
theorem dX8_queueReady_76 : decode cX8_queueReady 76 = .ok (.iconst 1, 1) := by decide +kernel
theorem dX8_queueReady_77 : decode cX8_queueReady 77 = .ok (.iadd, 1) := by decide +kernel
theorem dX8_queueReady_78 : decode cX8_queueReady 78 = .ok (.iaload, 1) := by decide +kernel
theorem dX8_queueReady_79 : decode cX8_queueReady 79 = .ok (.iload_n 1, 1) := by decide +kernel
theorem dX8_queueReady_80 : decode cX8_queueReady 80 = .ok (.if_icmp .eq 6, 3) := by decide +kernel
theorem dX8_queueReady_83 : decode cX8_queueReady 83 = .ok (.goto 54, 3) := by decide +kernel
theorem dX8_queueReady_86 : decode cX8_queueReady 86 = .ok (.aload_n 0, 1) := by decide +kernel
theorem dX8_queueReady_87 : decode cX8_queueReady 87 = .ok (.iload_n 2, 1) := by decide +kernel
theorem dX8_queueReady_88 : decode cX8_queueReady 88 = .ok (.invokestatic 207, 3) := by decide +kernel
theorem dX8_queueReady_91 : decode cX8_queueReady 91 = .ok (.istore_n 3, 1) := by decide +kernel
theorem dX8_queueReady_92 : decode cX8_queueReady 92 = .ok (.iload_n 3, 1) := by decide +kernel
theorem dX8_queueReady_93 : decode cX8_queueReady 93 = .ok (.iconst (-1), 1) := by decide +kernel
theorem dX8_queueReady_94 : decode cX8_queueReady 94 = .ok (.if_icmp .ne 4, 3) := by decide +kernel
theorem dX8_queueReady_97 : decode cX8_queueReady 97 = .ok (.return_, 1) := by decide +kernel
theorem dX8_queueReady_98 : decode cX8_queueReady 98 = .ok (.aload_n 0, 1) := by decide +kernel
theorem dX8_queueReady_99 : decode cX8_queueReady 99 = .ok (.iload_n 3, 1) := by decide +kernel
theorem dX8_queueReady_100 : decode cX8_queueReady 100 = .ok (.invokestatic 41, 3) := by decide +kernel
theorem dX8_queueReady_103 : decode cX8_queueReady 103 = .ok (.iconst 5, 1) := by decide +kernel
theorem dX8_queueReady_104 : decode cX8_queueReady 104 = .ok (.iadd, 1) := by decide +kernel
theorem dX8_queueReady_105 : decode cX8_queueReady 105 = .ok (.aload_n 0, 1) := by decide +kernel
theorem dX8_queueReady_106 : decode cX8_queueReady 106 = .ok (.iload_n 3, 1) := by decide +kernel
theorem dX8_queueReady_107 : decode cX8_queueReady 107 = .ok (.invokestatic 41, 3) := by decide +kernel
theorem dX8_queueReady_110 : decode cX8_queueReady 110 = .ok (.iconst 4, 1) := by decide +kernel
theorem dX8_queueReady_111 : decode cX8_queueReady 111 = .ok (.iadd, 1) := by decide +kernel
theorem dX8_queueReady_112 : decode cX8_queueReady 112 = .ok (.iaload, 1) := by decide +kernel
theorem dX8_queueReady_113 : decode cX8_queueReady 113 = .ok (.iadd, 1) := by decide +kernel
theorem dX8_queueReady_114 : decode cX8_queueReady 114 = .ok (.iload_n 2, 1) := by decide +kernel
theorem dX8_queueReady_115 : decode cX8_queueReady 115 = .ok (.iastore, 1) := by decide +kernel
theorem dX8_queueReady_116 : decode cX8_queueReady 116 = .ok (.aload_n 0, 1) := by decide +kernel
theorem dX8_queueReady_117 : decode cX8_queueReady 117 = .ok (.iload_n 3, 1) := by decide +kernel
theorem dX8_queueReady_118 : decode cX8_queueReady 118 = .ok (.invokestatic 41, 3) := by decide +kernel
theorem dX8_queueReady_121 : decode cX8_queueReady 121 = .ok (.iconst 4, 1) := by decide +kernel
theorem dX8_queueReady_122 : decode cX8_queueReady 122 = .ok (.iadd, 1) := by decide +kernel
theorem dX8_queueReady_123 : decode cX8_queueReady 123 = .ok (.dup2, 1) := by decide +kernel
theorem dX8_queueReady_124 : decode cX8_queueReady 124 = .ok (.iaload, 1) := by decide +kernel
theorem dX8_queueReady_125 : decode cX8_queueReady 125 = .ok (.iconst 1, 1) := by decide +kernel
theorem dX8_queueReady_126 : decode cX8_queueReady 126 = .ok (.iadd, 1) := by decide +kernel
theorem dX8_queueReady_127 : decode cX8_queueReady 127 = .ok (.iastore, 1) := by decide +kernel
theorem dX8_queueReady_128 : decode cX8_queueReady 128 = .ok (.aload_n 0, 1) := by decide +kernel
theorem dX8_queueReady_129 : decode cX8_queueReady 129 = .ok (.iload_n 2, 1) := by decide +kernel
theorem dX8_queueReady_130 : decode cX8_queueReady 130 = .ok (.invokestatic 136, 3) := by decide +kernel
theorem dX8_queueReady_133 : decode cX8_queueReady 133 = .ok (.iconst 4, 1) := by decide +kernel
