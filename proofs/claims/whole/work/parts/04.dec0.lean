theorem dX0_init_0 : decode cX0_init 0 = .ok (.aload_n 0, 1) := by decide +kernel
theorem dX0_init_1 : decode cX0_init 1 = .ok (.invokespecial 3, 3) := by decide +kernel
theorem dX0_init_4 : decode cX0_init 4 = .ok (.aload_n 0, 1) := by decide +kernel
theorem dX0_init_5 : decode cX0_init 5 = .ok (.iconst 0, 1) := by decide +kernel
theorem dX0_init_6 : decode cX0_init 6 = .ok (.putfield 9, 3) := by decide +kernel
theorem dX0_init_9 : decode cX0_init 9 = .ok (.aload_n 0, 1) := by decide +kernel
theorem dX0_init_10 : decode cX0_init 10 = .ok (.iconst 0, 1) := by decide +kernel
theorem dX0_init_11 : decode cX0_init 11 = .ok (.putfield 15, 3) := by decide +kernel
theorem dX0_init_14 : decode cX0_init 14 = .ok (.aload_n 0, 1) := by decide +kernel
theorem dX0_init_15 : decode cX0_init 15 = .ok (.iconst 0, 1) := by decide +kernel
theorem dX0_init_16 : decode cX0_init 16 = .ok (.putfield 18, 3) := by decide +kernel
theorem dX0_init_19 : decode cX0_init 19 = .ok (.aload_n 0, 1) := by decide +kernel
theorem dX0_init_20 : decode cX0_init 20 = .ok (.bipush 32, 2) := by decide +kernel
theorem dX0_init_22 : decode cX0_init 22 = .ok (.newarray .int, 2) := by decide +kernel
theorem dX0_init_24 : decode cX0_init 24 = .ok (.putfield 21, 3) := by decide +kernel
theorem dX0_init_27 : decode cX0_init 27 = .ok (.aload_n 0, 1) := by decide +kernel
theorem dX0_init_28 : decode cX0_init 28 = .ok (.iconst 4, 1) := by decide +kernel
theorem dX0_init_29 : decode cX0_init 29 = .ok (.newarray .int, 2) := by decide +kernel
theorem dX0_init_31 : decode cX0_init 31 = .ok (.putfield 25, 3) := by decide +kernel
theorem dX0_init_34 : decode cX0_init 34 = .ok (.aload_n 0, 1) := by decide +kernel
theorem dX0_init_35 : decode cX0_init 35 = .ok (.iconst 4, 1) := by decide +kernel
theorem dX0_init_36 : decode cX0_init 36 = .ok (.newarray .int, 2) := by decide +kernel
theorem dX0_init_38 : decode cX0_init 38 = .ok (.putfield 28, 3) := by decide +kernel
theorem dX0_init_41 : decode cX0_init 41 = .ok (.aload_n 0, 1) := by decide +kernel
theorem dX0_init_42 : decode cX0_init 42 = .ok (.iconst 4, 1) := by decide +kernel
theorem dX0_init_43 : decode cX0_init 43 = .ok (.newarray .int, 2) := by decide +kernel
theorem dX0_init_45 : decode cX0_init 45 = .ok (.putfield 31, 3) := by decide +kernel
theorem dX0_init_48 : decode cX0_init 48 = .ok (.aload_n 0, 1) := by decide +kernel
theorem dX0_init_49 : decode cX0_init 49 = .ok (.iconst 4, 1) := by decide +kernel
theorem dX0_init_50 : decode cX0_init 50 = .ok (.newarray .int, 2) := by decide +kernel
theorem dX0_init_52 : decode cX0_init 52 = .ok (.putfield 34, 3) := by decide +kernel
theorem dX0_init_55 : decode cX0_init 55 = .ok (.aload_n 0, 1) := by decide +kernel
theorem dX0_init_56 : decode cX0_init 56 = .ok (.iconst 4, 1) := by decide +kernel
theorem dX0_init_57 : decode cX0_init 57 = .ok (.newarray .int, 2) := by decide +kernel
theorem dX0_init_59 : decode cX0_init 59 = .ok (.putfield 37, 3) := by decide +kernel
theorem dX0_init_62 : decode cX0_init 62 = .ok (.aload_n 0, 1) := by decide +kernel
theorem dX0_init_63 : decode cX0_init 63 = .ok (.iconst 4, 1) := by decide +kernel
theorem dX0_init_64 : decode cX0_init 64 = .ok (.newarray .boolean, 2) := by decide +kernel
theorem dX0_init_66 : decode cX0_init 66 = .ok (.putfield 40, 3) := by decide +kernel
theorem dX0_init_69 : decode cX0_init 69 = .ok (.return_, 1) := by decide +kernel
theorem dX0_copyFrom_0 : decode cX0_copyFrom 0 = .ok (.aload_n 0, 1) := by decide +kernel
theorem dX0_copyFrom_1 : decode cX0_copyFrom 1 = .ok (.aload_n 1, 1) := by decide +kernel
theorem dX0_copyFrom_2 : decode cX0_copyFrom 2 = .ok (.getfield 9, 3) := by decide +kernel
theorem dX0_copyFrom_5 : decode cX0_copyFrom 5 = .ok (.putfield 9, 3) := by decide +kernel
theorem dX0_copyFrom_8 : decode cX0_copyFrom 8 = .ok (.aload_n 0, 1) := by decide +kernel
theorem dX0_copyFrom_9 : decode cX0_copyFrom 9 = .ok (.aload_n 1, 1) := by decide +kernel
theorem dX0_copyFrom_10 : decode cX0_copyFrom 10 = .ok (.getfield 15, 3) := by decide +kernel
theorem dX0_copyFrom_13 : decode cX0_copyFrom 13 = .ok (.putfield 15, 3) := by decide +kernel
theorem dX0_copyFrom_16 : decode cX0_copyFrom 16 = .ok (.aload_n 0, 1) := by decide +kernel
theorem dX0_copyFrom_17 : decode cX0_copyFrom 17 = .ok (.aload_n 1, 1) := by decide +kernel
theorem dX0_copyFrom_18 : decode cX0_copyFrom 18 = .ok (.getfield 18, 3) := by decide +kernel
theorem dX0_copyFrom_21 : decode cX0_copyFrom 21 = .ok (.putfield 18, 3) := by decide +kernel
theorem dX0_copyFrom_24 : decode cX0_copyFrom 24 = .ok (.aload_n 1, 1) := by decide +kernel
theorem dX0_copyFrom_25 : decode cX0_copyFrom 25 = .ok (.getfield 21, 3) := by decide +kernel
theorem dX0_copyFrom_28 : decode cX0_copyFrom 28 = .ok (.iconst 0, 1) := by decide +kernel
theorem dX0_copyFrom_29 : decode cX0_copyFrom 29 = .ok (.aload_n 0, 1) := by decide +kernel
theorem dX0_copyFrom_30 : decode cX0_copyFrom 30 = .ok (.getfield 21, 3) := by decide +kernel
theorem dX0_copyFrom_33 : decode cX0_copyFrom 33 = .ok (.iconst 0, 1) := by decide +kernel
theorem dX0_copyFrom_34 : decode cX0_copyFrom 34 = .ok (.bipush 32, 2) := by decide +kernel
theorem dX0_copyFrom_36 : decode cX0_copyFrom 36 = .ok (.invokestatic 44, 3) := by decide +kernel
theorem dX0_copyFrom_39 : decode cX0_copyFrom 39 = .ok (.iconst 0, 1) := by decide +kernel
theorem dX0_copyFrom_40 : decode cX0_copyFrom 40 = .ok (.istore_n 2, 1) := by decide +kernel
theorem dX0_copyFrom_41 : decode cX0_copyFrom 41 = .ok (.iload_n 2, 1) := by decide +kernel
theorem dX0_copyFrom_42 : decode cX0_copyFrom 42 = .ok (.iconst 4, 1) := by decide +kernel
theorem dX0_copyFrom_43 : decode cX0_copyFrom 43 = .ok (.if_icmp .ge 81, 3) := by decide +kernel
theorem dX0_copyFrom_46 : decode cX0_copyFrom 46 = .ok (.aload_n 0, 1) := by decide +kernel
theorem dX0_copyFrom_47 : decode cX0_copyFrom 47 = .ok (.getfield 25, 3) := by decide +kernel
theorem dX0_copyFrom_50 : decode cX0_copyFrom 50 = .ok (.iload_n 2, 1) := by decide +kernel
theorem dX0_copyFrom_51 : decode cX0_copyFrom 51 = .ok (.aload_n 1, 1) := by decide +kernel
theorem dX0_copyFrom_52 : decode cX0_copyFrom 52 = .ok (.getfield 25, 3) := by decide +kernel
theorem dX0_copyFrom_55 : decode cX0_copyFrom 55 = .ok (.iload_n 2, 1) := by decide +kernel
theorem dX0_copyFrom_56 : decode cX0_copyFrom 56 = .ok (.iaload, 1) := by decide +kernel
theorem dX0_copyFrom_57 : decode cX0_copyFrom 57 = .ok (.iastore, 1) := by decide +kernel
theorem dX0_copyFrom_58 : decode cX0_copyFrom 58 = .ok (.aload_n 0, 1) := by decide +kernel
theorem dX0_copyFrom_59 : decode cX0_copyFrom 59 = .ok (.getfield 28, 3) := by decide +kernel
theorem dX0_copyFrom_62 : decode cX0_copyFrom 62 = .ok (.iload_n 2, 1) := by decide +kernel
theorem dX0_copyFrom_63 : decode cX0_copyFrom 63 = .ok (.aload_n 1, 1) := by decide +kernel
theorem dX0_copyFrom_64 : decode cX0_copyFrom 64 = .ok (.getfield 28, 3) := by decide +kernel
theorem dX0_copyFrom_67 : decode cX0_copyFrom 67 = .ok (.iload_n 2, 1) := by decide +kernel
theorem dX0_copyFrom_68 : decode cX0_copyFrom 68 = .ok (.iaload, 1) := by decide +kernel
theorem dX0_copyFrom_69 : decode cX0_copyFrom 69 = .ok (.iastore, 1) := by decide +kernel
theorem dX0_copyFrom_70 : decode cX0_copyFrom 70 = .ok (.aload_n 0, 1) := by decide +kernel
theorem dX0_copyFrom_71 : decode cX0_copyFrom 71 = .ok (.getfield 31, 3) := by decide +kernel
theorem dX0_copyFrom_74 : decode cX0_copyFrom 74 = .ok (.iload_n 2, 1) := by decide +kernel
theorem dX0_copyFrom_75 : decode cX0_copyFrom 75 = .ok (.aload_n 1, 1) := by decide +kernel
theorem dX0_copyFrom_76 : decode cX0_copyFrom 76 = .ok (.getfield 31, 3) := by decide +kernel
theorem dX0_copyFrom_79 : decode cX0_copyFrom 79 = .ok (.iload_n 2, 1) := by decide +kernel
theorem dX0_copyFrom_80 : decode cX0_copyFrom 80 = .ok (.iaload, 1) := by decide +kernel
theorem dX0_copyFrom_81 : decode cX0_copyFrom 81 = .ok (.iastore, 1) := by decide +kernel
theorem dX0_copyFrom_82 : decode cX0_copyFrom 82 = .ok (.aload_n 0, 1) := by decide +kernel
theorem dX0_copyFrom_83 : decode cX0_copyFrom 83 = .ok (.getfield 34, 3) := by decide +kernel
theorem dX0_copyFrom_86 : decode cX0_copyFrom 86 = .ok (.iload_n 2, 1) := by decide +kernel
theorem dX0_copyFrom_87 : decode cX0_copyFrom 87 = .ok (.aload_n 1, 1) := by decide +kernel
theorem dX0_copyFrom_88 : decode cX0_copyFrom 88 = .ok (.getfield 34, 3) := by decide +kernel
theorem dX0_copyFrom_91 : decode cX0_copyFrom 91 = .ok (.iload_n 2, 1) := by decide +kernel
theorem dX0_copyFrom_92 : decode cX0_copyFrom 92 = .ok (.iaload, 1) := by decide +kernel
theorem dX0_copyFrom_93 : decode cX0_copyFrom 93 = .ok (.iastore, 1) := by decide +kernel
theorem dX0_copyFrom_94 : decode cX0_copyFrom 94 = .ok (.aload_n 0, 1) := by decide +kernel
theorem dX0_copyFrom_95 : decode cX0_copyFrom 95 = .ok (.getfield 37, 3) := by decide +kernel
theorem dX0_copyFrom_98 : decode cX0_copyFrom 98 = .ok (.iload_n 2, 1) := by decide +kernel
theorem dX0_copyFrom_99 : decode cX0_copyFrom 99 = .ok (.aload_n 1, 1) := by decide +kernel
theorem dX0_copyFrom_100 : decode cX0_copyFrom 100 = .ok (.getfield 37, 3) := by decide +kernel
theorem dX0_copyFrom_103 : decode cX0_copyFrom 103 = .ok (.iload_n 2, 1) := by decide +kernel
theorem dX0_copyFrom_104 : decode cX0_copyFrom 104 = .ok (.iaload, 1) := by decide +kernel
theorem dX0_copyFrom_105 : decode cX0_copyFrom 105 = .ok (.iastore, 1) := by decide +kernel
theorem dX0_copyFrom_106 : decode cX0_copyFrom 106 = .ok (.aload_n 0, 1) := by decide +kernel
theorem dX0_copyFrom_107 : decode cX0_copyFrom 107 = .ok (.getfield 40, 3) := by decide +kernel
theorem dX0_copyFrom_110 : decode cX0_copyFrom 110 = .ok (.iload_n 2, 1) := by decide +kernel
theorem dX0_copyFrom_111 : decode cX0_copyFrom 111 = .ok (.aload_n 1, 1) := by decide +kernel
theorem dX0_copyFrom_112 : decode cX0_copyFrom 112 = .ok (.getfield 40, 3) := by decide +kernel
theorem dX0_copyFrom_115 : decode cX0_copyFrom 115 = .ok (.iload_n 2, 1) := by decide +kernel
theorem dX0_copyFrom_116 : decode cX0_copyFrom 116 = .ok (.baload, 1) := by decide +kernel
theorem dX0_copyFrom_117 : decode cX0_copyFrom 117 = .ok (.bastore, 1) := by decide +kernel
theorem dX0_copyFrom_118 : decode cX0_copyFrom 118 = .ok (.iinc 2 1, 3) := by decide +kernel
theorem dX0_copyFrom_121 : decode cX0_copyFrom 121 = .ok (.goto (-80), 3) := by decide +kernel
theorem dX0_copyFrom_124 : decode cX0_copyFrom 124 = .ok (.return_, 1) := by decide +kernel
theorem dX0_startAgainOn_0 : decode cX0_startAgainOn 0 = .ok (.aload_n 0, 1) := by decide +kernel
theorem dX0_startAgainOn_1 : decode cX0_startAgainOn 1 = .ok (.iload_n 1, 1) := by decide +kernel
theorem dX0_startAgainOn_2 : decode cX0_startAgainOn 2 = .ok (.iconst 4, 1) := by decide +kernel
theorem dX0_startAgainOn_3 : decode cX0_startAgainOn 3 = .ok (.invokestatic 50, 3) := by decide +kernel
theorem dX0_startAgainOn_6 : decode cX0_startAgainOn 6 = .ok (.putfield 9, 3) := by decide +kernel
theorem dX0_startAgainOn_9 : decode cX0_startAgainOn 9 = .ok (.iconst 0, 1) := by decide +kernel
theorem dX0_startAgainOn_10 : decode cX0_startAgainOn 10 = .ok (.istore_n 2, 1) := by decide +kernel
theorem dX0_startAgainOn_11 : decode cX0_startAgainOn 11 = .ok (.iload_n 2, 1) := by decide +kernel
theorem dX0_startAgainOn_12 : decode cX0_startAgainOn 12 = .ok (.iconst 4, 1) := by decide +kernel
theorem dX0_startAgainOn_13 : decode cX0_startAgainOn 13 = .ok (.if_icmp .ge 51, 3) := by decide +kernel
theorem dX0_startAgainOn_16 : decode cX0_startAgainOn 16 = .ok (.aload_n 0, 1) := by decide +kernel
theorem dX0_startAgainOn_17 : decode cX0_startAgainOn 17 = .ok (.getfield 25, 3) := by decide +kernel
theorem dX0_startAgainOn_20 : decode cX0_startAgainOn 20 = .ok (.iload_n 2, 1) := by decide +kernel
theorem dX0_startAgainOn_21 : decode cX0_startAgainOn 21 = .ok (.iconst 0, 1) := by decide +kernel
theorem dX0_startAgainOn_22 : decode cX0_startAgainOn 22 = .ok (.iastore, 1) := by decide +kernel
theorem dX0_startAgainOn_23 : decode cX0_startAgainOn 23 = .ok (.aload_n 0, 1) := by decide +kernel
theorem dX0_startAgainOn_24 : decode cX0_startAgainOn 24 = .ok (.getfield 28, 3) := by decide +kernel
theorem dX0_startAgainOn_27 : decode cX0_startAgainOn 27 = .ok (.iload_n 2, 1) := by decide +kernel
theorem dX0_startAgainOn_28 : decode cX0_startAgainOn 28 = .ok (.iconst (-1), 1) := by decide +kernel
theorem dX0_startAgainOn_29 : decode cX0_startAgainOn 29 = .ok (.iastore, 1) := by decide +kernel
theorem dX0_startAgainOn_30 : decode cX0_startAgainOn 30 = .ok (.aload_n 0, 1) := by decide +kernel
theorem dX0_startAgainOn_31 : decode cX0_startAgainOn 31 = .ok (.getfield 31, 3) := by decide +kernel
theorem dX0_startAgainOn_34 : decode cX0_startAgainOn 34 = .ok (.iload_n 2, 1) := by decide +kernel
theorem dX0_startAgainOn_35 : decode cX0_startAgainOn 35 = .ok (.iconst 0, 1) := by decide +kernel
theorem dX0_startAgainOn_36 : decode cX0_startAgainOn 36 = .ok (.iastore, 1) := by decide +kernel
theorem dX0_startAgainOn_37 : decode cX0_startAgainOn 37 = .ok (.aload_n 0, 1) := by decide +kernel
theorem dX0_startAgainOn_38 : decode cX0_startAgainOn 38 = .ok (.getfield 34, 3) := by decide +kernel
theorem dX0_startAgainOn_41 : decode cX0_startAgainOn 41 = .ok (.iload_n 2, 1) := by decide +kernel
theorem dX0_startAgainOn_42 : decode cX0_startAgainOn 42 = .ok (.iconst 0, 1) := by decide +kernel
theorem dX0_startAgainOn_43 : decode cX0_startAgainOn 43 = .ok (.iastore, 1) := by decide +kernel
theorem dX0_startAgainOn_44 : decode cX0_startAgainOn 44 = .ok (.aload_n 0, 1) := by decide +kernel
theorem dX0_startAgainOn_45 : decode cX0_startAgainOn 45 = .ok (.getfield 37, 3) := by decide +kernel
theorem dX0_startAgainOn_48 : decode cX0_startAgainOn 48 = .ok (.iload_n 2, 1) := by decide +kernel
theorem dX0_startAgainOn_49 : decode cX0_startAgainOn 49 = .ok (.iconst 0, 1) := by decide +kernel
theorem dX0_startAgainOn_50 : decode cX0_startAgainOn 50 = .ok (.iastore, 1) := by decide +kernel
theorem dX0_startAgainOn_51 : decode cX0_startAgainOn 51 = .ok (.aload_n 0, 1) := by decide +kernel
theorem dX0_startAgainOn_52 : decode cX0_startAgainOn 52 = .ok (.getfield 40, 3) := by decide +kernel
theorem dX0_startAgainOn_55 : decode cX0_startAgainOn 55 = .ok (.iload_n 2, 1) := by decide +kernel
theorem dX0_startAgainOn_56 : decode cX0_startAgainOn 56 = .ok (.iconst 0, 1) := by decide +kernel
theorem dX0_startAgainOn_57 : decode cX0_startAgainOn 57 = .ok (.bastore, 1) := by decide +kernel
theorem dX0_startAgainOn_58 : decode cX0_startAgainOn 58 = .ok (.iinc 2 1, 3) := by decide +kernel
theorem dX0_startAgainOn_61 : decode cX0_startAgainOn 61 = .ok (.goto (-50), 3) := by decide +kernel
theorem dX0_startAgainOn_64 : decode cX0_startAgainOn 64 = .ok (.return_, 1) := by decide +kernel
theorem dX0_queueFor_0 : decode cX0_queueFor 0 = .ok (.iload_n 1, 1) := by decide +kernel
theorem dX0_queueFor_1 : decode cX0_queueFor 1 = .ok (.ifCond .lt 26, 3) := by decide +kernel
theorem dX0_queueFor_4 : decode cX0_queueFor 4 = .ok (.iload_n 1, 1) := by decide +kernel
theorem dX0_queueFor_5 : decode cX0_queueFor 5 = .ok (.aload_n 0, 1) := by decide +kernel
theorem dX0_queueFor_6 : decode cX0_queueFor 6 = .ok (.getfield 9, 3) := by decide +kernel
theorem dX0_queueFor_9 : decode cX0_queueFor 9 = .ok (.if_icmp .ge 18, 3) := by decide +kernel
theorem dX0_queueFor_12 : decode cX0_queueFor 12 = .ok (.aload_n 0, 1) := by decide +kernel
theorem dX0_queueFor_13 : decode cX0_queueFor 13 = .ok (.getfield 25, 3) := by decide +kernel
theorem dX0_queueFor_16 : decode cX0_queueFor 16 = .ok (.iload_n 1, 1) := by decide +kernel
theorem dX0_queueFor_17 : decode cX0_queueFor 17 = .ok (.iaload, 1) := by decide +kernel
theorem dX0_queueFor_18 : decode cX0_queueFor 18 = .ok (.aload_n 0, 1) := by decide +kernel
theorem dX0_queueFor_19 : decode cX0_queueFor 19 = .ok (.getfield 15, 3) := by decide +kernel
theorem dX0_queueFor_22 : decode cX0_queueFor 22 = .ok (.if_icmp .ge 5, 3) := by decide +kernel
theorem dX0_queueFor_25 : decode cX0_queueFor 25 = .ok (.iload_n 1, 1) := by decide +kernel
theorem dX0_queueFor_26 : decode cX0_queueFor 26 = .ok (.ireturn, 1) := by decide +kernel
theorem dX0_queueFor_27 : decode cX0_queueFor 27 = .ok (.iconst (-1), 1) := by decide +kernel
theorem dX0_queueFor_28 : decode cX0_queueFor 28 = .ok (.istore_n 2, 1) := by decide +kernel
theorem dX0_queueFor_29 : decode cX0_queueFor 29 = .ok (.iconst 0, 1) := by decide +kernel
theorem dX0_queueFor_30 : decode cX0_queueFor 30 = .ok (.istore_n 3, 1) := by decide +kernel
theorem dX0_queueFor_31 : decode cX0_queueFor 31 = .ok (.iload_n 3, 1) := by decide +kernel
theorem dX0_queueFor_32 : decode cX0_queueFor 32 = .ok (.aload_n 0, 1) := by decide +kernel
theorem dX0_queueFor_33 : decode cX0_queueFor 33 = .ok (.getfield 9, 3) := by decide +kernel
theorem dX0_queueFor_36 : decode cX0_queueFor 36 = .ok (.if_icmp .ge 43, 3) := by decide +kernel
theorem dX0_queueFor_39 : decode cX0_queueFor 39 = .ok (.aload_n 0, 1) := by decide +kernel
theorem dX0_queueFor_40 : decode cX0_queueFor 40 = .ok (.getfield 25, 3) := by decide +kernel
theorem dX0_queueFor_43 : decode cX0_queueFor 43 = .ok (.iload_n 3, 1) := by decide +kernel
theorem dX0_queueFor_44 : decode cX0_queueFor 44 = .ok (.iaload, 1) := by decide +kernel
theorem dX0_queueFor_45 : decode cX0_queueFor 45 = .ok (.aload_n 0, 1) := by decide +kernel
theorem dX0_queueFor_46 : decode cX0_queueFor 46 = .ok (.getfield 15, 3) := by decide +kernel
theorem dX0_queueFor_49 : decode cX0_queueFor 49 = .ok (.if_icmp .ge 24, 3) := by decide +kernel
theorem dX0_queueFor_52 : decode cX0_queueFor 52 = .ok (.iload_n 2, 1) := by decide +kernel
theorem dX0_queueFor_53 : decode cX0_queueFor 53 = .ok (.ifCond .lt 18, 3) := by decide +kernel
theorem dX0_queueFor_56 : decode cX0_queueFor 56 = .ok (.aload_n 0, 1) := by decide +kernel
theorem dX0_queueFor_57 : decode cX0_queueFor 57 = .ok (.getfield 25, 3) := by decide +kernel
theorem dX0_queueFor_60 : decode cX0_queueFor 60 = .ok (.iload_n 3, 1) := by decide +kernel
theorem dX0_queueFor_61 : decode cX0_queueFor 61 = .ok (.iaload, 1) := by decide +kernel
theorem dX0_queueFor_62 : decode cX0_queueFor 62 = .ok (.aload_n 0, 1) := by decide +kernel
theorem dX0_queueFor_63 : decode cX0_queueFor 63 = .ok (.getfield 25, 3) := by decide +kernel
theorem dX0_queueFor_66 : decode cX0_queueFor 66 = .ok (.iload_n 2, 1) := by decide +kernel
theorem dX0_queueFor_67 : decode cX0_queueFor 67 = .ok (.iaload, 1) := by decide +kernel
theorem dX0_queueFor_68 : decode cX0_queueFor 68 = .ok (.if_icmp .ge 5, 3) := by decide +kernel
theorem dX0_queueFor_71 : decode cX0_queueFor 71 = .ok (.iload_n 3, 1) := by decide +kernel
theorem dX0_queueFor_72 : decode cX0_queueFor 72 = .ok (.istore_n 2, 1) := by decide +kernel
theorem dX0_queueFor_73 : decode cX0_queueFor 73 = .ok (.iinc 3 1, 3) := by decide +kernel
theorem dX0_queueFor_76 : decode cX0_queueFor 76 = .ok (.goto (-45), 3) := by decide +kernel
theorem dX0_queueFor_79 : decode cX0_queueFor 79 = .ok (.iload_n 2, 1) := by decide +kernel
theorem dX0_queueFor_80 : decode cX0_queueFor 80 = .ok (.ireturn, 1) := by decide +kernel
theorem dX0_putLast_0 : decode cX0_putLast 0 = .ok (.aload_n 0, 1) := by decide +kernel
theorem dX0_putLast_1 : decode cX0_putLast 1 = .ok (.getfield 25, 3) := by decide +kernel
theorem dX0_putLast_4 : decode cX0_putLast 4 = .ok (.iload_n 1, 1) := by decide +kernel
theorem dX0_putLast_5 : decode cX0_putLast 5 = .ok (.iaload, 1) := by decide +kernel
theorem dX0_putLast_6 : decode cX0_putLast 6 = .ok (.bipush 8, 2) := by decide +kernel
theorem dX0_putLast_8 : decode cX0_putLast 8 = .ok (.if_icmp .ge 30, 3) := by decide +kernel
theorem dX0_putLast_11 : decode cX0_putLast 11 = .ok (.aload_n 0, 1) := by decide +kernel
theorem dX0_putLast_12 : decode cX0_putLast 12 = .ok (.getfield 21, 3) := by decide +kernel
theorem dX0_putLast_15 : decode cX0_putLast 15 = .ok (.iload_n 1, 1) := by decide +kernel
theorem dX0_putLast_16 : decode cX0_putLast 16 = .ok (.bipush 8, 2) := by decide +kernel
theorem dX0_putLast_18 : decode cX0_putLast 18 = .ok (.imul, 1) := by decide +kernel
theorem dX0_putLast_19 : decode cX0_putLast 19 = .ok (.aload_n 0, 1) := by decide +kernel
theorem dX0_putLast_20 : decode cX0_putLast 20 = .ok (.getfield 25, 3) := by decide +kernel
theorem dX0_putLast_23 : decode cX0_putLast 23 = .ok (.iload_n 1, 1) := by decide +kernel
theorem dX0_putLast_24 : decode cX0_putLast 24 = .ok (.iaload, 1) := by decide +kernel
theorem dX0_putLast_25 : decode cX0_putLast 25 = .ok (.iadd, 1) := by decide +kernel
theorem dX0_putLast_26 : decode cX0_putLast 26 = .ok (.iload_n 2, 1) := by decide +kernel
theorem dX0_putLast_27 : decode cX0_putLast 27 = .ok (.iastore, 1) := by decide +kernel
theorem dX0_putLast_28 : decode cX0_putLast 28 = .ok (.aload_n 0, 1) := by decide +kernel
theorem dX0_putLast_29 : decode cX0_putLast 29 = .ok (.getfield 25, 3) := by decide +kernel
theorem dX0_putLast_32 : decode cX0_putLast 32 = .ok (.iload_n 1, 1) := by decide +kernel
theorem dX0_putLast_33 : decode cX0_putLast 33 = .ok (.dup2, 1) := by decide +kernel
theorem dX0_putLast_34 : decode cX0_putLast 34 = .ok (.iaload, 1) := by decide +kernel
theorem dX0_putLast_35 : decode cX0_putLast 35 = .ok (.iconst 1, 1) := by decide +kernel
theorem dX0_putLast_36 : decode cX0_putLast 36 = .ok (.iadd, 1) := by decide +kernel
theorem dX0_putLast_37 : decode cX0_putLast 37 = .ok (.iastore, 1) := by decide +kernel
theorem dX0_putLast_38 : decode cX0_putLast 38 = .ok (.return_, 1) := by decide +kernel
theorem dX0_takeAt_0 : decode cX0_takeAt 0 = .ok (.iload_n 2, 1) := by decide +kernel
theorem dX0_takeAt_1 : decode cX0_takeAt 1 = .ok (.ifCond .lt 13, 3) := by decide +kernel
theorem dX0_takeAt_4 : decode cX0_takeAt 4 = .ok (.iload_n 2, 1) := by decide +kernel
theorem dX0_takeAt_5 : decode cX0_takeAt 5 = .ok (.aload_n 0, 1) := by decide +kernel
theorem dX0_takeAt_6 : decode cX0_takeAt 6 = .ok (.getfield 25, 3) := by decide +kernel
theorem dX0_takeAt_9 : decode cX0_takeAt 9 = .ok (.iload_n 1, 1) := by decide +kernel
theorem dX0_takeAt_10 : decode cX0_takeAt 10 = .ok (.iaload, 1) := by decide +kernel
theorem dX0_takeAt_11 : decode cX0_takeAt 11 = .ok (.if_icmp .lt 5, 3) := by decide +kernel
theorem dX0_takeAt_14 : decode cX0_takeAt 14 = .ok (.iconst (-1), 1) := by decide +kernel
theorem dX0_takeAt_15 : decode cX0_takeAt 15 = .ok (.ireturn, 1) := by decide +kernel
theorem dX0_takeAt_16 : decode cX0_takeAt 16 = .ok (.iload_n 1, 1) := by decide +kernel
theorem dX0_takeAt_17 : decode cX0_takeAt 17 = .ok (.bipush 8, 2) := by decide +kernel
theorem dX0_takeAt_19 : decode cX0_takeAt 19 = .ok (.imul, 1) := by decide +kernel
theorem dX0_takeAt_20 : decode cX0_takeAt 20 = .ok (.istore_n 3, 1) := by decide +kernel
theorem dX0_takeAt_21 : decode cX0_takeAt 21 = .ok (.aload_n 0, 1) := by decide +kernel
theorem dX0_takeAt_22 : decode cX0_takeAt 22 = .ok (.getfield 21, 3) := by decide +kernel
theorem dX0_takeAt_25 : decode cX0_takeAt 25 = .ok (.iload_n 3, 1) := by decide +kernel
theorem dX0_takeAt_26 : decode cX0_takeAt 26 = .ok (.iload_n 2, 1) := by decide +kernel
theorem dX0_takeAt_27 : decode cX0_takeAt 27 = .ok (.iadd, 1) := by decide +kernel
theorem dX0_takeAt_28 : decode cX0_takeAt 28 = .ok (.iaload, 1) := by decide +kernel
theorem dX0_takeAt_29 : decode cX0_takeAt 29 = .ok (.istore 4, 2) := by decide +kernel
theorem dX0_takeAt_31 : decode cX0_takeAt 31 = .ok (.iload_n 2, 1) := by decide +kernel
theorem dX0_takeAt_32 : decode cX0_takeAt 32 = .ok (.iconst 1, 1) := by decide +kernel
theorem dX0_takeAt_33 : decode cX0_takeAt 33 = .ok (.iadd, 1) := by decide +kernel
theorem dX0_takeAt_34 : decode cX0_takeAt 34 = .ok (.istore 5, 2) := by decide +kernel
theorem dX0_takeAt_36 : decode cX0_takeAt 36 = .ok (.iload 5, 2) := by decide +kernel
theorem dX0_takeAt_38 : decode cX0_takeAt 38 = .ok (.aload_n 0, 1) := by decide +kernel
theorem dX0_takeAt_39 : decode cX0_takeAt 39 = .ok (.getfield 25, 3) := by decide +kernel
theorem dX0_takeAt_42 : decode cX0_takeAt 42 = .ok (.iload_n 1, 1) := by decide +kernel
theorem dX0_takeAt_43 : decode cX0_takeAt 43 = .ok (.iaload, 1) := by decide +kernel
theorem dX0_takeAt_44 : decode cX0_takeAt 44 = .ok (.if_icmp .ge 29, 3) := by decide +kernel
theorem dX0_takeAt_47 : decode cX0_takeAt 47 = .ok (.aload_n 0, 1) := by decide +kernel
theorem dX0_takeAt_48 : decode cX0_takeAt 48 = .ok (.getfield 21, 3) := by decide +kernel
theorem dX0_takeAt_51 : decode cX0_takeAt 51 = .ok (.iload_n 3, 1) := by decide +kernel
theorem dX0_takeAt_52 : decode cX0_takeAt 52 = .ok (.iload 5, 2) := by decide +kernel
theorem dX0_takeAt_54 : decode cX0_takeAt 54 = .ok (.iadd, 1) := by decide +kernel
theorem dX0_takeAt_55 : decode cX0_takeAt 55 = .ok (.iconst 1, 1) := by decide +kernel
theorem dX0_takeAt_56 : decode cX0_takeAt 56 = .ok (.isub, 1) := by decide +kernel
theorem dX0_takeAt_57 : decode cX0_takeAt 57 = .ok (.aload_n 0, 1) := by decide +kernel
theorem dX0_takeAt_58 : decode cX0_takeAt 58 = .ok (.getfield 21, 3) := by decide +kernel
theorem dX0_takeAt_61 : decode cX0_takeAt 61 = .ok (.iload_n 3, 1) := by decide +kernel
theorem dX0_takeAt_62 : decode cX0_takeAt 62 = .ok (.iload 5, 2) := by decide +kernel
theorem dX0_takeAt_64 : decode cX0_takeAt 64 = .ok (.iadd, 1) := by decide +kernel
theorem dX0_takeAt_65 : decode cX0_takeAt 65 = .ok (.iaload, 1) := by decide +kernel
theorem dX0_takeAt_66 : decode cX0_takeAt 66 = .ok (.iastore, 1) := by decide +kernel
theorem dX0_takeAt_67 : decode cX0_takeAt 67 = .ok (.iinc 5 1, 3) := by decide +kernel
theorem dX0_takeAt_70 : decode cX0_takeAt 70 = .ok (.goto (-34), 3) := by decide +kernel
theorem dX0_takeAt_73 : decode cX0_takeAt 73 = .ok (.aload_n 0, 1) := by decide +kernel
theorem dX0_takeAt_74 : decode cX0_takeAt 74 = .ok (.getfield 25, 3) := by decide +kernel
theorem dX0_takeAt_77 : decode cX0_takeAt 77 = .ok (.iload_n 1, 1) := by decide +kernel
theorem dX0_takeAt_78 : decode cX0_takeAt 78 = .ok (.dup2, 1) := by decide +kernel
theorem dX0_takeAt_79 : decode cX0_takeAt 79 = .ok (.iaload, 1) := by decide +kernel
theorem dX0_takeAt_80 : decode cX0_takeAt 80 = .ok (.iconst 1, 1) := by decide +kernel
theorem dX0_takeAt_81 : decode cX0_takeAt 81 = .ok (.isub, 1) := by decide +kernel
theorem dX0_takeAt_82 : decode cX0_takeAt 82 = .ok (.iastore, 1) := by decide +kernel
theorem dX0_takeAt_83 : decode cX0_takeAt 83 = .ok (.iload 4, 2) := by decide +kernel
theorem dX0_takeAt_85 : decode cX0_takeAt 85 = .ok (.ireturn, 1) := by decide +kernel
theorem dX0_removeFromQueues_0 : decode cX0_removeFromQueues 0 = .ok (.iconst 0, 1) := by decide +kernel
theorem dX0_removeFromQueues_1 : decode cX0_removeFromQueues 1 = .ok (.istore_n 2, 1) := by decide +kernel
theorem dX0_removeFromQueues_2 : decode cX0_removeFromQueues 2 = .ok (.iload_n 2, 1) := by decide +kernel
theorem dX0_removeFromQueues_3 : decode cX0_removeFromQueues 3 = .ok (.aload_n 0, 1) := by decide +kernel
theorem dX0_removeFromQueues_4 : decode cX0_removeFromQueues 4 = .ok (.getfield 9, 3) := by decide +kernel
theorem dX0_removeFromQueues_7 : decode cX0_removeFromQueues 7 = .ok (.if_icmp .ge 50, 3) := by decide +kernel
theorem dX0_removeFromQueues_10 : decode cX0_removeFromQueues 10 = .ok (.aload_n 0, 1) := by decide +kernel
theorem dX0_removeFromQueues_11 : decode cX0_removeFromQueues 11 = .ok (.getfield 25, 3) := by decide +kernel
theorem dX0_removeFromQueues_14 : decode cX0_removeFromQueues 14 = .ok (.iload_n 2, 1) := by decide +kernel
theorem dX0_removeFromQueues_15 : decode cX0_removeFromQueues 15 = .ok (.iaload, 1) := by decide +kernel
theorem dX0_removeFromQueues_16 : decode cX0_removeFromQueues 16 = .ok (.iconst 1, 1) := by decide +kernel
theorem dX0_removeFromQueues_17 : decode cX0_removeFromQueues 17 = .ok (.isub, 1) := by decide +kernel
theorem dX0_removeFromQueues_18 : decode cX0_removeFromQueues 18 = .ok (.istore_n 3, 1) := by decide +kernel
theorem dX0_removeFromQueues_19 : decode cX0_removeFromQueues 19 = .ok (.iload_n 3, 1) := by decide +kernel
theorem dX0_removeFromQueues_20 : decode cX0_removeFromQueues 20 = .ok (.ifCond .lt 31, 3) := by decide +kernel
theorem dX0_removeFromQueues_23 : decode cX0_removeFromQueues 23 = .ok (.aload_n 0, 1) := by decide +kernel
theorem dX0_removeFromQueues_24 : decode cX0_removeFromQueues 24 = .ok (.getfield 21, 3) := by decide +kernel
theorem dX0_removeFromQueues_27 : decode cX0_removeFromQueues 27 = .ok (.iload_n 2, 1) := by decide +kernel
theorem dX0_removeFromQueues_28 : decode cX0_removeFromQueues 28 = .ok (.bipush 8, 2) := by decide +kernel
theorem dX0_removeFromQueues_30 : decode cX0_removeFromQueues 30 = .ok (.imul, 1) := by decide +kernel
theorem dX0_removeFromQueues_31 : decode cX0_removeFromQueues 31 = .ok (.iload_n 3, 1) := by decide +kernel
theorem dX0_removeFromQueues_32 : decode cX0_removeFromQueues 32 = .ok (.iadd, 1) := by decide +kernel
theorem dX0_removeFromQueues_33 : decode cX0_removeFromQueues 33 = .ok (.iaload, 1) := by decide +kernel
theorem dX0_removeFromQueues_34 : decode cX0_removeFromQueues 34 = .ok (.iload_n 1, 1) := by decide +kernel
theorem dX0_removeFromQueues_35 : decode cX0_removeFromQueues 35 = .ok (.if_icmp .ne 10, 3) := by decide +kernel
theorem dX0_removeFromQueues_38 : decode cX0_removeFromQueues 38 = .ok (.aload_n 0, 1) := by decide +kernel
theorem dX0_removeFromQueues_39 : decode cX0_removeFromQueues 39 = .ok (.iload_n 2, 1) := by decide +kernel
theorem dX0_removeFromQueues_40 : decode cX0_removeFromQueues 40 = .ok (.iload_n 3, 1) := by decide +kernel
theorem dX0_removeFromQueues_41 : decode cX0_removeFromQueues 41 = .ok (.invokevirtual 56, 3) := by decide +kernel
theorem dX0_removeFromQueues_44 : decode cX0_removeFromQueues 44 = .ok (.pop, 1) := by decide +kernel
theorem dX0_removeFromQueues_45 : decode cX0_removeFromQueues 45 = .ok (.iinc 3 (-1), 3) := by decide +kernel
theorem dX0_removeFromQueues_48 : decode cX0_removeFromQueues 48 = .ok (.goto (-29), 3) := by decide +kernel
theorem dX0_removeFromQueues_51 : decode cX0_removeFromQueues 51 = .ok (.iinc 2 1, 3) := by decide +kernel
theorem dX0_removeFromQueues_54 : decode cX0_removeFromQueues 54 = .ok (.goto (-52), 3) := by decide +kernel
theorem dX0_removeFromQueues_57 : decode cX0_removeFromQueues 57 = .ok (.return_, 1) := by decide +kernel
theorem dX0_longestQueue_0 : decode cX0_longestQueue 0 = .ok (.iconst 0, 1) := by decide +kernel
theorem dX0_longestQueue_1 : decode cX0_longestQueue 1 = .ok (.istore_n 1, 1) := by decide +kernel
theorem dX0_longestQueue_2 : decode cX0_longestQueue 2 = .ok (.iconst 1, 1) := by decide +kernel
theorem dX0_longestQueue_3 : decode cX0_longestQueue 3 = .ok (.istore_n 2, 1) := by decide +kernel
theorem dX0_longestQueue_4 : decode cX0_longestQueue 4 = .ok (.iload_n 2, 1) := by decide +kernel
theorem dX0_longestQueue_5 : decode cX0_longestQueue 5 = .ok (.aload_n 0, 1) := by decide +kernel
theorem dX0_longestQueue_6 : decode cX0_longestQueue 6 = .ok (.getfield 9, 3) := by decide +kernel
theorem dX0_longestQueue_9 : decode cX0_longestQueue 9 = .ok (.if_icmp .ge 26, 3) := by decide +kernel
theorem dX0_longestQueue_12 : decode cX0_longestQueue 12 = .ok (.aload_n 0, 1) := by decide +kernel
theorem dX0_longestQueue_13 : decode cX0_longestQueue 13 = .ok (.getfield 25, 3) := by decide +kernel
theorem dX0_longestQueue_16 : decode cX0_longestQueue 16 = .ok (.iload_n 2, 1) := by decide +kernel
theorem dX0_longestQueue_17 : decode cX0_longestQueue 17 = .ok (.iaload, 1) := by decide +kernel
theorem dX0_longestQueue_18 : decode cX0_longestQueue 18 = .ok (.aload_n 0, 1) := by decide +kernel
theorem dX0_longestQueue_19 : decode cX0_longestQueue 19 = .ok (.getfield 25, 3) := by decide +kernel
theorem dX0_longestQueue_22 : decode cX0_longestQueue 22 = .ok (.iload_n 1, 1) := by decide +kernel
theorem dX0_longestQueue_23 : decode cX0_longestQueue 23 = .ok (.iaload, 1) := by decide +kernel
theorem dX0_longestQueue_24 : decode cX0_longestQueue 24 = .ok (.if_icmp .le 5, 3) := by decide +kernel
theorem dX0_longestQueue_27 : decode cX0_longestQueue 27 = .ok (.iload_n 2, 1) := by decide +kernel
theorem dX0_longestQueue_28 : decode cX0_longestQueue 28 = .ok (.istore_n 1, 1) := by decide +kernel
theorem dX0_longestQueue_29 : decode cX0_longestQueue 29 = .ok (.iinc 2 1, 3) := by decide +kernel
theorem dX0_longestQueue_32 : decode cX0_longestQueue 32 = .ok (.goto (-28), 3) := by decide +kernel
theorem dX0_longestQueue_35 : decode cX0_longestQueue 35 = .ok (.iload_n 1, 1) := by decide +kernel
theorem dX0_longestQueue_36 : decode cX0_longestQueue 36 = .ok (.ireturn, 1) := by decide +kernel
theorem dX0_countBusy_0 : decode cX0_countBusy 0 = .ok (.iconst 0, 1) := by decide +kernel
theorem dX0_countBusy_1 : decode cX0_countBusy 1 = .ok (.istore_n 1, 1) := by decide +kernel
theorem dX0_countBusy_2 : decode cX0_countBusy 2 = .ok (.iload_n 1, 1) := by decide +kernel
theorem dX0_countBusy_3 : decode cX0_countBusy 3 = .ok (.aload_n 0, 1) := by decide +kernel
theorem dX0_countBusy_4 : decode cX0_countBusy 4 = .ok (.getfield 9, 3) := by decide +kernel
theorem dX0_countBusy_7 : decode cX0_countBusy 7 = .ok (.if_icmp .ge 28, 3) := by decide +kernel
theorem dX0_countBusy_10 : decode cX0_countBusy 10 = .ok (.aload_n 0, 1) := by decide +kernel
theorem dX0_countBusy_11 : decode cX0_countBusy 11 = .ok (.getfield 28, 3) := by decide +kernel
theorem dX0_countBusy_14 : decode cX0_countBusy 14 = .ok (.iload_n 1, 1) := by decide +kernel
theorem dX0_countBusy_15 : decode cX0_countBusy 15 = .ok (.iaload, 1) := by decide +kernel
theorem dX0_countBusy_16 : decode cX0_countBusy 16 = .ok (.ifCond .lt 13, 3) := by decide +kernel
theorem dX0_countBusy_19 : decode cX0_countBusy 19 = .ok (.aload_n 0, 1) := by decide +kernel
theorem dX0_countBusy_20 : decode cX0_countBusy 20 = .ok (.getfield 34, 3) := by decide +kernel
theorem dX0_countBusy_23 : decode cX0_countBusy 23 = .ok (.iload_n 1, 1) := by decide +kernel
theorem dX0_countBusy_24 : decode cX0_countBusy 24 = .ok (.dup2, 1) := by decide +kernel
theorem dX0_countBusy_25 : decode cX0_countBusy 25 = .ok (.iaload, 1) := by decide +kernel
theorem dX0_countBusy_26 : decode cX0_countBusy 26 = .ok (.iconst 1, 1) := by decide +kernel
theorem dX0_countBusy_27 : decode cX0_countBusy 27 = .ok (.iadd, 1) := by decide +kernel
theorem dX0_countBusy_28 : decode cX0_countBusy 28 = .ok (.iastore, 1) := by decide +kernel
theorem dX0_countBusy_29 : decode cX0_countBusy 29 = .ok (.iinc 1 1, 3) := by decide +kernel
theorem dX0_countBusy_32 : decode cX0_countBusy 32 = .ok (.goto (-30), 3) := by decide +kernel
theorem dX0_countBusy_35 : decode cX0_countBusy 35 = .ok (.return_, 1) := by decide +kernel
theorem dX1_init_0 : decode cX1_init 0 = .ok (.aload_n 0, 1) := by decide +kernel
theorem dX1_init_1 : decode cX1_init 1 = .ok (.invokespecial 3, 3) := by decide +kernel
theorem dX1_init_4 : decode cX1_init 4 = .ok (.aload_n 0, 1) := by decide +kernel
theorem dX1_init_5 : decode cX1_init 5 = .ok (.bipush 11, 2) := by decide +kernel
theorem dX1_init_7 : decode cX1_init 7 = .ok (.newarray .int, 2) := by decide +kernel
theorem dX1_init_9 : decode cX1_init 9 = .ok (.putfield 11, 3) := by decide +kernel
theorem dX1_init_12 : decode cX1_init 12 = .ok (.aload_n 0, 1) := by decide +kernel
theorem dX1_init_13 : decode cX1_init 13 = .ok (.aload_n 1, 1) := by decide +kernel
theorem dX1_init_14 : decode cX1_init 14 = .ok (.putfield 15, 3) := by decide +kernel
theorem dX1_init_17 : decode cX1_init 17 = .ok (.return_, 1) := by decide +kernel
theorem dX1_lengthFor_0 : decode cX1_lengthFor 0 = .ok (.iconst 0, 1) := by decide +kernel
theorem dX1_lengthFor_1 : decode cX1_lengthFor 1 = .ok (.istore 5, 2) := by decide +kernel
theorem dX1_lengthFor_3 : decode cX1_lengthFor 3 = .ok (.iconst 0, 1) := by decide +kernel
theorem dX1_lengthFor_4 : decode cX1_lengthFor 4 = .ok (.istore 6, 2) := by decide +kernel
theorem dX1_lengthFor_6 : decode cX1_lengthFor 6 = .ok (.iload 6, 2) := by decide +kernel
theorem dX1_lengthFor_8 : decode cX1_lengthFor 8 = .ok (.aload_n 0, 1) := by decide +kernel
theorem dX1_lengthFor_9 : decode cX1_lengthFor 9 = .ok (.getfield 15, 3) := by decide +kernel
theorem dX1_lengthFor_12 : decode cX1_lengthFor 12 = .ok (.arraylength, 1) := by decide +kernel
theorem dX1_lengthFor_13 : decode cX1_lengthFor 13 = .ok (.if_icmp .ge 130, 3) := by decide +kernel
theorem dX1_lengthFor_16 : decode cX1_lengthFor 16 = .ok (.aload_n 0, 1) := by decide +kernel
theorem dX1_lengthFor_17 : decode cX1_lengthFor 17 = .ok (.getfield 15, 3) := by decide +kernel
theorem dX1_lengthFor_20 : decode cX1_lengthFor 20 = .ok (.iload 6, 2) := by decide +kernel
theorem dX1_lengthFor_22 : decode cX1_lengthFor 22 = .ok (.iaload, 1) := by decide +kernel
theorem dX1_lengthFor_23 : decode cX1_lengthFor 23 = .ok (.istore 7, 2) := by decide +kernel
theorem dX1_lengthFor_25 : decode cX1_lengthFor 25 = .ok (.iload 7, 2) := by decide +kernel
theorem dX1_lengthFor_27 : decode cX1_lengthFor 27 = .ok (.bipush (-5), 2) := by decide +kernel
theorem dX1_lengthFor_29 : decode cX1_lengthFor 29 = .ok (.if_icmp .gt 47, 3) := by decide +kernel
theorem dX1_lengthFor_32 : decode cX1_lengthFor 32 = .ok (.iload 5, 2) := by decide +kernel
theorem dX1_lengthFor_34 : decode cX1_lengthFor 34 = .ok (.iconst 2, 1) := by decide +kernel
theorem dX1_lengthFor_35 : decode cX1_lengthFor 35 = .ok (.if_icmp .lt 102, 3) := by decide +kernel
theorem dX1_lengthFor_38 : decode cX1_lengthFor 38 = .ok (.iinc 5 (-1), 3) := by decide +kernel
theorem dX1_lengthFor_41 : decode cX1_lengthFor 41 = .ok (.aload_n 0, 1) := by decide +kernel
theorem dX1_lengthFor_42 : decode cX1_lengthFor 42 = .ok (.getfield 11, 3) := by decide +kernel
theorem dX1_lengthFor_45 : decode cX1_lengthFor 45 = .ok (.iload 5, 2) := by decide +kernel
theorem dX1_lengthFor_47 : decode cX1_lengthFor 47 = .ok (.iconst 1, 1) := by decide +kernel
theorem dX1_lengthFor_48 : decode cX1_lengthFor 48 = .ok (.isub, 1) := by decide +kernel
theorem dX1_lengthFor_49 : decode cX1_lengthFor 49 = .ok (.iload 7, 2) := by decide +kernel
theorem dX1_lengthFor_51 : decode cX1_lengthFor 51 = .ok (.aload_n 0, 1) := by decide +kernel
theorem dX1_lengthFor_52 : decode cX1_lengthFor 52 = .ok (.getfield 11, 3) := by decide +kernel
theorem dX1_lengthFor_55 : decode cX1_lengthFor 55 = .ok (.iload 5, 2) := by decide +kernel
theorem dX1_lengthFor_57 : decode cX1_lengthFor 57 = .ok (.iconst 1, 1) := by decide +kernel
theorem dX1_lengthFor_58 : decode cX1_lengthFor 58 = .ok (.isub, 1) := by decide +kernel
theorem dX1_lengthFor_59 : decode cX1_lengthFor 59 = .ok (.iaload, 1) := by decide +kernel
theorem dX1_lengthFor_60 : decode cX1_lengthFor 60 = .ok (.i2l, 1) := by decide +kernel
theorem dX1_lengthFor_61 : decode cX1_lengthFor 61 = .ok (.aload_n 0, 1) := by decide +kernel
theorem dX1_lengthFor_62 : decode cX1_lengthFor 62 = .ok (.getfield 11, 3) := by decide +kernel
theorem dX1_lengthFor_65 : decode cX1_lengthFor 65 = .ok (.iload 5, 2) := by decide +kernel
theorem dX1_lengthFor_67 : decode cX1_lengthFor 67 = .ok (.iaload, 1) := by decide +kernel
theorem dX1_lengthFor_68 : decode cX1_lengthFor 68 = .ok (.i2l, 1) := by decide +kernel
theorem dX1_lengthFor_69 : decode cX1_lengthFor 69 = .ok (.invokestatic 18, 3) := by decide +kernel
theorem dX1_lengthFor_72 : decode cX1_lengthFor 72 = .ok (.iastore, 1) := by decide +kernel
theorem dX1_lengthFor_73 : decode cX1_lengthFor 73 = .ok (.goto 64, 3) := by decide +kernel
theorem dX1_lengthFor_76 : decode cX1_lengthFor 76 = .ok (.iload 5, 2) := by decide +kernel
theorem dX1_lengthFor_78 : decode cX1_lengthFor 78 = .ok (.bipush 11, 2) := by decide +kernel
theorem dX1_lengthFor_80 : decode cX1_lengthFor 80 = .ok (.if_icmp .ge 57, 3) := by decide +kernel
theorem dX1_lengthFor_83 : decode cX1_lengthFor 83 = .ok (.aload_n 0, 1) := by decide +kernel
theorem dX1_lengthFor_84 : decode cX1_lengthFor 84 = .ok (.getfield 11, 3) := by decide +kernel
theorem dX1_lengthFor_87 : decode cX1_lengthFor 87 = .ok (.iload 5, 2) := by decide +kernel
theorem dX1_lengthFor_89 : decode cX1_lengthFor 89 = .ok (.iload 7, 2) := by decide +kernel
theorem dX1_lengthFor_91 : decode cX1_lengthFor 91 = .ok (.ifCond .lt 8, 3) := by decide +kernel
theorem dX1_lengthFor_94 : decode cX1_lengthFor 94 = .ok (.iload 7, 2) := by decide +kernel
theorem dX1_lengthFor_96 : decode cX1_lengthFor 96 = .ok (.goto 37, 3) := by decide +kernel
theorem dX1_lengthFor_99 : decode cX1_lengthFor 99 = .ok (.iload 7, 2) := by decide +kernel
theorem dX1_lengthFor_101 : decode cX1_lengthFor 101 = .ok (.iconst (-1), 1) := by decide +kernel
theorem dX1_lengthFor_102 : decode cX1_lengthFor 102 = .ok (.if_icmp .ne 7, 3) := by decide +kernel
theorem dX1_lengthFor_105 : decode cX1_lengthFor 105 = .ok (.iload_n 1, 1) := by decide +kernel
theorem dX1_lengthFor_106 : decode cX1_lengthFor 106 = .ok (.goto 27, 3) := by decide +kernel
theorem dX1_lengthFor_109 : decode cX1_lengthFor 109 = .ok (.iload 7, 2) := by decide +kernel
theorem dX1_lengthFor_111 : decode cX1_lengthFor 111 = .ok (.bipush (-2), 2) := by decide +kernel
theorem dX1_lengthFor_113 : decode cX1_lengthFor 113 = .ok (.if_icmp .ne 7, 3) := by decide +kernel
theorem dX1_lengthFor_116 : decode cX1_lengthFor 116 = .ok (.iload_n 2, 1) := by decide +kernel
theorem dX1_lengthFor_117 : decode cX1_lengthFor 117 = .ok (.goto 16, 3) := by decide +kernel
theorem dX1_lengthFor_120 : decode cX1_lengthFor 120 = .ok (.iload 7, 2) := by decide +kernel
theorem dX1_lengthFor_122 : decode cX1_lengthFor 122 = .ok (.bipush (-3), 2) := by decide +kernel
theorem dX1_lengthFor_124 : decode cX1_lengthFor 124 = .ok (.if_icmp .ne 7, 3) := by decide +kernel
theorem dX1_lengthFor_127 : decode cX1_lengthFor 127 = .ok (.iload_n 3, 1) := by decide +kernel
theorem dX1_lengthFor_128 : decode cX1_lengthFor 128 = .ok (.goto 5, 3) := by decide +kernel
theorem dX1_lengthFor_131 : decode cX1_lengthFor 131 = .ok (.iload 4, 2) := by decide +kernel
theorem dX1_lengthFor_133 : decode cX1_lengthFor 133 = .ok (.iastore, 1) := by decide +kernel
theorem dX1_lengthFor_134 : decode cX1_lengthFor 134 = .ok (.iinc 5 1, 3) := by decide +kernel
theorem dX1_lengthFor_137 : decode cX1_lengthFor 137 = .ok (.iinc 6 1, 3) := by decide +kernel
theorem dX1_lengthFor_140 : decode cX1_lengthFor 140 = .ok (.goto (-134), 3) := by decide +kernel
theorem dX1_lengthFor_143 : decode cX1_lengthFor 143 = .ok (.iconst 1, 1) := by decide +kernel
theorem dX1_lengthFor_144 : decode cX1_lengthFor 144 = .ok (.sipush 999, 3) := by decide +kernel
theorem dX1_lengthFor_147 : decode cX1_lengthFor 147 = .ok (.aload_n 0, 1) := by decide +kernel
theorem dX1_lengthFor_148 : decode cX1_lengthFor 148 = .ok (.getfield 11, 3) := by decide +kernel
theorem dX1_lengthFor_151 : decode cX1_lengthFor 151 = .ok (.iconst 0, 1) := by decide +kernel
theorem dX1_lengthFor_152 : decode cX1_lengthFor 152 = .ok (.iaload, 1) := by decide +kernel
theorem dX1_lengthFor_153 : decode cX1_lengthFor 153 = .ok (.invokestatic 22, 3) := by decide +kernel
theorem dX1_lengthFor_156 : decode cX1_lengthFor 156 = .ok (.invokestatic 28, 3) := by decide +kernel
theorem dX1_lengthFor_159 : decode cX1_lengthFor 159 = .ok (.ireturn, 1) := by decide +kernel
theorem dX1_result_0 : decode cX1_result 0 = .ok (.lconst 0, 1) := by decide +kernel
theorem dX1_result_1 : decode cX1_result 1 = .ok (.lstore 5, 2) := by decide +kernel
theorem dX1_result_3 : decode cX1_result 3 = .ok (.iload_n 0, 1) := by decide +kernel
theorem dX1_result_4 : decode cX1_result 4 = .ok (.bipush (-5), 2) := by decide +kernel
theorem dX1_result_6 : decode cX1_result 6 = .ok (.if_icmp .ne 11, 3) := by decide +kernel
theorem dX1_result_9 : decode cX1_result 9 = .ok (.lload_n 1, 1) := by decide +kernel
theorem dX1_result_10 : decode cX1_result 10 = .ok (.lload_n 3, 1) := by decide +kernel
theorem dX1_result_11 : decode cX1_result 11 = .ok (.ladd, 1) := by decide +kernel
theorem dX1_result_12 : decode cX1_result 12 = .ok (.lstore 5, 2) := by decide +kernel
theorem dX1_result_14 : decode cX1_result 14 = .ok (.goto 42, 3) := by decide +kernel
theorem dX1_result_17 : decode cX1_result 17 = .ok (.iload_n 0, 1) := by decide +kernel
theorem dX1_result_18 : decode cX1_result 18 = .ok (.bipush (-6), 2) := by decide +kernel
theorem dX1_result_20 : decode cX1_result 20 = .ok (.if_icmp .ne 11, 3) := by decide +kernel
theorem dX1_result_23 : decode cX1_result 23 = .ok (.lload_n 1, 1) := by decide +kernel
theorem dX1_result_24 : decode cX1_result 24 = .ok (.lload_n 3, 1) := by decide +kernel
theorem dX1_result_25 : decode cX1_result 25 = .ok (.lsub, 1) := by decide +kernel
theorem dX1_result_26 : decode cX1_result 26 = .ok (.lstore 5, 2) := by decide +kernel
theorem dX1_result_28 : decode cX1_result 28 = .ok (.goto 28, 3) := by decide +kernel
theorem dX1_result_31 : decode cX1_result 31 = .ok (.iload_n 0, 1) := by decide +kernel
theorem dX1_result_32 : decode cX1_result 32 = .ok (.bipush (-7), 2) := by decide +kernel
theorem dX1_result_34 : decode cX1_result 34 = .ok (.if_icmp .ne 11, 3) := by decide +kernel
theorem dX1_result_37 : decode cX1_result 37 = .ok (.lload_n 1, 1) := by decide +kernel
theorem dX1_result_38 : decode cX1_result 38 = .ok (.lload_n 3, 1) := by decide +kernel
theorem dX1_result_39 : decode cX1_result 39 = .ok (.lmul, 1) := by decide +kernel
theorem dX1_result_40 : decode cX1_result 40 = .ok (.lstore 5, 2) := by decide +kernel
theorem dX1_result_42 : decode cX1_result 42 = .ok (.goto 14, 3) := by decide +kernel
theorem dX1_result_45 : decode cX1_result 45 = .ok (.lload_n 3, 1) := by decide +kernel
theorem dX1_result_46 : decode cX1_result 46 = .ok (.lconst 0, 1) := by decide +kernel
theorem dX1_result_47 : decode cX1_result 47 = .ok (.lcmp, 1) := by decide +kernel
theorem dX1_result_48 : decode cX1_result 48 = .ok (.ifCond .eq 8, 3) := by decide +kernel
theorem dX1_result_51 : decode cX1_result 51 = .ok (.lload_n 1, 1) := by decide +kernel
theorem dX1_result_52 : decode cX1_result 52 = .ok (.lload_n 3, 1) := by decide +kernel
theorem dX1_result_53 : decode cX1_result 53 = .ok (.ldiv, 1) := by decide +kernel
theorem dX1_result_54 : decode cX1_result 54 = .ok (.lstore 5, 2) := by decide +kernel
theorem dX1_result_56 : decode cX1_result 56 = .ok (.ldc2_w 31, 3) := by decide +kernel
theorem dX1_result_59 : decode cX1_result 59 = .ok (.ldc2_w 33, 3) := by decide +kernel
theorem dX1_result_62 : decode cX1_result 62 = .ok (.lload 5, 2) := by decide +kernel
theorem dX1_result_64 : decode cX1_result 64 = .ok (.invokestatic 35, 3) := by decide +kernel
theorem dX1_result_67 : decode cX1_result 67 = .ok (.invokestatic 38, 3) := by decide +kernel
theorem dX1_result_70 : decode cX1_result 70 = .ok (.l2i, 1) := by decide +kernel
theorem dX1_result_71 : decode cX1_result 71 = .ok (.ireturn, 1) := by decide +kernel
theorem dX2_init_0 : decode cX2_init 0 = .ok (.aload_n 0, 1) := by decide +kernel
theorem dX2_init_1 : decode cX2_init 1 = .ok (.invokespecial 3, 3) := by decide +kernel
theorem dX2_init_4 : decode cX2_init 4 = .ok (.aload_n 0, 1) := by decide +kernel
theorem dX2_init_5 : decode cX2_init 5 = .ok (.bipush 8, 2) := by decide +kernel
theorem dX2_init_7 : decode cX2_init 7 = .ok (.anewarray 9, 3) := by decide +kernel
theorem dX2_init_10 : decode cX2_init 10 = .ok (.putfield 11, 3) := by decide +kernel
theorem dX2_init_13 : decode cX2_init 13 = .ok (.aload_n 0, 1) := by decide +kernel
theorem dX2_init_14 : decode cX2_init 14 = .ok (.iconst 0, 1) := by decide +kernel
theorem dX2_init_15 : decode cX2_init 15 = .ok (.putfield 17, 3) := by decide +kernel
theorem dX2_init_18 : decode cX2_init 18 = .ok (.aload_n 0, 1) := by decide +kernel
theorem dX2_init_19 : decode cX2_init 19 = .ok (.iconst 0, 1) := by decide +kernel
theorem dX2_init_20 : decode cX2_init 20 = .ok (.putfield 21, 3) := by decide +kernel
theorem dX2_init_23 : decode cX2_init 23 = .ok (.iconst 0, 1) := by decide +kernel
theorem dX2_init_24 : decode cX2_init 24 = .ok (.istore_n 1, 1) := by decide +kernel
theorem dX2_init_25 : decode cX2_init 25 = .ok (.iload_n 1, 1) := by decide +kernel
theorem dX2_init_26 : decode cX2_init 26 = .ok (.bipush 8, 2) := by decide +kernel
theorem dX2_init_28 : decode cX2_init 28 = .ok (.if_icmp .ge 22, 3) := by decide +kernel
theorem dX2_init_31 : decode cX2_init 31 = .ok (.aload_n 0, 1) := by decide +kernel
theorem dX2_init_32 : decode cX2_init 32 = .ok (.getfield 11, 3) := by decide +kernel
theorem dX2_init_35 : decode cX2_init 35 = .ok (.iload_n 1, 1) := by decide +kernel
theorem dX2_init_36 : decode cX2_init 36 = .ok (.new 9, 3) := by decide +kernel
theorem dX2_init_39 : decode cX2_init 39 = .ok (.dup, 1) := by decide +kernel
theorem dX2_init_40 : decode cX2_init 40 = .ok (.invokespecial 24, 3) := by decide +kernel
theorem dX2_init_43 : decode cX2_init 43 = .ok (.aastore, 1) := by decide +kernel
theorem dX2_init_44 : decode cX2_init 44 = .ok (.iinc 1 1, 3) := by decide +kernel
theorem dX2_init_47 : decode cX2_init 47 = .ok (.goto (-22), 3) := by decide +kernel
theorem dX2_init_50 : decode cX2_init 50 = .ok (.return_, 1) := by decide +kernel
theorem dX2_remember_0 : decode cX2_remember 0 = .ok (.aload_n 0, 1) := by decide +kernel
theorem dX2_remember_1 : decode cX2_remember 1 = .ok (.getfield 11, 3) := by decide +kernel
theorem dX2_remember_4 : decode cX2_remember 4 = .ok (.aload_n 0, 1) := by decide +kernel
theorem dX2_remember_5 : decode cX2_remember 5 = .ok (.getfield 17, 3) := by decide +kernel
theorem dX2_remember_8 : decode cX2_remember 8 = .ok (.aaload, 1) := by decide +kernel
theorem dX2_remember_9 : decode cX2_remember 9 = .ok (.aload_n 1, 1) := by decide +kernel
theorem dX2_remember_10 : decode cX2_remember 10 = .ok (.invokevirtual 25, 3) := by decide +kernel
theorem dX2_remember_13 : decode cX2_remember 13 = .ok (.aload_n 0, 1) := by decide +kernel
theorem dX2_remember_14 : decode cX2_remember 14 = .ok (.aload_n 0, 1) := by decide +kernel
theorem dX2_remember_15 : decode cX2_remember 15 = .ok (.getfield 17, 3) := by decide +kernel
theorem dX2_remember_18 : decode cX2_remember 18 = .ok (.iconst 1, 1) := by decide +kernel
theorem dX2_remember_19 : decode cX2_remember 19 = .ok (.iadd, 1) := by decide +kernel
theorem dX2_remember_20 : decode cX2_remember 20 = .ok (.bipush 8, 2) := by decide +kernel
theorem dX2_remember_22 : decode cX2_remember 22 = .ok (.if_icmp .ge 12, 3) := by decide +kernel
theorem dX2_remember_25 : decode cX2_remember 25 = .ok (.aload_n 0, 1) := by decide +kernel
theorem dX2_remember_26 : decode cX2_remember 26 = .ok (.getfield 17, 3) := by decide +kernel
theorem dX2_remember_29 : decode cX2_remember 29 = .ok (.iconst 1, 1) := by decide +kernel
theorem dX2_remember_30 : decode cX2_remember 30 = .ok (.iadd, 1) := by decide +kernel
theorem dX2_remember_31 : decode cX2_remember 31 = .ok (.goto 4, 3) := by decide +kernel
theorem dX2_remember_34 : decode cX2_remember 34 = .ok (.iconst 0, 1) := by decide +kernel
theorem dX2_remember_35 : decode cX2_remember 35 = .ok (.putfield 17, 3) := by decide +kernel
theorem dX2_remember_38 : decode cX2_remember 38 = .ok (.aload_n 0, 1) := by decide +kernel
theorem dX2_remember_39 : decode cX2_remember 39 = .ok (.aload_n 0, 1) := by decide +kernel
theorem dX2_remember_40 : decode cX2_remember 40 = .ok (.getfield 21, 3) := by decide +kernel
theorem dX2_remember_43 : decode cX2_remember 43 = .ok (.iconst 1, 1) := by decide +kernel
theorem dX2_remember_44 : decode cX2_remember 44 = .ok (.iadd, 1) := by decide +kernel
theorem dX2_remember_45 : decode cX2_remember 45 = .ok (.bipush 8, 2) := by decide +kernel
theorem dX2_remember_47 : decode cX2_remember 47 = .ok (.invokestatic 29, 3) := by decide +kernel
theorem dX2_remember_50 : decode cX2_remember 50 = .ok (.putfield 21, 3) := by decide +kernel
theorem dX2_remember_53 : decode cX2_remember 53 = .ok (.return_, 1) := by decide +kernel
theorem dX2_restoreLatest_0 : decode cX2_restoreLatest 0 = .ok (.aload_n 0, 1) := by decide +kernel
theorem dX2_restoreLatest_1 : decode cX2_restoreLatest 1 = .ok (.getfield 21, 3) := by decide +kernel
theorem dX2_restoreLatest_4 : decode cX2_restoreLatest 4 = .ok (.ifCond .ne 5, 3) := by decide +kernel
theorem dX2_restoreLatest_7 : decode cX2_restoreLatest 7 = .ok (.iconst (-1), 1) := by decide +kernel
theorem dX2_restoreLatest_8 : decode cX2_restoreLatest 8 = .ok (.ireturn, 1) := by decide +kernel
theorem dX2_restoreLatest_9 : decode cX2_restoreLatest 9 = .ok (.aload_n 0, 1) := by decide +kernel
theorem dX2_restoreLatest_10 : decode cX2_restoreLatest 10 = .ok (.aload_n 0, 1) := by decide +kernel
theorem dX2_restoreLatest_11 : decode cX2_restoreLatest 11 = .ok (.getfield 17, 3) := by decide +kernel
theorem dX2_restoreLatest_14 : decode cX2_restoreLatest 14 = .ok (.ifCond .le 12, 3) := by decide +kernel
theorem dX2_restoreLatest_17 : decode cX2_restoreLatest 17 = .ok (.aload_n 0, 1) := by decide +kernel
theorem dX2_restoreLatest_18 : decode cX2_restoreLatest 18 = .ok (.getfield 17, 3) := by decide +kernel
theorem dX2_restoreLatest_21 : decode cX2_restoreLatest 21 = .ok (.iconst 1, 1) := by decide +kernel
theorem dX2_restoreLatest_22 : decode cX2_restoreLatest 22 = .ok (.isub, 1) := by decide +kernel
theorem dX2_restoreLatest_23 : decode cX2_restoreLatest 23 = .ok (.goto 5, 3) := by decide +kernel
theorem dX2_restoreLatest_26 : decode cX2_restoreLatest 26 = .ok (.bipush 7, 2) := by decide +kernel
theorem dX2_restoreLatest_28 : decode cX2_restoreLatest 28 = .ok (.putfield 17, 3) := by decide +kernel
theorem dX2_restoreLatest_31 : decode cX2_restoreLatest 31 = .ok (.aload_n 1, 1) := by decide +kernel
theorem dX2_restoreLatest_32 : decode cX2_restoreLatest 32 = .ok (.aload_n 0, 1) := by decide +kernel
theorem dX2_restoreLatest_33 : decode cX2_restoreLatest 33 = .ok (.getfield 11, 3) := by decide +kernel
theorem dX2_restoreLatest_36 : decode cX2_restoreLatest 36 = .ok (.aload_n 0, 1) := by decide +kernel
theorem dX2_restoreLatest_37 : decode cX2_restoreLatest 37 = .ok (.getfield 17, 3) := by decide +kernel
theorem dX2_restoreLatest_40 : decode cX2_restoreLatest 40 = .ok (.aaload, 1) := by decide +kernel
theorem dX2_restoreLatest_41 : decode cX2_restoreLatest 41 = .ok (.invokevirtual 25, 3) := by decide +kernel
theorem dX2_restoreLatest_44 : decode cX2_restoreLatest 44 = .ok (.aload_n 0, 1) := by decide +kernel
theorem dX2_restoreLatest_45 : decode cX2_restoreLatest 45 = .ok (.dup, 1) := by decide +kernel
theorem dX2_restoreLatest_46 : decode cX2_restoreLatest 46 = .ok (.getfield 21, 3) := by decide +kernel
theorem dX2_restoreLatest_49 : decode cX2_restoreLatest 49 = .ok (.iconst 1, 1) := by decide +kernel
theorem dX2_restoreLatest_50 : decode cX2_restoreLatest 50 = .ok (.isub, 1) := by decide +kernel
theorem dX2_restoreLatest_51 : decode cX2_restoreLatest 51 = .ok (.putfield 21, 3) := by decide +kernel
theorem dX2_restoreLatest_54 : decode cX2_restoreLatest 54 = .ok (.aload_n 0, 1) := by decide +kernel
theorem dX2_restoreLatest_55 : decode cX2_restoreLatest 55 = .ok (.getfield 21, 3) := by decide +kernel
theorem dX2_restoreLatest_58 : decode cX2_restoreLatest 58 = .ok (.ireturn, 1) := by decide +kernel
theorem dX3_init_0 : decode cX3_init 0 = .ok (.aload_n 0, 1) := by decide +kernel
theorem dX3_init_1 : decode cX3_init 1 = .ok (.invokespecial 3, 3) := by decide +kernel
theorem dX3_init_4 : decode cX3_init 4 = .ok (.aload_n 0, 1) := by decide +kernel
theorem dX3_init_5 : decode cX3_init 5 = .ok (.new 9, 3) := by decide +kernel
theorem dX3_init_8 : decode cX3_init 8 = .ok (.dup, 1) := by decide +kernel
theorem dX3_init_9 : decode cX3_init 9 = .ok (.invokespecial 11, 3) := by decide +kernel
theorem dX3_init_12 : decode cX3_init 12 = .ok (.putfield 12, 3) := by decide +kernel
theorem dX3_init_15 : decode cX3_init 15 = .ok (.aload_n 0, 1) := by decide +kernel
theorem dX3_init_16 : decode cX3_init 16 = .ok (.new 18, 3) := by decide +kernel
theorem dX3_init_19 : decode cX3_init 19 = .ok (.dup, 1) := by decide +kernel
theorem dX3_init_20 : decode cX3_init 20 = .ok (.invokespecial 20, 3) := by decide +kernel
theorem dX3_init_23 : decode cX3_init 23 = .ok (.putfield 21, 3) := by decide +kernel
theorem dX3_init_26 : decode cX3_init 26 = .ok (.aload_n 0, 1) := by decide +kernel
theorem dX3_init_27 : decode cX3_init 27 = .ok (.new 25, 3) := by decide +kernel
theorem dX3_init_30 : decode cX3_init 30 = .ok (.dup, 1) := by decide +kernel
theorem dX3_init_31 : decode cX3_init 31 = .ok (.iconst 1, 1) := by decide +kernel
theorem dX3_init_32 : decode cX3_init 32 = .ok (.newarray .int, 2) := by decide +kernel
theorem dX3_init_34 : decode cX3_init 34 = .ok (.dup, 1) := by decide +kernel
theorem dX3_init_35 : decode cX3_init 35 = .ok (.iconst 0, 1) := by decide +kernel
theorem dX3_init_36 : decode cX3_init 36 = .ok (.iconst (-1), 1) := by decide +kernel
theorem dX3_init_37 : decode cX3_init 37 = .ok (.iastore, 1) := by decide +kernel
theorem dX3_init_38 : decode cX3_init 38 = .ok (.invokespecial 27, 3) := by decide +kernel
theorem dX3_init_41 : decode cX3_init 41 = .ok (.putfield 30, 3) := by decide +kernel
theorem dX3_init_44 : decode cX3_init 44 = .ok (.aload_n 0, 1) := by decide +kernel
theorem dX3_init_45 : decode cX3_init 45 = .ok (.iconst 0, 1) := by decide +kernel
theorem dX3_init_46 : decode cX3_init 46 = .ok (.putfield 34, 3) := by decide +kernel
theorem dX3_init_49 : decode cX3_init 49 = .ok (.return_, 1) := by decide +kernel
theorem dX3_copyFrom_0 : decode cX3_copyFrom 0 = .ok (.aload_n 0, 1) := by decide +kernel
theorem dX3_copyFrom_1 : decode cX3_copyFrom 1 = .ok (.getfield 12, 3) := by decide +kernel
theorem dX3_copyFrom_4 : decode cX3_copyFrom 4 = .ok (.aload_n 1, 1) := by decide +kernel
theorem dX3_copyFrom_5 : decode cX3_copyFrom 5 = .ok (.getfield 12, 3) := by decide +kernel
theorem dX3_copyFrom_8 : decode cX3_copyFrom 8 = .ok (.invokevirtual 38, 3) := by decide +kernel
theorem dX3_copyFrom_11 : decode cX3_copyFrom 11 = .ok (.aload_n 0, 1) := by decide +kernel
theorem dX3_copyFrom_12 : decode cX3_copyFrom 12 = .ok (.getfield 21, 3) := by decide +kernel
theorem dX3_copyFrom_15 : decode cX3_copyFrom 15 = .ok (.aload_n 1, 1) := by decide +kernel
theorem dX3_copyFrom_16 : decode cX3_copyFrom 16 = .ok (.getfield 21, 3) := by decide +kernel
theorem dX3_copyFrom_19 : decode cX3_copyFrom 19 = .ok (.invokevirtual 42, 3) := by decide +kernel
theorem dX3_copyFrom_22 : decode cX3_copyFrom 22 = .ok (.aload_n 0, 1) := by decide +kernel
theorem dX3_copyFrom_23 : decode cX3_copyFrom 23 = .ok (.aload_n 1, 1) := by decide +kernel
theorem dX3_copyFrom_24 : decode cX3_copyFrom 24 = .ok (.getfield 30, 3) := by decide +kernel
theorem dX3_copyFrom_27 : decode cX3_copyFrom 27 = .ok (.putfield 30, 3) := by decide +kernel
theorem dX3_copyFrom_30 : decode cX3_copyFrom 30 = .ok (.aload_n 0, 1) := by decide +kernel
theorem dX3_copyFrom_31 : decode cX3_copyFrom 31 = .ok (.aload_n 1, 1) := by decide +kernel
theorem dX3_copyFrom_32 : decode cX3_copyFrom 32 = .ok (.getfield 34, 3) := by decide +kernel
theorem dX3_copyFrom_35 : decode cX3_copyFrom 35 = .ok (.putfield 34, 3) := by decide +kernel
theorem dX3_copyFrom_38 : decode cX3_copyFrom 38 = .ok (.return_, 1) := by decide +kernel
theorem dX3_startAgainOn_0 : decode cX3_startAgainOn 0 = .ok (.aload_n 0, 1) := by decide +kernel
theorem dX3_startAgainOn_1 : decode cX3_startAgainOn 1 = .ok (.getfield 12, 3) := by decide +kernel
theorem dX3_startAgainOn_4 : decode cX3_startAgainOn 4 = .ok (.iload_n 1, 1) := by decide +kernel
theorem dX3_startAgainOn_5 : decode cX3_startAgainOn 5 = .ok (.invokevirtual 45, 3) := by decide +kernel
theorem dX3_startAgainOn_8 : decode cX3_startAgainOn 8 = .ok (.aload_n 0, 1) := by decide +kernel
theorem dX3_startAgainOn_9 : decode cX3_startAgainOn 9 = .ok (.getfield 21, 3) := by decide +kernel
theorem dX3_startAgainOn_12 : decode cX3_startAgainOn 12 = .ok (.iload_n 1, 1) := by decide +kernel
theorem dX3_startAgainOn_13 : decode cX3_startAgainOn 13 = .ok (.invokevirtual 49, 3) := by decide +kernel
theorem dX3_startAgainOn_16 : decode cX3_startAgainOn 16 = .ok (.aload_n 0, 1) := by decide +kernel
theorem dX3_startAgainOn_17 : decode cX3_startAgainOn 17 = .ok (.iconst 0, 1) := by decide +kernel
theorem dX3_startAgainOn_18 : decode cX3_startAgainOn 18 = .ok (.putfield 34, 3) := by decide +kernel
theorem dX3_startAgainOn_21 : decode cX3_startAgainOn 21 = .ok (.return_, 1) := by decide +kernel
theorem dX3_cyclesUntilFinished_0 : decode cX3_cyclesUntilFinished 0 = .ok (.iconst 0, 1) := by decide +kernel
theorem dX3_cyclesUntilFinished_1 : decode cX3_cyclesUntilFinished 1 = .ok (.istore_n 2, 1) := by decide +kernel
theorem dX3_cyclesUntilFinished_2 : decode cX3_cyclesUntilFinished 2 = .ok (.iload_n 2, 1) := by decide +kernel
theorem dX3_cyclesUntilFinished_3 : decode cX3_cyclesUntilFinished 3 = .ok (.iload_n 1, 1) := by decide +kernel
theorem dX3_cyclesUntilFinished_4 : decode cX3_cyclesUntilFinished 4 = .ok (.if_icmp .gt 26, 3) := by decide +kernel
theorem dX3_cyclesUntilFinished_7 : decode cX3_cyclesUntilFinished 7 = .ok (.aload_n 0, 1) := by decide +kernel
theorem dX3_cyclesUntilFinished_8 : decode cX3_cyclesUntilFinished 8 = .ok (.getfield 12, 3) := by decide +kernel
theorem dX3_cyclesUntilFinished_11 : decode cX3_cyclesUntilFinished 11 = .ok (.invokevirtual 50, 3) := by decide +kernel
theorem dX3_cyclesUntilFinished_14 : decode cX3_cyclesUntilFinished 14 = .ok (.ifCond .ne 5, 3) := by decide +kernel
theorem dX3_cyclesUntilFinished_17 : decode cX3_cyclesUntilFinished 17 = .ok (.iload_n 2, 1) := by decide +kernel
theorem dX3_cyclesUntilFinished_18 : decode cX3_cyclesUntilFinished 18 = .ok (.ireturn, 1) := by decide +kernel
theorem dX3_cyclesUntilFinished_19 : decode cX3_cyclesUntilFinished 19 = .ok (.aload_n 0, 1) := by decide +kernel
theorem dX3_cyclesUntilFinished_20 : decode cX3_cyclesUntilFinished 20 = .ok (.invokevirtual 54, 3) := by decide +kernel
theorem dX3_cyclesUntilFinished_23 : decode cX3_cyclesUntilFinished 23 = .ok (.pop, 1) := by decide +kernel
theorem dX3_cyclesUntilFinished_24 : decode cX3_cyclesUntilFinished 24 = .ok (.iinc 2 1, 3) := by decide +kernel
theorem dX3_cyclesUntilFinished_27 : decode cX3_cyclesUntilFinished 27 = .ok (.goto (-25), 3) := by decide +kernel
theorem dX3_cyclesUntilFinished_30 : decode cX3_cyclesUntilFinished 30 = .ok (.iconst (-1), 1) := by decide +kernel
theorem dX3_cyclesUntilFinished_31 : decode cX3_cyclesUntilFinished 31 = .ok (.ireturn, 1) := by decide +kernel
theorem dX3_cycle_0 : decode cX3_cycle 0 = .ok (.aload_n 0, 1) := by decide +kernel
theorem dX3_cycle_1 : decode cX3_cycle 1 = .ok (.invokevirtual 57, 3) := by decide +kernel
theorem dX3_cycle_4 : decode cX3_cycle 4 = .ok (.istore_n 1, 1) := by decide +kernel
theorem dX3_cycle_5 : decode cX3_cycle 5 = .ok (.aload_n 0, 1) := by decide +kernel
theorem dX3_cycle_6 : decode cX3_cycle 6 = .ok (.getfield 12, 3) := by decide +kernel
theorem dX3_cycle_9 : decode cX3_cycle 9 = .ok (.invokevirtual 60, 3) := by decide +kernel
theorem dX3_cycle_12 : decode cX3_cycle 12 = .ok (.aload_n 0, 1) := by decide +kernel
theorem dX3_cycle_13 : decode cX3_cycle 13 = .ok (.invokevirtual 63, 3) := by decide +kernel
theorem dX3_cycle_16 : decode cX3_cycle 16 = .ok (.aload_n 0, 1) := by decide +kernel
theorem dX3_cycle_17 : decode cX3_cycle 17 = .ok (.invokevirtual 66, 3) := by decide +kernel
theorem dX3_cycle_20 : decode cX3_cycle 20 = .ok (.aload_n 0, 1) := by decide +kernel
theorem dX3_cycle_21 : decode cX3_cycle 21 = .ok (.getfield 21, 3) := by decide +kernel
theorem dX3_cycle_24 : decode cX3_cycle 24 = .ok (.invokevirtual 69, 3) := by decide +kernel
theorem dX3_cycle_27 : decode cX3_cycle 27 = .ok (.aload_n 0, 1) := by decide +kernel
theorem dX3_cycle_28 : decode cX3_cycle 28 = .ok (.dup, 1) := by decide +kernel
theorem dX3_cycle_29 : decode cX3_cycle 29 = .ok (.getfield 34, 3) := by decide +kernel
theorem dX3_cycle_32 : decode cX3_cycle 32 = .ok (.iconst 1, 1) := by decide +kernel
theorem dX3_cycle_33 : decode cX3_cycle 33 = .ok (.iadd, 1) := by decide +kernel
theorem dX3_cycle_34 : decode cX3_cycle 34 = .ok (.putfield 34, 3) := by decide +kernel
theorem dX3_cycle_37 : decode cX3_cycle 37 = .ok (.iload_n 1, 1) := by decide +kernel
theorem dX3_cycle_38 : decode cX3_cycle 38 = .ok (.ireturn, 1) := by decide +kernel
theorem dX3_finishTasks_0 : decode cX3_finishTasks 0 = .ok (.iconst 0, 1) := by decide +kernel
theorem dX3_finishTasks_1 : decode cX3_finishTasks 1 = .ok (.istore_n 1, 1) := by decide +kernel
theorem dX3_finishTasks_2 : decode cX3_finishTasks 2 = .ok (.iconst 0, 1) := by decide +kernel
theorem dX3_finishTasks_3 : decode cX3_finishTasks 3 = .ok (.istore_n 2, 1) := by decide +kernel
theorem dX3_finishTasks_4 : decode cX3_finishTasks 4 = .ok (.iload_n 2, 1) := by decide +kernel
theorem dX3_finishTasks_5 : decode cX3_finishTasks 5 = .ok (.aload_n 0, 1) := by decide +kernel
theorem dX3_finishTasks_6 : decode cX3_finishTasks 6 = .ok (.getfield 21, 3) := by decide +kernel
theorem dX3_finishTasks_9 : decode cX3_finishTasks 9 = .ok (.getfield 72, 3) := by decide +kernel
theorem dX3_finishTasks_12 : decode cX3_finishTasks 12 = .ok (.if_icmp .ge 84, 3) := by decide +kernel
theorem dX3_finishTasks_15 : decode cX3_finishTasks 15 = .ok (.aload_n 0, 1) := by decide +kernel
theorem dX3_finishTasks_16 : decode cX3_finishTasks 16 = .ok (.getfield 21, 3) := by decide +kernel
theorem dX3_finishTasks_19 : decode cX3_finishTasks 19 = .ok (.getfield 75, 3) := by decide +kernel
theorem dX3_finishTasks_22 : decode cX3_finishTasks 22 = .ok (.iload_n 2, 1) := by decide +kernel
theorem dX3_finishTasks_23 : decode cX3_finishTasks 23 = .ok (.iaload, 1) := by decide +kernel
theorem dX3_finishTasks_24 : decode cX3_finishTasks 24 = .ok (.istore_n 3, 1) := by decide +kernel
theorem dX3_finishTasks_25 : decode cX3_finishTasks 25 = .ok (.iload_n 3, 1) := by decide +kernel
theorem dX3_finishTasks_26 : decode cX3_finishTasks 26 = .ok (.ifCond .lt 64, 3) := by decide +kernel
theorem dX3_finishTasks_29 : decode cX3_finishTasks 29 = .ok (.aload_n 0, 1) := by decide +kernel
theorem dX3_finishTasks_30 : decode cX3_finishTasks 30 = .ok (.getfield 21, 3) := by decide +kernel
theorem dX3_finishTasks_33 : decode cX3_finishTasks 33 = .ok (.getfield 79, 3) := by decide +kernel
theorem dX3_finishTasks_36 : decode cX3_finishTasks 36 = .ok (.iload_n 2, 1) := by decide +kernel
theorem dX3_finishTasks_37 : decode cX3_finishTasks 37 = .ok (.dup2, 1) := by decide +kernel
theorem dX3_finishTasks_38 : decode cX3_finishTasks 38 = .ok (.iaload, 1) := by decide +kernel
theorem dX3_finishTasks_39 : decode cX3_finishTasks 39 = .ok (.iconst 1, 1) := by decide +kernel
theorem dX3_finishTasks_40 : decode cX3_finishTasks 40 = .ok (.isub, 1) := by decide +kernel
theorem dX3_finishTasks_41 : decode cX3_finishTasks 41 = .ok (.iastore, 1) := by decide +kernel
theorem dX3_finishTasks_42 : decode cX3_finishTasks 42 = .ok (.aload_n 0, 1) := by decide +kernel
theorem dX3_finishTasks_43 : decode cX3_finishTasks 43 = .ok (.getfield 21, 3) := by decide +kernel
theorem dX3_finishTasks_46 : decode cX3_finishTasks 46 = .ok (.getfield 79, 3) := by decide +kernel
theorem dX3_finishTasks_49 : decode cX3_finishTasks 49 = .ok (.iload_n 2, 1) := by decide +kernel
theorem dX3_finishTasks_50 : decode cX3_finishTasks 50 = .ok (.iaload, 1) := by decide +kernel
theorem dX3_finishTasks_51 : decode cX3_finishTasks 51 = .ok (.ifCond .ne 39, 3) := by decide +kernel
theorem dX3_finishTasks_54 : decode cX3_finishTasks 54 = .ok (.aload_n 0, 1) := by decide +kernel
theorem dX3_finishTasks_55 : decode cX3_finishTasks 55 = .ok (.getfield 12, 3) := by decide +kernel
theorem dX3_finishTasks_58 : decode cX3_finishTasks 58 = .ok (.getfield 82, 3) := by decide +kernel
theorem dX3_finishTasks_61 : decode cX3_finishTasks 61 = .ok (.iload_n 3, 1) := by decide +kernel
theorem dX3_finishTasks_62 : decode cX3_finishTasks 62 = .ok (.iconst 4, 1) := by decide +kernel
theorem dX3_finishTasks_63 : decode cX3_finishTasks 63 = .ok (.iastore, 1) := by decide +kernel
theorem dX3_finishTasks_64 : decode cX3_finishTasks 64 = .ok (.aload_n 0, 1) := by decide +kernel
theorem dX3_finishTasks_65 : decode cX3_finishTasks 65 = .ok (.getfield 12, 3) := by decide +kernel
theorem dX3_finishTasks_68 : decode cX3_finishTasks 68 = .ok (.getfield 85, 3) := by decide +kernel
theorem dX3_finishTasks_71 : decode cX3_finishTasks 71 = .ok (.iload_n 3, 1) := by decide +kernel
theorem dX3_finishTasks_72 : decode cX3_finishTasks 72 = .ok (.aload_n 0, 1) := by decide +kernel
theorem dX3_finishTasks_73 : decode cX3_finishTasks 73 = .ok (.getfield 34, 3) := by decide +kernel
theorem dX3_finishTasks_76 : decode cX3_finishTasks 76 = .ok (.iastore, 1) := by decide +kernel
theorem dX3_finishTasks_77 : decode cX3_finishTasks 77 = .ok (.aload_n 0, 1) := by decide +kernel
theorem dX3_finishTasks_78 : decode cX3_finishTasks 78 = .ok (.getfield 21, 3) := by decide +kernel
theorem dX3_finishTasks_81 : decode cX3_finishTasks 81 = .ok (.getfield 75, 3) := by decide +kernel
theorem dX3_finishTasks_84 : decode cX3_finishTasks 84 = .ok (.iload_n 2, 1) := by decide +kernel
theorem dX3_finishTasks_85 : decode cX3_finishTasks 85 = .ok (.iconst (-1), 1) := by decide +kernel
theorem dX3_finishTasks_86 : decode cX3_finishTasks 86 = .ok (.iastore, 1) := by decide +kernel
theorem dX3_finishTasks_87 : decode cX3_finishTasks 87 = .ok (.iinc 1 1, 3) := by decide +kernel
theorem dX3_finishTasks_90 : decode cX3_finishTasks 90 = .ok (.iinc 2 1, 3) := by decide +kernel
theorem dX3_finishTasks_93 : decode cX3_finishTasks 93 = .ok (.goto (-89), 3) := by decide +kernel
theorem dX3_finishTasks_96 : decode cX3_finishTasks 96 = .ok (.iload_n 1, 1) := by decide +kernel
theorem dX3_finishTasks_97 : decode cX3_finishTasks 97 = .ok (.ireturn, 1) := by decide +kernel
theorem dX3_queueTasks_0 : decode cX3_queueTasks 0 = .ok (.iconst 0, 1) := by decide +kernel
theorem dX3_queueTasks_1 : decode cX3_queueTasks 1 = .ok (.istore_n 1, 1) := by decide +kernel
theorem dX3_queueTasks_2 : decode cX3_queueTasks 2 = .ok (.iload_n 1, 1) := by decide +kernel
theorem dX3_queueTasks_3 : decode cX3_queueTasks 3 = .ok (.bipush 32, 2) := by decide +kernel
theorem dX3_queueTasks_5 : decode cX3_queueTasks 5 = .ok (.if_icmp .ge 63, 3) := by decide +kernel
theorem dX3_queueTasks_8 : decode cX3_queueTasks 8 = .ok (.aload_n 0, 1) := by decide +kernel
theorem dX3_queueTasks_9 : decode cX3_queueTasks 9 = .ok (.getfield 12, 3) := by decide +kernel
theorem dX3_queueTasks_12 : decode cX3_queueTasks 12 = .ok (.invokevirtual 88, 3) := by decide +kernel
theorem dX3_queueTasks_15 : decode cX3_queueTasks 15 = .ok (.istore_n 2, 1) := by decide +kernel
theorem dX3_queueTasks_16 : decode cX3_queueTasks 16 = .ok (.iload_n 2, 1) := by decide +kernel
theorem dX3_queueTasks_17 : decode cX3_queueTasks 17 = .ok (.ifCond .ge 4, 3) := by decide +kernel
theorem dX3_queueTasks_20 : decode cX3_queueTasks 20 = .ok (.return_, 1) := by decide +kernel
theorem dX3_queueTasks_21 : decode cX3_queueTasks 21 = .ok (.aload_n 0, 1) := by decide +kernel
theorem dX3_queueTasks_22 : decode cX3_queueTasks 22 = .ok (.getfield 21, 3) := by decide +kernel
theorem dX3_queueTasks_25 : decode cX3_queueTasks 25 = .ok (.aload_n 0, 1) := by decide +kernel
theorem dX3_queueTasks_26 : decode cX3_queueTasks 26 = .ok (.getfield 12, 3) := by decide +kernel
theorem dX3_queueTasks_29 : decode cX3_queueTasks 29 = .ok (.getfield 91, 3) := by decide +kernel
theorem dX3_queueTasks_32 : decode cX3_queueTasks 32 = .ok (.iload_n 2, 1) := by decide +kernel
theorem dX3_queueTasks_33 : decode cX3_queueTasks 33 = .ok (.iaload, 1) := by decide +kernel
theorem dX3_queueTasks_34 : decode cX3_queueTasks 34 = .ok (.invokevirtual 94, 3) := by decide +kernel
theorem dX3_queueTasks_37 : decode cX3_queueTasks 37 = .ok (.istore_n 3, 1) := by decide +kernel
theorem dX3_queueTasks_38 : decode cX3_queueTasks 38 = .ok (.iload_n 3, 1) := by decide +kernel
theorem dX3_queueTasks_39 : decode cX3_queueTasks 39 = .ok (.ifCond .ge 4, 3) := by decide +kernel
theorem dX3_queueTasks_42 : decode cX3_queueTasks 42 = .ok (.return_, 1) := by decide +kernel
theorem dX3_queueTasks_43 : decode cX3_queueTasks 43 = .ok (.aload_n 0, 1) := by decide +kernel
theorem dX3_queueTasks_44 : decode cX3_queueTasks 44 = .ok (.getfield 21, 3) := by decide +kernel
theorem dX3_queueTasks_47 : decode cX3_queueTasks 47 = .ok (.iload_n 3, 1) := by decide +kernel
theorem dX3_queueTasks_48 : decode cX3_queueTasks 48 = .ok (.iload_n 2, 1) := by decide +kernel
theorem dX3_queueTasks_49 : decode cX3_queueTasks 49 = .ok (.invokevirtual 98, 3) := by decide +kernel
theorem dX3_queueTasks_52 : decode cX3_queueTasks 52 = .ok (.aload_n 0, 1) := by decide +kernel
theorem dX3_queueTasks_53 : decode cX3_queueTasks 53 = .ok (.getfield 12, 3) := by decide +kernel
theorem dX3_queueTasks_56 : decode cX3_queueTasks 56 = .ok (.getfield 82, 3) := by decide +kernel
theorem dX3_queueTasks_59 : decode cX3_queueTasks 59 = .ok (.iload_n 2, 1) := by decide +kernel
theorem dX3_queueTasks_60 : decode cX3_queueTasks 60 = .ok (.iconst 2, 1) := by decide +kernel
theorem dX3_queueTasks_61 : decode cX3_queueTasks 61 = .ok (.iastore, 1) := by decide +kernel
theorem dX3_queueTasks_62 : decode cX3_queueTasks 62 = .ok (.iinc 1 1, 3) := by decide +kernel
theorem dX3_queueTasks_65 : decode cX3_queueTasks 65 = .ok (.goto (-63), 3) := by decide +kernel
theorem dX3_queueTasks_68 : decode cX3_queueTasks 68 = .ok (.return_, 1) := by decide +kernel
theorem dX3_startTasks_0 : decode cX3_startTasks 0 = .ok (.iconst 0, 1) := by decide +kernel
theorem dX3_startTasks_1 : decode cX3_startTasks 1 = .ok (.istore_n 1, 1) := by decide +kernel
theorem dX3_startTasks_2 : decode cX3_startTasks 2 = .ok (.iload_n 1, 1) := by decide +kernel
theorem dX3_startTasks_3 : decode cX3_startTasks 3 = .ok (.aload_n 0, 1) := by decide +kernel
theorem dX3_startTasks_4 : decode cX3_startTasks 4 = .ok (.getfield 21, 3) := by decide +kernel
theorem dX3_startTasks_7 : decode cX3_startTasks 7 = .ok (.getfield 72, 3) := by decide +kernel
theorem dX3_startTasks_10 : decode cX3_startTasks 10 = .ok (.if_icmp .ge 38, 3) := by decide +kernel
theorem dX3_startTasks_13 : decode cX3_startTasks 13 = .ok (.aload_n 0, 1) := by decide +kernel
theorem dX3_startTasks_14 : decode cX3_startTasks 14 = .ok (.getfield 21, 3) := by decide +kernel
theorem dX3_startTasks_17 : decode cX3_startTasks 17 = .ok (.getfield 102, 3) := by decide +kernel
theorem dX3_startTasks_20 : decode cX3_startTasks 20 = .ok (.iload_n 1, 1) := by decide +kernel
theorem dX3_startTasks_21 : decode cX3_startTasks 21 = .ok (.baload, 1) := by decide +kernel
theorem dX3_startTasks_22 : decode cX3_startTasks 22 = .ok (.ifCond .ne 20, 3) := by decide +kernel
theorem dX3_startTasks_25 : decode cX3_startTasks 25 = .ok (.aload_n 0, 1) := by decide +kernel
theorem dX3_startTasks_26 : decode cX3_startTasks 26 = .ok (.getfield 21, 3) := by decide +kernel
theorem dX3_startTasks_29 : decode cX3_startTasks 29 = .ok (.getfield 75, 3) := by decide +kernel
theorem dX3_startTasks_32 : decode cX3_startTasks 32 = .ok (.iload_n 1, 1) := by decide +kernel
theorem dX3_startTasks_33 : decode cX3_startTasks 33 = .ok (.iaload, 1) := by decide +kernel
theorem dX3_startTasks_34 : decode cX3_startTasks 34 = .ok (.ifCond .ge 8, 3) := by decide +kernel
theorem dX3_startTasks_37 : decode cX3_startTasks 37 = .ok (.aload_n 0, 1) := by decide +kernel
theorem dX3_startTasks_38 : decode cX3_startTasks 38 = .ok (.iload_n 1, 1) := by decide +kernel
theorem dX3_startTasks_39 : decode cX3_startTasks 39 = .ok (.invokevirtual 106, 3) := by decide +kernel
theorem dX3_startTasks_42 : decode cX3_startTasks 42 = .ok (.iinc 1 1, 3) := by decide +kernel
theorem dX3_startTasks_45 : decode cX3_startTasks 45 = .ok (.goto (-43), 3) := by decide +kernel
theorem dX3_startTasks_48 : decode cX3_startTasks 48 = .ok (.return_, 1) := by decide +kernel
theorem dX3_startTask_0 : decode cX3_startTask 0 = .ok (.aload_n 0, 1) := by decide +kernel
theorem dX3_startTask_1 : decode cX3_startTask 1 = .ok (.getfield 21, 3) := by decide +kernel
theorem dX3_startTask_4 : decode cX3_startTask 4 = .ok (.getfield 109, 3) := by decide +kernel
theorem dX3_startTask_7 : decode cX3_startTask 7 = .ok (.iload_n 1, 1) := by decide +kernel
theorem dX3_startTask_8 : decode cX3_startTask 8 = .ok (.iaload, 1) := by decide +kernel
theorem dX3_startTask_9 : decode cX3_startTask 9 = .ok (.ifCond .ne 7, 3) := by decide +kernel
theorem dX3_startTask_12 : decode cX3_startTask 12 = .ok (.iconst 1, 1) := by decide +kernel
theorem dX3_startTask_13 : decode cX3_startTask 13 = .ok (.goto 4, 3) := by decide +kernel
theorem dX3_startTask_16 : decode cX3_startTask 16 = .ok (.iconst 0, 1) := by decide +kernel
theorem dX3_startTask_17 : decode cX3_startTask 17 = .ok (.istore_n 2, 1) := by decide +kernel
theorem dX3_startTask_18 : decode cX3_startTask 18 = .ok (.iload_n 2, 1) := by decide +kernel
theorem dX3_startTask_19 : decode cX3_startTask 19 = .ok (.ifCond .eq 13, 3) := by decide +kernel
theorem dX3_startTask_22 : decode cX3_startTask 22 = .ok (.aload_n 0, 1) := by decide +kernel
theorem dX3_startTask_23 : decode cX3_startTask 23 = .ok (.getfield 21, 3) := by decide +kernel
theorem dX3_startTask_26 : decode cX3_startTask 26 = .ok (.invokevirtual 112, 3) := by decide +kernel
theorem dX3_startTask_29 : decode cX3_startTask 29 = .ok (.goto 4, 3) := by decide +kernel
theorem dX3_startTask_32 : decode cX3_startTask 32 = .ok (.iload_n 1, 1) := by decide +kernel
theorem dX3_startTask_33 : decode cX3_startTask 33 = .ok (.istore_n 3, 1) := by decide +kernel
theorem dX3_startTask_34 : decode cX3_startTask 34 = .ok (.aload_n 0, 1) := by decide +kernel
theorem dX3_startTask_35 : decode cX3_startTask 35 = .ok (.getfield 21, 3) := by decide +kernel
theorem dX3_startTask_38 : decode cX3_startTask 38 = .ok (.iload_n 3, 1) := by decide +kernel
theorem dX3_startTask_39 : decode cX3_startTask 39 = .ok (.iload_n 2, 1) := by decide +kernel
theorem dX3_startTask_40 : decode cX3_startTask 40 = .ok (.ifCond .eq 17, 3) := by decide +kernel
theorem dX3_startTask_43 : decode cX3_startTask 43 = .ok (.aload_n 0, 1) := by decide +kernel
theorem dX3_startTask_44 : decode cX3_startTask 44 = .ok (.getfield 21, 3) := by decide +kernel
theorem dX3_startTask_47 : decode cX3_startTask 47 = .ok (.getfield 109, 3) := by decide +kernel
theorem dX3_startTask_50 : decode cX3_startTask 50 = .ok (.iload_n 3, 1) := by decide +kernel
theorem dX3_startTask_51 : decode cX3_startTask 51 = .ok (.iaload, 1) := by decide +kernel
theorem dX3_startTask_52 : decode cX3_startTask 52 = .ok (.iconst 1, 1) := by decide +kernel
theorem dX3_startTask_53 : decode cX3_startTask 53 = .ok (.isub, 1) := by decide +kernel
theorem dX3_startTask_54 : decode cX3_startTask 54 = .ok (.goto 4, 3) := by decide +kernel
theorem dX3_startTask_57 : decode cX3_startTask 57 = .ok (.iconst 0, 1) := by decide +kernel
theorem dX3_startTask_58 : decode cX3_startTask 58 = .ok (.invokevirtual 115, 3) := by decide +kernel
theorem dX3_startTask_61 : decode cX3_startTask 61 = .ok (.istore 4, 2) := by decide +kernel
theorem dX3_startTask_63 : decode cX3_startTask 63 = .ok (.iload 4, 2) := by decide +kernel
theorem dX3_startTask_65 : decode cX3_startTask 65 = .ok (.ifCond .ge 4, 3) := by decide +kernel
theorem dX3_startTask_68 : decode cX3_startTask 68 = .ok (.return_, 1) := by decide +kernel
theorem dX3_startTask_69 : decode cX3_startTask 69 = .ok (.aload_n 0, 1) := by decide +kernel
theorem dX3_startTask_70 : decode cX3_startTask 70 = .ok (.getfield 30, 3) := by decide +kernel
theorem dX3_startTask_73 : decode cX3_startTask 73 = .ok (.aload_n 0, 1) := by decide +kernel
theorem dX3_startTask_74 : decode cX3_startTask 74 = .ok (.getfield 12, 3) := by decide +kernel
theorem dX3_startTask_77 : decode cX3_startTask 77 = .ok (.getfield 119, 3) := by decide +kernel
theorem dX3_startTask_80 : decode cX3_startTask 80 = .ok (.iload 4, 2) := by decide +kernel
theorem dX3_startTask_82 : decode cX3_startTask 82 = .ok (.iaload, 1) := by decide +kernel
theorem dX3_startTask_83 : decode cX3_startTask 83 = .ok (.aload_n 0, 1) := by decide +kernel
theorem dX3_startTask_84 : decode cX3_startTask 84 = .ok (.getfield 12, 3) := by decide +kernel
theorem dX3_startTask_87 : decode cX3_startTask 87 = .ok (.getfield 122, 3) := by decide +kernel
theorem dX3_startTask_90 : decode cX3_startTask 90 = .ok (.iload 4, 2) := by decide +kernel
theorem dX3_startTask_92 : decode cX3_startTask 92 = .ok (.iaload, 1) := by decide +kernel
theorem dX3_startTask_93 : decode cX3_startTask 93 = .ok (.iload_n 1, 1) := by decide +kernel
theorem dX3_startTask_94 : decode cX3_startTask 94 = .ok (.aload_n 0, 1) := by decide +kernel
theorem dX3_startTask_95 : decode cX3_startTask 95 = .ok (.getfield 21, 3) := by decide +kernel
theorem dX3_startTask_98 : decode cX3_startTask 98 = .ok (.getfield 109, 3) := by decide +kernel
theorem dX3_startTask_101 : decode cX3_startTask 101 = .ok (.iload_n 1, 1) := by decide +kernel
theorem dX3_startTask_102 : decode cX3_startTask 102 = .ok (.iaload, 1) := by decide +kernel
theorem dX3_startTask_103 : decode cX3_startTask 103 = .ok (.invokevirtual 125, 3) := by decide +kernel
theorem dX3_startTask_106 : decode cX3_startTask 106 = .ok (.istore 5, 2) := by decide +kernel
theorem dX3_startTask_108 : decode cX3_startTask 108 = .ok (.aload_n 0, 1) := by decide +kernel
theorem dX3_startTask_109 : decode cX3_startTask 109 = .ok (.getfield 12, 3) := by decide +kernel
theorem dX3_startTask_112 : decode cX3_startTask 112 = .ok (.getfield 82, 3) := by decide +kernel
theorem dX3_startTask_115 : decode cX3_startTask 115 = .ok (.iload 4, 2) := by decide +kernel
theorem dX3_startTask_117 : decode cX3_startTask 117 = .ok (.iconst 3, 1) := by decide +kernel
theorem dX3_startTask_118 : decode cX3_startTask 118 = .ok (.iastore, 1) := by decide +kernel
theorem dX3_startTask_119 : decode cX3_startTask 119 = .ok (.aload_n 0, 1) := by decide +kernel
theorem dX3_startTask_120 : decode cX3_startTask 120 = .ok (.getfield 12, 3) := by decide +kernel
theorem dX3_startTask_123 : decode cX3_startTask 123 = .ok (.getfield 129, 3) := by decide +kernel
theorem dX3_startTask_126 : decode cX3_startTask 126 = .ok (.iload 4, 2) := by decide +kernel
theorem dX3_startTask_128 : decode cX3_startTask 128 = .ok (.iload_n 1, 1) := by decide +kernel
theorem dX3_startTask_129 : decode cX3_startTask 129 = .ok (.iastore, 1) := by decide +kernel
theorem dX3_startTask_130 : decode cX3_startTask 130 = .ok (.aload_n 0, 1) := by decide +kernel
theorem dX3_startTask_131 : decode cX3_startTask 131 = .ok (.getfield 21, 3) := by decide +kernel
theorem dX3_startTask_134 : decode cX3_startTask 134 = .ok (.getfield 75, 3) := by decide +kernel
theorem dX3_startTask_137 : decode cX3_startTask 137 = .ok (.iload_n 1, 1) := by decide +kernel
theorem dX3_startTask_138 : decode cX3_startTask 138 = .ok (.iload 4, 2) := by decide +kernel
theorem dX3_startTask_140 : decode cX3_startTask 140 = .ok (.iastore, 1) := by decide +kernel
theorem dX3_startTask_141 : decode cX3_startTask 141 = .ok (.aload_n 0, 1) := by decide +kernel
theorem dX3_startTask_142 : decode cX3_startTask 142 = .ok (.getfield 21, 3) := by decide +kernel
theorem dX3_startTask_145 : decode cX3_startTask 145 = .ok (.getfield 79, 3) := by decide +kernel
theorem dX3_startTask_148 : decode cX3_startTask 148 = .ok (.iload_n 1, 1) := by decide +kernel
theorem dX3_startTask_149 : decode cX3_startTask 149 = .ok (.iload 5, 2) := by decide +kernel
theorem dX3_startTask_151 : decode cX3_startTask 151 = .ok (.iastore, 1) := by decide +kernel
theorem dX3_startTask_152 : decode cX3_startTask 152 = .ok (.iload_n 2, 1) := by decide +kernel
theorem dX3_startTask_153 : decode cX3_startTask 153 = .ok (.ifCond .eq 35, 3) := by decide +kernel
theorem dX3_startTask_156 : decode cX3_startTask 156 = .ok (.aload_n 0, 1) := by decide +kernel
theorem dX3_startTask_157 : decode cX3_startTask 157 = .ok (.getfield 21, 3) := by decide +kernel
theorem dX3_startTask_160 : decode cX3_startTask 160 = .ok (.getfield 79, 3) := by decide +kernel
theorem dX3_startTask_163 : decode cX3_startTask 163 = .ok (.iload_n 1, 1) := by decide +kernel
theorem dX3_startTask_164 : decode cX3_startTask 164 = .ok (.dup2, 1) := by decide +kernel
theorem dX3_startTask_165 : decode cX3_startTask 165 = .ok (.iaload, 1) := by decide +kernel
theorem dX3_startTask_166 : decode cX3_startTask 166 = .ok (.aload_n 0, 1) := by decide +kernel
theorem dX3_startTask_167 : decode cX3_startTask 167 = .ok (.getfield 21, 3) := by decide +kernel
theorem dX3_startTask_170 : decode cX3_startTask 170 = .ok (.getfield 132, 3) := by decide +kernel
theorem dX3_startTask_173 : decode cX3_startTask 173 = .ok (.iadd, 1) := by decide +kernel
theorem dX3_startTask_174 : decode cX3_startTask 174 = .ok (.iastore, 1) := by decide +kernel
theorem dX3_startTask_175 : decode cX3_startTask 175 = .ok (.aload_n 0, 1) := by decide +kernel
theorem dX3_startTask_176 : decode cX3_startTask 176 = .ok (.getfield 21, 3) := by decide +kernel
theorem dX3_startTask_179 : decode cX3_startTask 179 = .ok (.getfield 135, 3) := by decide +kernel
theorem dX3_startTask_182 : decode cX3_startTask 182 = .ok (.iload_n 1, 1) := by decide +kernel
theorem dX3_startTask_183 : decode cX3_startTask 183 = .ok (.dup2, 1) := by decide +kernel
theorem dX3_startTask_184 : decode cX3_startTask 184 = .ok (.iaload, 1) := by decide +kernel
theorem dX3_startTask_185 : decode cX3_startTask 185 = .ok (.iconst 1, 1) := by decide +kernel
theorem dX3_startTask_186 : decode cX3_startTask 186 = .ok (.iadd, 1) := by decide +kernel
theorem dX3_startTask_187 : decode cX3_startTask 187 = .ok (.iastore, 1) := by decide +kernel
theorem dX3_startTask_188 : decode cX3_startTask 188 = .ok (.return_, 1) := by decide +kernel
theorem dX4_init_0 : decode cX4_init 0 = .ok (.aload_n 0, 1) := by decide +kernel
theorem dX4_init_1 : decode cX4_init 1 = .ok (.invokespecial 3, 3) := by decide +kernel
theorem dX4_init_4 : decode cX4_init 4 = .ok (.aload_n 0, 1) := by decide +kernel
theorem dX4_init_5 : decode cX4_init 5 = .ok (.new 9, 3) := by decide +kernel
theorem dX4_init_8 : decode cX4_init 8 = .ok (.dup, 1) := by decide +kernel
theorem dX4_init_9 : decode cX4_init 9 = .ok (.invokespecial 11, 3) := by decide +kernel
theorem dX4_init_12 : decode cX4_init 12 = .ok (.putfield 12, 3) := by decide +kernel
theorem dX4_init_15 : decode cX4_init 15 = .ok (.aload_n 0, 1) := by decide +kernel
theorem dX4_init_16 : decode cX4_init 16 = .ok (.iconst 0, 1) := by decide +kernel
theorem dX4_init_17 : decode cX4_init 17 = .ok (.putfield 18, 3) := by decide +kernel
theorem dX4_init_20 : decode cX4_init 20 = .ok (.aload_n 0, 1) := by decide +kernel
theorem dX4_init_21 : decode cX4_init 21 = .ok (.iconst (-1), 1) := by decide +kernel
theorem dX4_init_22 : decode cX4_init 22 = .ok (.putfield 22, 3) := by decide +kernel
theorem dX4_init_25 : decode cX4_init 25 = .ok (.aload_n 0, 1) := by decide +kernel
theorem dX4_init_26 : decode cX4_init 26 = .ok (.sipush 900, 3) := by decide +kernel
theorem dX4_init_29 : decode cX4_init 29 = .ok (.newarray .int, 2) := by decide +kernel
theorem dX4_init_31 : decode cX4_init 31 = .ok (.putfield 25, 3) := by decide +kernel
theorem dX4_init_34 : decode cX4_init 34 = .ok (.aload_n 0, 1) := by decide +kernel
theorem dX4_init_35 : decode cX4_init 35 = .ok (.iconst 0, 1) := by decide +kernel
theorem dX4_init_36 : decode cX4_init 36 = .ok (.putfield 29, 3) := by decide +kernel
theorem dX4_init_39 : decode cX4_init 39 = .ok (.aload_n 0, 1) := by decide +kernel
theorem dX4_init_40 : decode cX4_init 40 = .ok (.iconst 0, 1) := by decide +kernel
theorem dX4_init_41 : decode cX4_init 41 = .ok (.putfield 32, 3) := by decide +kernel
theorem dX4_init_44 : decode cX4_init 44 = .ok (.return_, 1) := by decide +kernel
theorem dX4_readSetup_0 : decode cX4_readSetup 0 = .ok (.aload_n 0, 1) := by decide +kernel
theorem dX4_readSetup_1 : decode cX4_readSetup 1 = .ok (.iconst 0, 1) := by decide +kernel
theorem dX4_readSetup_2 : decode cX4_readSetup 2 = .ok (.putfield 32, 3) := by decide +kernel
theorem dX4_readSetup_5 : decode cX4_readSetup 5 = .ok (.aload_n 0, 1) := by decide +kernel
theorem dX4_readSetup_6 : decode cX4_readSetup 6 = .ok (.iconst 0, 1) := by decide +kernel
theorem dX4_readSetup_7 : decode cX4_readSetup 7 = .ok (.putfield 29, 3) := by decide +kernel
theorem dX4_readSetup_10 : decode cX4_readSetup 10 = .ok (.aload_n 0, 1) := by decide +kernel
theorem dX4_readSetup_11 : decode cX4_readSetup 11 = .ok (.iconst (-1), 1) := by decide +kernel
theorem dX4_readSetup_12 : decode cX4_readSetup 12 = .ok (.invokevirtual 38, 3) := by decide +kernel
theorem dX4_readSetup_15 : decode cX4_readSetup 15 = .ok (.aload_n 0, 1) := by decide +kernel
theorem dX4_readSetup_16 : decode cX4_readSetup 16 = .ok (.getfield 12, 3) := by decide +kernel
theorem dX4_readSetup_19 : decode cX4_readSetup 19 = .ok (.iload_n 1, 1) := by decide +kernel
theorem dX4_readSetup_20 : decode cX4_readSetup 20 = .ok (.invokevirtual 42, 3) := by decide +kernel
theorem dX4_readSetup_23 : decode cX4_readSetup 23 = .ok (.aload_n 0, 1) := by decide +kernel
theorem dX4_readSetup_24 : decode cX4_readSetup 24 = .ok (.aload_n 2, 1) := by decide +kernel
theorem dX4_readSetup_25 : decode cX4_readSetup 25 = .ok (.invokevirtual 45, 3) := by decide +kernel
theorem dX4_readSetup_28 : decode cX4_readSetup 28 = .ok (.ifCond .ne 5, 3) := by decide +kernel
theorem dX4_readSetup_31 : decode cX4_readSetup 31 = .ok (.iconst 0, 1) := by decide +kernel
theorem dX4_readSetup_32 : decode cX4_readSetup 32 = .ok (.ireturn, 1) := by decide +kernel
theorem dX4_readSetup_33 : decode cX4_readSetup 33 = .ok (.iconst 0, 1) := by decide +kernel
theorem dX4_readSetup_34 : decode cX4_readSetup 34 = .ok (.istore_n 3, 1) := by decide +kernel
theorem dX4_readSetup_35 : decode cX4_readSetup 35 = .ok (.iload_n 3, 1) := by decide +kernel
theorem dX4_readSetup_36 : decode cX4_readSetup 36 = .ok (.sipush 900, 3) := by decide +kernel
theorem dX4_readSetup_39 : decode cX4_readSetup 39 = .ok (.if_icmp .ge 38, 3) := by decide +kernel
theorem dX4_readSetup_42 : decode cX4_readSetup 42 = .ok (.aload_n 0, 1) := by decide +kernel
theorem dX4_readSetup_43 : decode cX4_readSetup 43 = .ok (.getfield 12, 3) := by decide +kernel
theorem dX4_readSetup_46 : decode cX4_readSetup 46 = .ok (.getfield 49, 3) := by decide +kernel
theorem dX4_readSetup_49 : decode cX4_readSetup 49 = .ok (.ifCond .eq 28, 3) := by decide +kernel
theorem dX4_readSetup_52 : decode cX4_readSetup 52 = .ok (.aload_n 0, 1) := by decide +kernel
theorem dX4_readSetup_53 : decode cX4_readSetup 53 = .ok (.aload_n 2, 1) := by decide +kernel
theorem dX4_readSetup_54 : decode cX4_readSetup 54 = .ok (.invokevirtual 52, 3) := by decide +kernel
theorem dX4_readSetup_57 : decode cX4_readSetup 57 = .ok (.ifCond .eq 12, 3) := by decide +kernel
theorem dX4_readSetup_60 : decode cX4_readSetup 60 = .ok (.aload_n 0, 1) := by decide +kernel
theorem dX4_readSetup_61 : decode cX4_readSetup 61 = .ok (.bipush 59, 2) := by decide +kernel
theorem dX4_readSetup_63 : decode cX4_readSetup 63 = .ok (.invokevirtual 55, 3) := by decide +kernel
theorem dX4_readSetup_66 : decode cX4_readSetup 66 = .ok (.ifCond .ne 5, 3) := by decide +kernel
theorem dX4_readSetup_69 : decode cX4_readSetup 69 = .ok (.iconst 0, 1) := by decide +kernel
theorem dX4_readSetup_70 : decode cX4_readSetup 70 = .ok (.ireturn, 1) := by decide +kernel
theorem dX4_readSetup_71 : decode cX4_readSetup 71 = .ok (.iinc 3 1, 3) := by decide +kernel
theorem dX4_readSetup_74 : decode cX4_readSetup 74 = .ok (.goto (-39), 3) := by decide +kernel
theorem dX4_readSetup_77 : decode cX4_readSetup 77 = .ok (.aload_n 2, 1) := by decide +kernel
theorem dX4_readSetup_78 : decode cX4_readSetup 78 = .ok (.new 36, 3) := by decide +kernel
theorem dX4_readSetup_81 : decode cX4_readSetup 81 = .ok (.dup, 1) := by decide +kernel
theorem dX4_readSetup_82 : decode cX4_readSetup 82 = .ok (.aload_n 0, 1) := by decide +kernel
theorem dX4_readSetup_83 : decode cX4_readSetup 83 = .ok (.getfield 25, 3) := by decide +kernel
theorem dX4_readSetup_86 : decode cX4_readSetup 86 = .ok (.aload_n 0, 1) := by decide +kernel
theorem dX4_readSetup_87 : decode cX4_readSetup 87 = .ok (.getfield 29, 3) := by decide +kernel
theorem dX4_readSetup_90 : decode cX4_readSetup 90 = .ok (.invokestatic 59, 3) := by decide +kernel
theorem dX4_readSetup_93 : decode cX4_readSetup 93 = .ok (.invokespecial 65, 3) := by decide +kernel
theorem dX4_readSetup_96 : decode cX4_readSetup 96 = .ok (.putfield 68, 3) := by decide +kernel
theorem dX4_readSetup_99 : decode cX4_readSetup 99 = .ok (.iconst 1, 1) := by decide +kernel
theorem dX4_readSetup_100 : decode cX4_readSetup 100 = .ok (.ireturn, 1) := by decide +kernel
theorem dX4_readQueue_0 : decode cX4_readQueue 0 = .ok (.aload_n 0, 1) := by decide +kernel
theorem dX4_readQueue_1 : decode cX4_readQueue 1 = .ok (.getfield 12, 3) := by decide +kernel
theorem dX4_readQueue_4 : decode cX4_readQueue 4 = .ok (.ldc 74, 2) := by decide +kernel
theorem dX4_readQueue_6 : decode cX4_readQueue 6 = .ok (.invokevirtual 76, 3) := by decide +kernel
theorem dX4_readQueue_9 : decode cX4_readQueue 9 = .ok (.ifCond .ne 10, 3) := by decide +kernel
theorem dX4_readQueue_12 : decode cX4_readQueue 12 = .ok (.aload_n 0, 1) := by decide +kernel
theorem dX4_readQueue_13 : decode cX4_readQueue 13 = .ok (.bipush (-2), 2) := by decide +kernel
theorem dX4_readQueue_15 : decode cX4_readQueue 15 = .ok (.invokevirtual 80, 3) := by decide +kernel
theorem dX4_readQueue_18 : decode cX4_readQueue 18 = .ok (.ireturn, 1) := by decide +kernel
theorem dX4_readQueue_19 : decode cX4_readQueue 19 = .ok (.aload_n 0, 1) := by decide +kernel
theorem dX4_readQueue_20 : decode cX4_readQueue 20 = .ok (.getfield 12, 3) := by decide +kernel
theorem dX4_readQueue_23 : decode cX4_readQueue 23 = .ok (.invokevirtual 84, 3) := by decide +kernel
theorem dX4_readQueue_26 : decode cX4_readQueue 26 = .ok (.aload_n 0, 1) := by decide +kernel
theorem dX4_readQueue_27 : decode cX4_readQueue 27 = .ok (.iconst 1, 1) := by decide +kernel
theorem dX4_readQueue_28 : decode cX4_readQueue 28 = .ok (.iconst 4, 1) := by decide +kernel
theorem dX4_readQueue_29 : decode cX4_readQueue 29 = .ok (.invokevirtual 87, 3) := by decide +kernel
theorem dX4_readQueue_32 : decode cX4_readQueue 32 = .ok (.istore_n 2, 1) := by decide +kernel
theorem dX4_readQueue_33 : decode cX4_readQueue 33 = .ok (.iload_n 2, 1) := by decide +kernel
theorem dX4_readQueue_34 : decode cX4_readQueue 34 = .ok (.ifCond .ge 7, 3) := by decide +kernel
theorem dX4_readQueue_37 : decode cX4_readQueue 37 = .ok (.iconst (-1), 1) := by decide +kernel
theorem dX4_readQueue_38 : decode cX4_readQueue 38 = .ok (.goto 10, 3) := by decide +kernel
theorem dX4_readQueue_41 : decode cX4_readQueue 41 = .ok (.aload_n 0, 1) := by decide +kernel
theorem dX4_readQueue_42 : decode cX4_readQueue 42 = .ok (.iconst 1, 1) := by decide +kernel
theorem dX4_readQueue_43 : decode cX4_readQueue 43 = .ok (.bipush 8, 2) := by decide +kernel
theorem dX4_readQueue_45 : decode cX4_readQueue 45 = .ok (.invokevirtual 87, 3) := by decide +kernel
theorem dX4_readQueue_48 : decode cX4_readQueue 48 = .ok (.istore_n 3, 1) := by decide +kernel
theorem dX4_readQueue_49 : decode cX4_readQueue 49 = .ok (.iload_n 3, 1) := by decide +kernel
theorem dX4_readQueue_50 : decode cX4_readQueue 50 = .ok (.ifCond .ge 7, 3) := by decide +kernel
theorem dX4_readQueue_53 : decode cX4_readQueue 53 = .ok (.iconst (-1), 1) := by decide +kernel
theorem dX4_readQueue_54 : decode cX4_readQueue 54 = .ok (.goto 10, 3) := by decide +kernel
theorem dX4_readQueue_57 : decode cX4_readQueue 57 = .ok (.aload_n 0, 1) := by decide +kernel
theorem dX4_readQueue_58 : decode cX4_readQueue 58 = .ok (.iconst 0, 1) := by decide +kernel
theorem dX4_readQueue_59 : decode cX4_readQueue 59 = .ok (.bipush 20, 2) := by decide +kernel
theorem dX4_readQueue_61 : decode cX4_readQueue 61 = .ok (.invokevirtual 87, 3) := by decide +kernel
theorem dX4_readQueue_64 : decode cX4_readQueue 64 = .ok (.istore 4, 2) := by decide +kernel
theorem dX4_readQueue_66 : decode cX4_readQueue 66 = .ok (.iload 4, 2) := by decide +kernel
theorem dX4_readQueue_68 : decode cX4_readQueue 68 = .ok (.ifCond .lt 12, 3) := by decide +kernel
theorem dX4_readQueue_71 : decode cX4_readQueue 71 = .ok (.aload_n 0, 1) := by decide +kernel
theorem dX4_readQueue_72 : decode cX4_readQueue 72 = .ok (.bipush 59, 2) := by decide +kernel
theorem dX4_readQueue_74 : decode cX4_readQueue 74 = .ok (.invokevirtual 55, 3) := by decide +kernel
theorem dX4_readQueue_77 : decode cX4_readQueue 77 = .ok (.ifCond .ne 5, 3) := by decide +kernel
theorem dX4_readQueue_80 : decode cX4_readQueue 80 = .ok (.iconst 0, 1) := by decide +kernel
theorem dX4_readQueue_81 : decode cX4_readQueue 81 = .ok (.ireturn, 1) := by decide +kernel
theorem dX4_readQueue_82 : decode cX4_readQueue 82 = .ok (.aload_n 1, 1) := by decide +kernel
theorem dX4_readQueue_83 : decode cX4_readQueue 83 = .ok (.getfield 91, 3) := by decide +kernel
theorem dX4_readQueue_86 : decode cX4_readQueue 86 = .ok (.iconst 0, 1) := by decide +kernel
theorem dX4_readQueue_87 : decode cX4_readQueue 87 = .ok (.putfield 95, 3) := by decide +kernel
theorem dX4_readQueue_90 : decode cX4_readQueue 90 = .ok (.aload_n 1, 1) := by decide +kernel
theorem dX4_readQueue_91 : decode cX4_readQueue 91 = .ok (.getfield 91, 3) := by decide +kernel
theorem dX4_readQueue_94 : decode cX4_readQueue 94 = .ok (.iconst 0, 1) := by decide +kernel
theorem dX4_readQueue_95 : decode cX4_readQueue 95 = .ok (.putfield 100, 3) := by decide +kernel
theorem dX4_readQueue_98 : decode cX4_readQueue 98 = .ok (.aload_n 1, 1) := by decide +kernel
theorem dX4_readQueue_99 : decode cX4_readQueue 99 = .ok (.iload_n 2, 1) := by decide +kernel
theorem dX4_readQueue_100 : decode cX4_readQueue 100 = .ok (.invokevirtual 103, 3) := by decide +kernel
theorem dX4_readQueue_103 : decode cX4_readQueue 103 = .ok (.aload_n 1, 1) := by decide +kernel
theorem dX4_readQueue_104 : decode cX4_readQueue 104 = .ok (.getfield 106, 3) := by decide +kernel
theorem dX4_readQueue_107 : decode cX4_readQueue 107 = .ok (.iload_n 3, 1) := by decide +kernel
theorem dX4_readQueue_108 : decode cX4_readQueue 108 = .ok (.putfield 110, 3) := by decide +kernel
theorem dX4_readQueue_111 : decode cX4_readQueue 111 = .ok (.aload_n 1, 1) := by decide +kernel
theorem dX4_readQueue_112 : decode cX4_readQueue 112 = .ok (.getfield 106, 3) := by decide +kernel
theorem dX4_readQueue_115 : decode cX4_readQueue 115 = .ok (.iload 4, 2) := by decide +kernel
theorem dX4_readQueue_117 : decode cX4_readQueue 117 = .ok (.putfield 115, 3) := by decide +kernel
theorem dX4_readQueue_120 : decode cX4_readQueue 120 = .ok (.iconst 1, 1) := by decide +kernel
theorem dX4_readQueue_121 : decode cX4_readQueue 121 = .ok (.ireturn, 1) := by decide +kernel
theorem dX4_readStatement_0 : decode cX4_readStatement 0 = .ok (.aload_n 0, 1) := by decide +kernel
theorem dX4_readStatement_1 : decode cX4_readStatement 1 = .ok (.getfield 12, 3) := by decide +kernel
theorem dX4_readStatement_4 : decode cX4_readStatement 4 = .ok (.ldc 118, 2) := by decide +kernel
theorem dX4_readStatement_6 : decode cX4_readStatement 6 = .ok (.invokevirtual 76, 3) := by decide +kernel
theorem dX4_readStatement_9 : decode cX4_readStatement 9 = .ok (.ifCond .eq 19, 3) := by decide +kernel
theorem dX4_readStatement_12 : decode cX4_readStatement 12 = .ok (.aload_n 0, 1) := by decide +kernel
theorem dX4_readStatement_13 : decode cX4_readStatement 13 = .ok (.aload_n 1, 1) := by decide +kernel
theorem dX4_readStatement_14 : decode cX4_readStatement 14 = .ok (.getfield 91, 3) := by decide +kernel
theorem dX4_readStatement_17 : decode cX4_readStatement 17 = .ok (.aload_n 1, 1) := by decide +kernel
theorem dX4_readStatement_18 : decode cX4_readStatement 18 = .ok (.getfield 106, 3) := by decide +kernel
theorem dX4_readStatement_21 : decode cX4_readStatement 21 = .ok (.getfield 120, 3) := by decide +kernel
theorem dX4_readStatement_24 : decode cX4_readStatement 24 = .ok (.invokevirtual 121, 3) := by decide +kernel
theorem dX4_readStatement_27 : decode cX4_readStatement 27 = .ok (.ireturn, 1) := by decide +kernel
theorem dX4_readStatement_28 : decode cX4_readStatement 28 = .ok (.aload_n 0, 1) := by decide +kernel
theorem dX4_readStatement_29 : decode cX4_readStatement 29 = .ok (.getfield 12, 3) := by decide +kernel
theorem dX4_readStatement_32 : decode cX4_readStatement 32 = .ok (.ldc 125, 2) := by decide +kernel
theorem dX4_readStatement_34 : decode cX4_readStatement 34 = .ok (.invokevirtual 76, 3) := by decide +kernel
theorem dX4_readStatement_37 : decode cX4_readStatement 37 = .ok (.ifCond .eq 38, 3) := by decide +kernel
theorem dX4_readStatement_40 : decode cX4_readStatement 40 = .ok (.aload_n 1, 1) := by decide +kernel
theorem dX4_readStatement_41 : decode cX4_readStatement 41 = .ok (.getfield 91, 3) := by decide +kernel
theorem dX4_readStatement_44 : decode cX4_readStatement 44 = .ok (.getfield 100, 3) := by decide +kernel
theorem dX4_readStatement_47 : decode cX4_readStatement 47 = .ok (.bipush 8, 2) := by decide +kernel
theorem dX4_readStatement_49 : decode cX4_readStatement 49 = .ok (.if_icmp .lt 10, 3) := by decide +kernel
theorem dX4_readStatement_52 : decode cX4_readStatement 52 = .ok (.aload_n 0, 1) := by decide +kernel
theorem dX4_readStatement_53 : decode cX4_readStatement 53 = .ok (.bipush (-4), 2) := by decide +kernel
theorem dX4_readStatement_55 : decode cX4_readStatement 55 = .ok (.invokevirtual 80, 3) := by decide +kernel
theorem dX4_readStatement_58 : decode cX4_readStatement 58 = .ok (.ireturn, 1) := by decide +kernel
theorem dX4_readStatement_59 : decode cX4_readStatement 59 = .ok (.aload_n 0, 1) := by decide +kernel
theorem dX4_readStatement_60 : decode cX4_readStatement 60 = .ok (.getfield 12, 3) := by decide +kernel
theorem dX4_readStatement_63 : decode cX4_readStatement 63 = .ok (.invokevirtual 84, 3) := by decide +kernel
theorem dX4_readStatement_66 : decode cX4_readStatement 66 = .ok (.aload_n 1, 1) := by decide +kernel
theorem dX4_readStatement_67 : decode cX4_readStatement 67 = .ok (.getfield 91, 3) := by decide +kernel
theorem dX4_readStatement_70 : decode cX4_readStatement 70 = .ok (.invokevirtual 127, 3) := by decide +kernel
theorem dX4_readStatement_73 : decode cX4_readStatement 73 = .ok (.iconst 1, 1) := by decide +kernel
theorem dX4_readStatement_74 : decode cX4_readStatement 74 = .ok (.ireturn, 1) := by decide +kernel
theorem dX4_readStatement_75 : decode cX4_readStatement 75 = .ok (.aload_n 0, 1) := by decide +kernel
theorem dX4_readStatement_76 : decode cX4_readStatement 76 = .ok (.getfield 12, 3) := by decide +kernel
theorem dX4_readStatement_79 : decode cX4_readStatement 79 = .ok (.ldc 130, 2) := by decide +kernel
theorem dX4_readStatement_81 : decode cX4_readStatement 81 = .ok (.invokevirtual 76, 3) := by decide +kernel
theorem dX4_readStatement_84 : decode cX4_readStatement 84 = .ok (.ifCond .eq 10, 3) := by decide +kernel
theorem dX4_readStatement_87 : decode cX4_readStatement 87 = .ok (.aload_n 0, 1) := by decide +kernel
theorem dX4_readStatement_88 : decode cX4_readStatement 88 = .ok (.getfield 32, 3) := by decide +kernel
theorem dX4_readStatement_91 : decode cX4_readStatement 91 = .ok (.ifCond .eq 10, 3) := by decide +kernel
theorem dX4_readStatement_94 : decode cX4_readStatement 94 = .ok (.aload_n 0, 1) := by decide +kernel
theorem dX4_readStatement_95 : decode cX4_readStatement 95 = .ok (.bipush (-2), 2) := by decide +kernel
theorem dX4_readStatement_97 : decode cX4_readStatement 97 = .ok (.invokevirtual 80, 3) := by decide +kernel
theorem dX4_readStatement_100 : decode cX4_readStatement 100 = .ok (.ireturn, 1) := by decide +kernel
theorem dX4_readStatement_101 : decode cX4_readStatement 101 = .ok (.aload_n 0, 1) := by decide +kernel
theorem dX4_readStatement_102 : decode cX4_readStatement 102 = .ok (.getfield 12, 3) := by decide +kernel
theorem dX4_readStatement_105 : decode cX4_readStatement 105 = .ok (.invokevirtual 84, 3) := by decide +kernel
theorem dX4_readStatement_108 : decode cX4_readStatement 108 = .ok (.aload_n 0, 1) := by decide +kernel
theorem dX4_readStatement_109 : decode cX4_readStatement 109 = .ok (.iconst 1, 1) := by decide +kernel
theorem dX4_readStatement_110 : decode cX4_readStatement 110 = .ok (.putfield 32, 3) := by decide +kernel
theorem dX4_readStatement_113 : decode cX4_readStatement 113 = .ok (.aload_n 0, 1) := by decide +kernel
theorem dX4_readStatement_114 : decode cX4_readStatement 114 = .ok (.iconst 0, 1) := by decide +kernel
theorem dX4_readStatement_115 : decode cX4_readStatement 115 = .ok (.putfield 29, 3) := by decide +kernel
theorem dX4_readStatement_118 : decode cX4_readStatement 118 = .ok (.aload_n 0, 1) := by decide +kernel
theorem dX4_readStatement_119 : decode cX4_readStatement 119 = .ok (.iconst 0, 1) := by decide +kernel
theorem dX4_readStatement_120 : decode cX4_readStatement 120 = .ok (.invokevirtual 132, 3) := by decide +kernel
theorem dX4_readStatement_123 : decode cX4_readStatement 123 = .ok (.ireturn, 1) := by decide +kernel
theorem dX4_readTask_0 : decode cX4_readTask 0 = .ok (.aload_n 1, 1) := by decide +kernel
theorem dX4_readTask_1 : decode cX4_readTask 1 = .ok (.getfield 95, 3) := by decide +kernel
theorem dX4_readTask_4 : decode cX4_readTask 4 = .ok (.bipush 32, 2) := by decide +kernel
theorem dX4_readTask_6 : decode cX4_readTask 6 = .ok (.if_icmp .lt 10, 3) := by decide +kernel
theorem dX4_readTask_9 : decode cX4_readTask 9 = .ok (.aload_n 0, 1) := by decide +kernel
theorem dX4_readTask_10 : decode cX4_readTask 10 = .ok (.bipush (-4), 2) := by decide +kernel
theorem dX4_readTask_12 : decode cX4_readTask 12 = .ok (.invokevirtual 80, 3) := by decide +kernel
theorem dX4_readTask_15 : decode cX4_readTask 15 = .ok (.ireturn, 1) := by decide +kernel
theorem dX4_readTask_16 : decode cX4_readTask 16 = .ok (.aload_n 0, 1) := by decide +kernel
theorem dX4_readTask_17 : decode cX4_readTask 17 = .ok (.getfield 12, 3) := by decide +kernel
theorem dX4_readTask_20 : decode cX4_readTask 20 = .ok (.invokevirtual 84, 3) := by decide +kernel
theorem dX4_readTask_23 : decode cX4_readTask 23 = .ok (.aload_n 0, 1) := by decide +kernel
theorem dX4_readTask_24 : decode cX4_readTask 24 = .ok (.iconst 1, 1) := by decide +kernel
theorem dX4_readTask_25 : decode cX4_readTask 25 = .ok (.bipush 99, 2) := by decide +kernel
theorem dX4_readTask_27 : decode cX4_readTask 27 = .ok (.invokevirtual 87, 3) := by decide +kernel
theorem dX4_readTask_30 : decode cX4_readTask 30 = .ok (.istore_n 3, 1) := by decide +kernel
theorem dX4_readTask_31 : decode cX4_readTask 31 = .ok (.iload_n 3, 1) := by decide +kernel
theorem dX4_readTask_32 : decode cX4_readTask 32 = .ok (.ifCond .ge 7, 3) := by decide +kernel
theorem dX4_readTask_35 : decode cX4_readTask 35 = .ok (.iconst (-1), 1) := by decide +kernel
theorem dX4_readTask_36 : decode cX4_readTask 36 = .ok (.goto 10, 3) := by decide +kernel
theorem dX4_readTask_39 : decode cX4_readTask 39 = .ok (.aload_n 0, 1) := by decide +kernel
theorem dX4_readTask_40 : decode cX4_readTask 40 = .ok (.iconst 0, 1) := by decide +kernel
theorem dX4_readTask_41 : decode cX4_readTask 41 = .ok (.bipush 9, 2) := by decide +kernel
theorem dX4_readTask_43 : decode cX4_readTask 43 = .ok (.invokevirtual 87, 3) := by decide +kernel
theorem dX4_readTask_46 : decode cX4_readTask 46 = .ok (.istore 4, 2) := by decide +kernel
theorem dX4_readTask_48 : decode cX4_readTask 48 = .ok (.iload 4, 2) := by decide +kernel
theorem dX4_readTask_50 : decode cX4_readTask 50 = .ok (.ifCond .ge 5, 3) := by decide +kernel
theorem dX4_readTask_53 : decode cX4_readTask 53 = .ok (.iconst 0, 1) := by decide +kernel
theorem dX4_readTask_54 : decode cX4_readTask 54 = .ok (.ireturn, 1) := by decide +kernel
theorem dX4_readTask_55 : decode cX4_readTask 55 = .ok (.iload_n 2, 1) := by decide +kernel
theorem dX4_readTask_56 : decode cX4_readTask 56 = .ok (.ifCond .le 12, 3) := by decide +kernel
theorem dX4_readTask_59 : decode cX4_readTask 59 = .ok (.aload_n 1, 1) := by decide +kernel
theorem dX4_readTask_60 : decode cX4_readTask 60 = .ok (.getfield 95, 3) := by decide +kernel
theorem dX4_readTask_63 : decode cX4_readTask 63 = .ok (.iload_n 2, 1) := by decide +kernel
theorem dX4_readTask_64 : decode cX4_readTask 64 = .ok (.irem, 1) := by decide +kernel
theorem dX4_readTask_65 : decode cX4_readTask 65 = .ok (.goto 4, 3) := by decide +kernel
theorem dX4_readTask_68 : decode cX4_readTask 68 = .ok (.iconst 0, 1) := by decide +kernel
theorem dX4_readTask_69 : decode cX4_readTask 69 = .ok (.istore 5, 2) := by decide +kernel
theorem dX4_readTask_71 : decode cX4_readTask 71 = .ok (.aload_n 0, 1) := by decide +kernel
theorem dX4_readTask_72 : decode cX4_readTask 72 = .ok (.getfield 12, 3) := by decide +kernel
theorem dX4_readTask_75 : decode cX4_readTask 75 = .ok (.ldc 135, 2) := by decide +kernel
theorem dX4_readTask_77 : decode cX4_readTask 77 = .ok (.invokevirtual 76, 3) := by decide +kernel
theorem dX4_readTask_80 : decode cX4_readTask 80 = .ok (.ifCond .eq 20, 3) := by decide +kernel
theorem dX4_readTask_83 : decode cX4_readTask 83 = .ok (.aload_n 0, 1) := by decide +kernel
theorem dX4_readTask_84 : decode cX4_readTask 84 = .ok (.getfield 12, 3) := by decide +kernel
theorem dX4_readTask_87 : decode cX4_readTask 87 = .ok (.invokevirtual 84, 3) := by decide +kernel
theorem dX4_readTask_90 : decode cX4_readTask 90 = .ok (.aload_n 0, 1) := by decide +kernel
theorem dX4_readTask_91 : decode cX4_readTask 91 = .ok (.iconst 0, 1) := by decide +kernel
theorem dX4_readTask_92 : decode cX4_readTask 92 = .ok (.iload_n 2, 1) := by decide +kernel
theorem dX4_readTask_93 : decode cX4_readTask 93 = .ok (.iconst 1, 1) := by decide +kernel
theorem dX4_readTask_94 : decode cX4_readTask 94 = .ok (.isub, 1) := by decide +kernel
theorem dX4_readTask_95 : decode cX4_readTask 95 = .ok (.invokevirtual 87, 3) := by decide +kernel
theorem dX4_readTask_98 : decode cX4_readTask 98 = .ok (.istore 5, 2) := by decide +kernel
theorem dX4_readTask_100 : decode cX4_readTask 100 = .ok (.iconst 0, 1) := by decide +kernel
theorem dX4_readTask_101 : decode cX4_readTask 101 = .ok (.istore 6, 2) := by decide +kernel
theorem dX4_readTask_103 : decode cX4_readTask 103 = .ok (.iload 5, 2) := by decide +kernel
theorem dX4_readTask_105 : decode cX4_readTask 105 = .ok (.ifCond .lt 32, 3) := by decide +kernel
theorem dX4_readTask_108 : decode cX4_readTask 108 = .ok (.aload_n 0, 1) := by decide +kernel
theorem dX4_readTask_109 : decode cX4_readTask 109 = .ok (.getfield 12, 3) := by decide +kernel
theorem dX4_readTask_112 : decode cX4_readTask 112 = .ok (.ldc 137, 2) := by decide +kernel
theorem dX4_readTask_114 : decode cX4_readTask 114 = .ok (.invokevirtual 76, 3) := by decide +kernel
theorem dX4_readTask_117 : decode cX4_readTask 117 = .ok (.ifCond .eq 20, 3) := by decide +kernel
theorem dX4_readTask_120 : decode cX4_readTask 120 = .ok (.aload_n 0, 1) := by decide +kernel
theorem dX4_readTask_121 : decode cX4_readTask 121 = .ok (.getfield 12, 3) := by decide +kernel
theorem dX4_readTask_124 : decode cX4_readTask 124 = .ok (.invokevirtual 84, 3) := by decide +kernel
theorem dX4_readTask_127 : decode cX4_readTask 127 = .ok (.aload_n 0, 1) := by decide +kernel
theorem dX4_readTask_128 : decode cX4_readTask 128 = .ok (.aload_n 1, 1) := by decide +kernel
theorem dX4_readTask_129 : decode cX4_readTask 129 = .ok (.getfield 95, 3) := by decide +kernel
theorem dX4_readTask_132 : decode cX4_readTask 132 = .ok (.invokevirtual 139, 3) := by decide +kernel
theorem dX4_readTask_135 : decode cX4_readTask 135 = .ok (.istore 6, 2) := by decide +kernel
theorem dX4_readTask_137 : decode cX4_readTask 137 = .ok (.iload 5, 2) := by decide +kernel
theorem dX4_readTask_139 : decode cX4_readTask 139 = .ok (.ifCond .lt 8, 3) := by decide +kernel
theorem dX4_readTask_142 : decode cX4_readTask 142 = .ok (.iload 6, 2) := by decide +kernel
theorem dX4_readTask_144 : decode cX4_readTask 144 = .ok (.ifCond .ge 5, 3) := by decide +kernel
theorem dX4_readTask_147 : decode cX4_readTask 147 = .ok (.iconst 0, 1) := by decide +kernel
theorem dX4_readTask_148 : decode cX4_readTask 148 = .ok (.ireturn, 1) := by decide +kernel
theorem dX4_readTask_149 : decode cX4_readTask 149 = .ok (.aload_n 1, 1) := by decide +kernel
theorem dX4_readTask_150 : decode cX4_readTask 150 = .ok (.iload_n 3, 1) := by decide +kernel
theorem dX4_readTask_151 : decode cX4_readTask 151 = .ok (.iload 4, 2) := by decide +kernel
theorem dX4_readTask_153 : decode cX4_readTask 153 = .ok (.iload 5, 2) := by decide +kernel
theorem dX4_readTask_155 : decode cX4_readTask 155 = .ok (.iload 6, 2) := by decide +kernel
theorem dX4_readTask_157 : decode cX4_readTask 157 = .ok (.invokevirtual 143, 3) := by decide +kernel
theorem dX4_readTask_160 : decode cX4_readTask 160 = .ok (.iconst 1, 1) := by decide +kernel
theorem dX4_readTask_161 : decode cX4_readTask 161 = .ok (.ireturn, 1) := by decide +kernel
theorem dX4_takePredecessors_0 : decode cX4_takePredecessors 0 = .ok (.iconst 0, 1) := by decide +kernel
theorem dX4_takePredecessors_1 : decode cX4_takePredecessors 1 = .ok (.istore_n 2, 1) := by decide +kernel
theorem dX4_takePredecessors_2 : decode cX4_takePredecessors 2 = .ok (.iconst 0, 1) := by decide +kernel
theorem dX4_takePredecessors_3 : decode cX4_takePredecessors 3 = .ok (.istore_n 3, 1) := by decide +kernel
theorem dX4_takePredecessors_4 : decode cX4_takePredecessors 4 = .ok (.iload_n 3, 1) := by decide +kernel
theorem dX4_takePredecessors_5 : decode cX4_takePredecessors 5 = .ok (.ifCond .eq 20, 3) := by decide +kernel
theorem dX4_takePredecessors_8 : decode cX4_takePredecessors 8 = .ok (.iload_n 3, 1) := by decide +kernel
theorem dX4_takePredecessors_9 : decode cX4_takePredecessors 9 = .ok (.bipush 32, 2) := by decide +kernel
theorem dX4_takePredecessors_11 : decode cX4_takePredecessors 11 = .ok (.if_icmp .ge 78, 3) := by decide +kernel
theorem dX4_takePredecessors_14 : decode cX4_takePredecessors 14 = .ok (.aload_n 0, 1) := by decide +kernel
theorem dX4_takePredecessors_15 : decode cX4_takePredecessors 15 = .ok (.getfield 12, 3) := by decide +kernel
theorem dX4_takePredecessors_18 : decode cX4_takePredecessors 18 = .ok (.getfield 49, 3) := by decide +kernel
theorem dX4_takePredecessors_21 : decode cX4_takePredecessors 21 = .ok (.iconst 1, 1) := by decide +kernel
theorem dX4_takePredecessors_22 : decode cX4_takePredecessors 22 = .ok (.if_icmp .ne 67, 3) := by decide +kernel
theorem dX4_takePredecessors_25 : decode cX4_takePredecessors 25 = .ok (.aload_n 0, 1) := by decide +kernel
theorem dX4_takePredecessors_26 : decode cX4_takePredecessors 26 = .ok (.getfield 12, 3) := by decide +kernel
theorem dX4_takePredecessors_29 : decode cX4_takePredecessors 29 = .ok (.getfield 49, 3) := by decide +kernel
theorem dX4_takePredecessors_32 : decode cX4_takePredecessors 32 = .ok (.iconst 1, 1) := by decide +kernel
theorem dX4_takePredecessors_33 : decode cX4_takePredecessors 33 = .ok (.if_icmp .ne 26, 3) := by decide +kernel
theorem dX4_takePredecessors_36 : decode cX4_takePredecessors 36 = .ok (.iload_n 2, 1) := by decide +kernel
theorem dX4_takePredecessors_37 : decode cX4_takePredecessors 37 = .ok (.aload_n 0, 1) := by decide +kernel
theorem dX4_takePredecessors_38 : decode cX4_takePredecessors 38 = .ok (.getfield 12, 3) := by decide +kernel
theorem dX4_takePredecessors_41 : decode cX4_takePredecessors 41 = .ok (.getfield 147, 3) := by decide +kernel
theorem dX4_takePredecessors_44 : decode cX4_takePredecessors 44 = .ok (.invokestatic 150, 3) := by decide +kernel
theorem dX4_takePredecessors_47 : decode cX4_takePredecessors 47 = .ok (.ifCond .eq 12, 3) := by decide +kernel
theorem dX4_takePredecessors_50 : decode cX4_takePredecessors 50 = .ok (.aload_n 0, 1) := by decide +kernel
theorem dX4_takePredecessors_51 : decode cX4_takePredecessors 51 = .ok (.bipush (-3), 2) := by decide +kernel
theorem dX4_takePredecessors_53 : decode cX4_takePredecessors 53 = .ok (.invokevirtual 80, 3) := by decide +kernel
theorem dX4_takePredecessors_56 : decode cX4_takePredecessors 56 = .ok (.pop, 1) := by decide +kernel
theorem dX4_takePredecessors_57 : decode cX4_takePredecessors 57 = .ok (.iconst (-1), 1) := by decide +kernel
theorem dX4_takePredecessors_58 : decode cX4_takePredecessors 58 = .ok (.ireturn, 1) := by decide +kernel
theorem dX4_takePredecessors_59 : decode cX4_takePredecessors 59 = .ok (.aload_n 0, 1) := by decide +kernel
theorem dX4_takePredecessors_60 : decode cX4_takePredecessors 60 = .ok (.iconst 0, 1) := by decide +kernel
theorem dX4_takePredecessors_61 : decode cX4_takePredecessors 61 = .ok (.iload_n 1, 1) := by decide +kernel
theorem dX4_takePredecessors_62 : decode cX4_takePredecessors 62 = .ok (.iconst 1, 1) := by decide +kernel
theorem dX4_takePredecessors_63 : decode cX4_takePredecessors 63 = .ok (.isub, 1) := by decide +kernel
theorem dX4_takePredecessors_64 : decode cX4_takePredecessors 64 = .ok (.invokevirtual 87, 3) := by decide +kernel
theorem dX4_takePredecessors_67 : decode cX4_takePredecessors 67 = .ok (.istore 4, 2) := by decide +kernel
theorem dX4_takePredecessors_69 : decode cX4_takePredecessors 69 = .ok (.iload 4, 2) := by decide +kernel
theorem dX4_takePredecessors_71 : decode cX4_takePredecessors 71 = .ok (.ifCond .ge 5, 3) := by decide +kernel
theorem dX4_takePredecessors_74 : decode cX4_takePredecessors 74 = .ok (.iconst (-1), 1) := by decide +kernel
theorem dX4_takePredecessors_75 : decode cX4_takePredecessors 75 = .ok (.ireturn, 1) := by decide +kernel
theorem dX4_takePredecessors_76 : decode cX4_takePredecessors 76 = .ok (.iload_n 2, 1) := by decide +kernel
theorem dX4_takePredecessors_77 : decode cX4_takePredecessors 77 = .ok (.iconst 1, 1) := by decide +kernel
theorem dX4_takePredecessors_78 : decode cX4_takePredecessors 78 = .ok (.iload 4, 2) := by decide +kernel
theorem dX4_takePredecessors_80 : decode cX4_takePredecessors 80 = .ok (.ishl, 1) := by decide +kernel
theorem dX4_takePredecessors_81 : decode cX4_takePredecessors 81 = .ok (.ior, 1) := by decide +kernel
theorem dX4_takePredecessors_82 : decode cX4_takePredecessors 82 = .ok (.istore_n 2, 1) := by decide +kernel
theorem dX4_takePredecessors_83 : decode cX4_takePredecessors 83 = .ok (.iinc 3 1, 3) := by decide +kernel
theorem dX4_takePredecessors_86 : decode cX4_takePredecessors 86 = .ok (.goto (-82), 3) := by decide +kernel
theorem dX4_takePredecessors_89 : decode cX4_takePredecessors 89 = .ok (.iload_n 2, 1) := by decide +kernel
theorem dX4_takePredecessors_90 : decode cX4_takePredecessors 90 = .ok (.ireturn, 1) := by decide +kernel
theorem dX4_readSum_0 : decode cX4_readSum 0 = .ok (.aload_n 0, 1) := by decide +kernel
theorem dX4_readSum_1 : decode cX4_readSum 1 = .ok (.iload_n 1, 1) := by decide +kernel
theorem dX4_readSum_2 : decode cX4_readSum 2 = .ok (.invokevirtual 154, 3) := by decide +kernel
theorem dX4_readSum_5 : decode cX4_readSum 5 = .ok (.istore_n 2, 1) := by decide +kernel
theorem dX4_readSum_6 : decode cX4_readSum 6 = .ok (.iconst 0, 1) := by decide +kernel
theorem dX4_readSum_7 : decode cX4_readSum 7 = .ok (.istore_n 3, 1) := by decide +kernel
theorem dX4_readSum_8 : decode cX4_readSum 8 = .ok (.iload_n 3, 1) := by decide +kernel
theorem dX4_readSum_9 : decode cX4_readSum 9 = .ok (.sipush 900, 3) := by decide +kernel
theorem dX4_readSum_12 : decode cX4_readSum 12 = .ok (.if_icmp .ge 72, 3) := by decide +kernel
theorem dX4_readSum_15 : decode cX4_readSum 15 = .ok (.iload_n 2, 1) := by decide +kernel
theorem dX4_readSum_16 : decode cX4_readSum 16 = .ok (.ifCond .eq 68, 3) := by decide +kernel
theorem dX4_readSum_19 : decode cX4_readSum 19 = .ok (.aload_n 0, 1) := by decide +kernel
theorem dX4_readSum_20 : decode cX4_readSum 20 = .ok (.getfield 12, 3) := by decide +kernel
theorem dX4_readSum_23 : decode cX4_readSum 23 = .ok (.bipush 43, 2) := by decide +kernel
theorem dX4_readSum_25 : decode cX4_readSum 25 = .ok (.invokevirtual 157, 3) := by decide +kernel
theorem dX4_readSum_28 : decode cX4_readSum 28 = .ok (.istore 4, 2) := by decide +kernel
theorem dX4_readSum_30 : decode cX4_readSum 30 = .ok (.iload 4, 2) := by decide +kernel
theorem dX4_readSum_32 : decode cX4_readSum 32 = .ok (.ifCond .ne 17, 3) := by decide +kernel
theorem dX4_readSum_35 : decode cX4_readSum 35 = .ok (.aload_n 0, 1) := by decide +kernel
theorem dX4_readSum_36 : decode cX4_readSum 36 = .ok (.getfield 12, 3) := by decide +kernel
theorem dX4_readSum_39 : decode cX4_readSum 39 = .ok (.bipush 45, 2) := by decide +kernel
theorem dX4_readSum_41 : decode cX4_readSum 41 = .ok (.invokevirtual 157, 3) := by decide +kernel
theorem dX4_readSum_44 : decode cX4_readSum 44 = .ok (.ifCond .ne 5, 3) := by decide +kernel
theorem dX4_readSum_47 : decode cX4_readSum 47 = .ok (.iconst 1, 1) := by decide +kernel
theorem dX4_readSum_48 : decode cX4_readSum 48 = .ok (.ireturn, 1) := by decide +kernel
theorem dX4_readSum_49 : decode cX4_readSum 49 = .ok (.aload_n 0, 1) := by decide +kernel
theorem dX4_readSum_50 : decode cX4_readSum 50 = .ok (.getfield 12, 3) := by decide +kernel
theorem dX4_readSum_53 : decode cX4_readSum 53 = .ok (.invokevirtual 84, 3) := by decide +kernel
theorem dX4_readSum_56 : decode cX4_readSum 56 = .ok (.aload_n 0, 1) := by decide +kernel
theorem dX4_readSum_57 : decode cX4_readSum 57 = .ok (.iload_n 1, 1) := by decide +kernel
theorem dX4_readSum_58 : decode cX4_readSum 58 = .ok (.invokevirtual 154, 3) := by decide +kernel
theorem dX4_readSum_61 : decode cX4_readSum 61 = .ok (.istore_n 2, 1) := by decide +kernel
theorem dX4_readSum_62 : decode cX4_readSum 62 = .ok (.aload_n 0, 1) := by decide +kernel
theorem dX4_readSum_63 : decode cX4_readSum 63 = .ok (.iload 4, 2) := by decide +kernel
theorem dX4_readSum_65 : decode cX4_readSum 65 = .ok (.ifCond .eq 8, 3) := by decide +kernel
theorem dX4_readSum_68 : decode cX4_readSum 68 = .ok (.bipush (-5), 2) := by decide +kernel
theorem dX4_readSum_70 : decode cX4_readSum 70 = .ok (.goto 5, 3) := by decide +kernel
theorem dX4_readSum_73 : decode cX4_readSum 73 = .ok (.bipush (-6), 2) := by decide +kernel
theorem dX4_readSum_75 : decode cX4_readSum 75 = .ok (.invokevirtual 38, 3) := by decide +kernel
theorem dX4_readSum_78 : decode cX4_readSum 78 = .ok (.iinc 3 1, 3) := by decide +kernel
theorem dX4_readSum_81 : decode cX4_readSum 81 = .ok (.goto (-73), 3) := by decide +kernel
theorem dX4_readSum_84 : decode cX4_readSum 84 = .ok (.iload_n 2, 1) := by decide +kernel
theorem dX4_readSum_85 : decode cX4_readSum 85 = .ok (.ireturn, 1) := by decide +kernel
theorem dX4_readTerm_0 : decode cX4_readTerm 0 = .ok (.aload_n 0, 1) := by decide +kernel
theorem dX4_readTerm_1 : decode cX4_readTerm 1 = .ok (.iload_n 1, 1) := by decide +kernel
theorem dX4_readTerm_2 : decode cX4_readTerm 2 = .ok (.invokevirtual 160, 3) := by decide +kernel
theorem dX4_readTerm_5 : decode cX4_readTerm 5 = .ok (.istore_n 2, 1) := by decide +kernel
theorem dX4_readTerm_6 : decode cX4_readTerm 6 = .ok (.iconst 0, 1) := by decide +kernel
theorem dX4_readTerm_7 : decode cX4_readTerm 7 = .ok (.istore_n 3, 1) := by decide +kernel
theorem dX4_readTerm_8 : decode cX4_readTerm 8 = .ok (.iload_n 3, 1) := by decide +kernel
theorem dX4_readTerm_9 : decode cX4_readTerm 9 = .ok (.sipush 900, 3) := by decide +kernel
theorem dX4_readTerm_12 : decode cX4_readTerm 12 = .ok (.if_icmp .ge 72, 3) := by decide +kernel
theorem dX4_readTerm_15 : decode cX4_readTerm 15 = .ok (.iload_n 2, 1) := by decide +kernel
theorem dX4_readTerm_16 : decode cX4_readTerm 16 = .ok (.ifCond .eq 68, 3) := by decide +kernel
theorem dX4_readTerm_19 : decode cX4_readTerm 19 = .ok (.aload_n 0, 1) := by decide +kernel
theorem dX4_readTerm_20 : decode cX4_readTerm 20 = .ok (.getfield 12, 3) := by decide +kernel
theorem dX4_readTerm_23 : decode cX4_readTerm 23 = .ok (.bipush 42, 2) := by decide +kernel
theorem dX4_readTerm_25 : decode cX4_readTerm 25 = .ok (.invokevirtual 157, 3) := by decide +kernel
theorem dX4_readTerm_28 : decode cX4_readTerm 28 = .ok (.istore 4, 2) := by decide +kernel
theorem dX4_readTerm_30 : decode cX4_readTerm 30 = .ok (.iload 4, 2) := by decide +kernel
theorem dX4_readTerm_32 : decode cX4_readTerm 32 = .ok (.ifCond .ne 17, 3) := by decide +kernel
theorem dX4_readTerm_35 : decode cX4_readTerm 35 = .ok (.aload_n 0, 1) := by decide +kernel
theorem dX4_readTerm_36 : decode cX4_readTerm 36 = .ok (.getfield 12, 3) := by decide +kernel
theorem dX4_readTerm_39 : decode cX4_readTerm 39 = .ok (.bipush 47, 2) := by decide +kernel
theorem dX4_readTerm_41 : decode cX4_readTerm 41 = .ok (.invokevirtual 157, 3) := by decide +kernel
theorem dX4_readTerm_44 : decode cX4_readTerm 44 = .ok (.ifCond .ne 5, 3) := by decide +kernel
theorem dX4_readTerm_47 : decode cX4_readTerm 47 = .ok (.iconst 1, 1) := by decide +kernel
theorem dX4_readTerm_48 : decode cX4_readTerm 48 = .ok (.ireturn, 1) := by decide +kernel
theorem dX4_readTerm_49 : decode cX4_readTerm 49 = .ok (.aload_n 0, 1) := by decide +kernel
theorem dX4_readTerm_50 : decode cX4_readTerm 50 = .ok (.getfield 12, 3) := by decide +kernel
theorem dX4_readTerm_53 : decode cX4_readTerm 53 = .ok (.invokevirtual 84, 3) := by decide +kernel
theorem dX4_readTerm_56 : decode cX4_readTerm 56 = .ok (.aload_n 0, 1) := by decide +kernel
theorem dX4_readTerm_57 : decode cX4_readTerm 57 = .ok (.iload_n 1, 1) := by decide +kernel
theorem dX4_readTerm_58 : decode cX4_readTerm 58 = .ok (.invokevirtual 160, 3) := by decide +kernel
theorem dX4_readTerm_61 : decode cX4_readTerm 61 = .ok (.istore_n 2, 1) := by decide +kernel
theorem dX4_readTerm_62 : decode cX4_readTerm 62 = .ok (.aload_n 0, 1) := by decide +kernel
theorem dX4_readTerm_63 : decode cX4_readTerm 63 = .ok (.iload 4, 2) := by decide +kernel
theorem dX4_readTerm_65 : decode cX4_readTerm 65 = .ok (.ifCond .eq 8, 3) := by decide +kernel
theorem dX4_readTerm_68 : decode cX4_readTerm 68 = .ok (.bipush (-7), 2) := by decide +kernel
theorem dX4_readTerm_70 : decode cX4_readTerm 70 = .ok (.goto 5, 3) := by decide +kernel
theorem dX4_readTerm_73 : decode cX4_readTerm 73 = .ok (.bipush (-8), 2) := by decide +kernel
theorem dX4_readTerm_75 : decode cX4_readTerm 75 = .ok (.invokevirtual 38, 3) := by decide +kernel
theorem dX4_readTerm_78 : decode cX4_readTerm 78 = .ok (.iinc 3 1, 3) := by decide +kernel
theorem dX4_readTerm_81 : decode cX4_readTerm 81 = .ok (.goto (-73), 3) := by decide +kernel
theorem dX4_readTerm_84 : decode cX4_readTerm 84 = .ok (.iload_n 2, 1) := by decide +kernel
theorem dX4_readTerm_85 : decode cX4_readTerm 85 = .ok (.ireturn, 1) := by decide +kernel
theorem dX4_readFactor_0 : decode cX4_readFactor 0 = .ok (.aload_n 0, 1) := by decide +kernel
theorem dX4_readFactor_1 : decode cX4_readFactor 1 = .ok (.getfield 12, 3) := by decide +kernel
theorem dX4_readFactor_4 : decode cX4_readFactor 4 = .ok (.getfield 49, 3) := by decide +kernel
theorem dX4_readFactor_7 : decode cX4_readFactor 7 = .ok (.iconst 1, 1) := by decide +kernel
theorem dX4_readFactor_8 : decode cX4_readFactor 8 = .ok (.if_icmp .ne 31, 3) := by decide +kernel
theorem dX4_readFactor_11 : decode cX4_readFactor 11 = .ok (.aload_n 0, 1) := by decide +kernel
theorem dX4_readFactor_12 : decode cX4_readFactor 12 = .ok (.aload_n 0, 1) := by decide +kernel
theorem dX4_readFactor_13 : decode cX4_readFactor 13 = .ok (.getfield 12, 3) := by decide +kernel
theorem dX4_readFactor_16 : decode cX4_readFactor 16 = .ok (.getfield 147, 3) := by decide +kernel
theorem dX4_readFactor_19 : decode cX4_readFactor 19 = .ok (.invokevirtual 38, 3) := by decide +kernel
theorem dX4_readFactor_22 : decode cX4_readFactor 22 = .ok (.aload_n 0, 1) := by decide +kernel
theorem dX4_readFactor_23 : decode cX4_readFactor 23 = .ok (.iconst 0, 1) := by decide +kernel
theorem dX4_readFactor_24 : decode cX4_readFactor 24 = .ok (.sipush 9999, 3) := by decide +kernel
theorem dX4_readFactor_27 : decode cX4_readFactor 27 = .ok (.invokevirtual 87, 3) := by decide +kernel
theorem dX4_readFactor_30 : decode cX4_readFactor 30 = .ok (.ifCond .lt 7, 3) := by decide +kernel
theorem dX4_readFactor_33 : decode cX4_readFactor 33 = .ok (.iconst 1, 1) := by decide +kernel
theorem dX4_readFactor_34 : decode cX4_readFactor 34 = .ok (.goto 4, 3) := by decide +kernel
theorem dX4_readFactor_37 : decode cX4_readFactor 37 = .ok (.iconst 0, 1) := by decide +kernel
theorem dX4_readFactor_38 : decode cX4_readFactor 38 = .ok (.ireturn, 1) := by decide +kernel
theorem dX4_readFactor_39 : decode cX4_readFactor 39 = .ok (.aload_n 0, 1) := by decide +kernel
theorem dX4_readFactor_40 : decode cX4_readFactor 40 = .ok (.getfield 12, 3) := by decide +kernel
theorem dX4_readFactor_43 : decode cX4_readFactor 43 = .ok (.bipush 40, 2) := by decide +kernel
theorem dX4_readFactor_45 : decode cX4_readFactor 45 = .ok (.invokevirtual 157, 3) := by decide +kernel
theorem dX4_readFactor_48 : decode cX4_readFactor 48 = .ok (.ifCond .eq 47, 3) := by decide +kernel
theorem dX4_readFactor_51 : decode cX4_readFactor 51 = .ok (.iload_n 1, 1) := by decide +kernel
theorem dX4_readFactor_52 : decode cX4_readFactor 52 = .ok (.iconst 4, 1) := by decide +kernel
theorem dX4_readFactor_53 : decode cX4_readFactor 53 = .ok (.if_icmp .lt 10, 3) := by decide +kernel
theorem dX4_readFactor_56 : decode cX4_readFactor 56 = .ok (.aload_n 0, 1) := by decide +kernel
theorem dX4_readFactor_57 : decode cX4_readFactor 57 = .ok (.bipush (-5), 2) := by decide +kernel
theorem dX4_readFactor_59 : decode cX4_readFactor 59 = .ok (.invokevirtual 80, 3) := by decide +kernel
theorem dX4_readFactor_62 : decode cX4_readFactor 62 = .ok (.ireturn, 1) := by decide +kernel
theorem dX4_readFactor_63 : decode cX4_readFactor 63 = .ok (.aload_n 0, 1) := by decide +kernel
theorem dX4_readFactor_64 : decode cX4_readFactor 64 = .ok (.getfield 12, 3) := by decide +kernel
theorem dX4_readFactor_67 : decode cX4_readFactor 67 = .ok (.invokevirtual 84, 3) := by decide +kernel
theorem dX4_readFactor_70 : decode cX4_readFactor 70 = .ok (.aload_n 0, 1) := by decide +kernel
theorem dX4_readFactor_71 : decode cX4_readFactor 71 = .ok (.iload_n 1, 1) := by decide +kernel
theorem dX4_readFactor_72 : decode cX4_readFactor 72 = .ok (.iconst 1, 1) := by decide +kernel
theorem dX4_readFactor_73 : decode cX4_readFactor 73 = .ok (.iadd, 1) := by decide +kernel
theorem dX4_readFactor_74 : decode cX4_readFactor 74 = .ok (.invokevirtual 132, 3) := by decide +kernel
theorem dX4_readFactor_77 : decode cX4_readFactor 77 = .ok (.ifCond .eq 16, 3) := by decide +kernel
theorem dX4_readFactor_80 : decode cX4_readFactor 80 = .ok (.aload_n 0, 1) := by decide +kernel
theorem dX4_readFactor_81 : decode cX4_readFactor 81 = .ok (.bipush 41, 2) := by decide +kernel
theorem dX4_readFactor_83 : decode cX4_readFactor 83 = .ok (.invokevirtual 55, 3) := by decide +kernel
theorem dX4_readFactor_86 : decode cX4_readFactor 86 = .ok (.ifCond .eq 7, 3) := by decide +kernel
theorem dX4_readFactor_89 : decode cX4_readFactor 89 = .ok (.iconst 1, 1) := by decide +kernel
theorem dX4_readFactor_90 : decode cX4_readFactor 90 = .ok (.goto 4, 3) := by decide +kernel
theorem dX4_readFactor_93 : decode cX4_readFactor 93 = .ok (.iconst 0, 1) := by decide +kernel
theorem dX4_readFactor_94 : decode cX4_readFactor 94 = .ok (.ireturn, 1) := by decide +kernel
theorem dX4_readFactor_95 : decode cX4_readFactor 95 = .ok (.aload_n 0, 1) := by decide +kernel
theorem dX4_readFactor_96 : decode cX4_readFactor 96 = .ok (.getfield 12, 3) := by decide +kernel
theorem dX4_readFactor_99 : decode cX4_readFactor 99 = .ok (.ldc 163, 2) := by decide +kernel
theorem dX4_readFactor_101 : decode cX4_readFactor 101 = .ok (.invokevirtual 76, 3) := by decide +kernel
theorem dX4_readFactor_104 : decode cX4_readFactor 104 = .ok (.ifCond .eq 11, 3) := by decide +kernel
theorem dX4_readFactor_107 : decode cX4_readFactor 107 = .ok (.aload_n 0, 1) := by decide +kernel
theorem dX4_readFactor_108 : decode cX4_readFactor 108 = .ok (.iconst (-1), 1) := by decide +kernel
theorem dX4_readFactor_109 : decode cX4_readFactor 109 = .ok (.invokevirtual 38, 3) := by decide +kernel
theorem dX4_readFactor_112 : decode cX4_readFactor 112 = .ok (.goto 73, 3) := by decide +kernel
theorem dX4_readFactor_115 : decode cX4_readFactor 115 = .ok (.aload_n 0, 1) := by decide +kernel
theorem dX4_readFactor_116 : decode cX4_readFactor 116 = .ok (.getfield 12, 3) := by decide +kernel
theorem dX4_readFactor_119 : decode cX4_readFactor 119 = .ok (.ldc 165, 2) := by decide +kernel
theorem dX4_readFactor_121 : decode cX4_readFactor 121 = .ok (.invokevirtual 76, 3) := by decide +kernel
theorem dX4_readFactor_124 : decode cX4_readFactor 124 = .ok (.ifCond .eq 12, 3) := by decide +kernel
theorem dX4_readFactor_127 : decode cX4_readFactor 127 = .ok (.aload_n 0, 1) := by decide +kernel
theorem dX4_readFactor_128 : decode cX4_readFactor 128 = .ok (.bipush (-2), 2) := by decide +kernel
theorem dX4_readFactor_130 : decode cX4_readFactor 130 = .ok (.invokevirtual 38, 3) := by decide +kernel
theorem dX4_readFactor_133 : decode cX4_readFactor 133 = .ok (.goto 52, 3) := by decide +kernel
theorem dX4_readFactor_136 : decode cX4_readFactor 136 = .ok (.aload_n 0, 1) := by decide +kernel
theorem dX4_readFactor_137 : decode cX4_readFactor 137 = .ok (.getfield 12, 3) := by decide +kernel
theorem dX4_readFactor_140 : decode cX4_readFactor 140 = .ok (.ldc 135, 2) := by decide +kernel
theorem dX4_readFactor_142 : decode cX4_readFactor 142 = .ok (.invokevirtual 76, 3) := by decide +kernel
theorem dX4_readFactor_145 : decode cX4_readFactor 145 = .ok (.ifCond .eq 12, 3) := by decide +kernel
theorem dX4_readFactor_148 : decode cX4_readFactor 148 = .ok (.aload_n 0, 1) := by decide +kernel
theorem dX4_readFactor_149 : decode cX4_readFactor 149 = .ok (.bipush (-3), 2) := by decide +kernel
theorem dX4_readFactor_151 : decode cX4_readFactor 151 = .ok (.invokevirtual 38, 3) := by decide +kernel
theorem dX4_readFactor_154 : decode cX4_readFactor 154 = .ok (.goto 31, 3) := by decide +kernel
theorem dX4_readFactor_157 : decode cX4_readFactor 157 = .ok (.aload_n 0, 1) := by decide +kernel
theorem dX4_readFactor_158 : decode cX4_readFactor 158 = .ok (.getfield 12, 3) := by decide +kernel
theorem dX4_readFactor_161 : decode cX4_readFactor 161 = .ok (.ldc 167, 2) := by decide +kernel
theorem dX4_readFactor_163 : decode cX4_readFactor 163 = .ok (.invokevirtual 76, 3) := by decide +kernel
theorem dX4_readFactor_166 : decode cX4_readFactor 166 = .ok (.ifCond .eq 12, 3) := by decide +kernel
theorem dX4_readFactor_169 : decode cX4_readFactor 169 = .ok (.aload_n 0, 1) := by decide +kernel
theorem dX4_readFactor_170 : decode cX4_readFactor 170 = .ok (.bipush (-4), 2) := by decide +kernel
theorem dX4_readFactor_172 : decode cX4_readFactor 172 = .ok (.invokevirtual 38, 3) := by decide +kernel
theorem dX4_readFactor_175 : decode cX4_readFactor 175 = .ok (.goto 10, 3) := by decide +kernel
theorem dX4_readFactor_178 : decode cX4_readFactor 178 = .ok (.aload_n 0, 1) := by decide +kernel
theorem dX4_readFactor_179 : decode cX4_readFactor 179 = .ok (.bipush (-2), 2) := by decide +kernel
theorem dX4_readFactor_181 : decode cX4_readFactor 181 = .ok (.invokevirtual 80, 3) := by decide +kernel
theorem dX4_readFactor_184 : decode cX4_readFactor 184 = .ok (.ireturn, 1) := by decide +kernel
theorem dX4_readFactor_185 : decode cX4_readFactor 185 = .ok (.aload_n 0, 1) := by decide +kernel
theorem dX4_readFactor_186 : decode cX4_readFactor 186 = .ok (.getfield 12, 3) := by decide +kernel
theorem dX4_readFactor_189 : decode cX4_readFactor 189 = .ok (.invokevirtual 84, 3) := by decide +kernel
theorem dX4_readFactor_192 : decode cX4_readFactor 192 = .ok (.iconst 1, 1) := by decide +kernel
theorem dX4_readFactor_193 : decode cX4_readFactor 193 = .ok (.ireturn, 1) := by decide +kernel
theorem dX4_takeNumber_0 : decode cX4_takeNumber 0 = .ok (.aload_n 0, 1) := by decide +kernel
theorem dX4_takeNumber_1 : decode cX4_takeNumber 1 = .ok (.getfield 12, 3) := by decide +kernel
theorem dX4_takeNumber_4 : decode cX4_takeNumber 4 = .ok (.getfield 147, 3) := by decide +kernel
theorem dX4_takeNumber_7 : decode cX4_takeNumber 7 = .ok (.istore_n 3, 1) := by decide +kernel
theorem dX4_takeNumber_8 : decode cX4_takeNumber 8 = .ok (.aload_n 0, 1) := by decide +kernel
theorem dX4_takeNumber_9 : decode cX4_takeNumber 9 = .ok (.getfield 12, 3) := by decide +kernel
theorem dX4_takeNumber_12 : decode cX4_takeNumber 12 = .ok (.getfield 49, 3) := by decide +kernel
theorem dX4_takeNumber_15 : decode cX4_takeNumber 15 = .ok (.iconst 1, 1) := by decide +kernel
theorem dX4_takeNumber_16 : decode cX4_takeNumber 16 = .ok (.if_icmp .eq 12, 3) := by decide +kernel
theorem dX4_takeNumber_19 : decode cX4_takeNumber 19 = .ok (.aload_n 0, 1) := by decide +kernel
theorem dX4_takeNumber_20 : decode cX4_takeNumber 20 = .ok (.bipush (-2), 2) := by decide +kernel
theorem dX4_takeNumber_22 : decode cX4_takeNumber 22 = .ok (.invokevirtual 80, 3) := by decide +kernel
theorem dX4_takeNumber_25 : decode cX4_takeNumber 25 = .ok (.pop, 1) := by decide +kernel
theorem dX4_takeNumber_26 : decode cX4_takeNumber 26 = .ok (.iconst (-1), 1) := by decide +kernel
theorem dX4_takeNumber_27 : decode cX4_takeNumber 27 = .ok (.ireturn, 1) := by decide +kernel
theorem dX4_takeNumber_28 : decode cX4_takeNumber 28 = .ok (.iload_n 3, 1) := by decide +kernel
theorem dX4_takeNumber_29 : decode cX4_takeNumber 29 = .ok (.iload_n 1, 1) := by decide +kernel
theorem dX4_takeNumber_30 : decode cX4_takeNumber 30 = .ok (.if_icmp .lt 8, 3) := by decide +kernel
theorem dX4_takeNumber_33 : decode cX4_takeNumber 33 = .ok (.iload_n 3, 1) := by decide +kernel
theorem dX4_takeNumber_34 : decode cX4_takeNumber 34 = .ok (.iload_n 2, 1) := by decide +kernel
theorem dX4_takeNumber_35 : decode cX4_takeNumber 35 = .ok (.if_icmp .le 12, 3) := by decide +kernel
theorem dX4_takeNumber_38 : decode cX4_takeNumber 38 = .ok (.aload_n 0, 1) := by decide +kernel
theorem dX4_takeNumber_39 : decode cX4_takeNumber 39 = .ok (.bipush (-3), 2) := by decide +kernel
theorem dX4_takeNumber_41 : decode cX4_takeNumber 41 = .ok (.invokevirtual 80, 3) := by decide +kernel
theorem dX4_takeNumber_44 : decode cX4_takeNumber 44 = .ok (.pop, 1) := by decide +kernel
theorem dX4_takeNumber_45 : decode cX4_takeNumber 45 = .ok (.iconst (-1), 1) := by decide +kernel
theorem dX4_takeNumber_46 : decode cX4_takeNumber 46 = .ok (.ireturn, 1) := by decide +kernel
theorem dX4_takeNumber_47 : decode cX4_takeNumber 47 = .ok (.aload_n 0, 1) := by decide +kernel
theorem dX4_takeNumber_48 : decode cX4_takeNumber 48 = .ok (.getfield 12, 3) := by decide +kernel
theorem dX4_takeNumber_51 : decode cX4_takeNumber 51 = .ok (.invokevirtual 84, 3) := by decide +kernel
theorem dX4_takeNumber_54 : decode cX4_takeNumber 54 = .ok (.iload_n 3, 1) := by decide +kernel
theorem dX4_takeNumber_55 : decode cX4_takeNumber 55 = .ok (.ireturn, 1) := by decide +kernel
theorem dX4_takeMark_0 : decode cX4_takeMark 0 = .ok (.aload_n 0, 1) := by decide +kernel
theorem dX4_takeMark_1 : decode cX4_takeMark 1 = .ok (.getfield 12, 3) := by decide +kernel
theorem dX4_takeMark_4 : decode cX4_takeMark 4 = .ok (.iload_n 1, 1) := by decide +kernel
theorem dX4_takeMark_5 : decode cX4_takeMark 5 = .ok (.invokevirtual 157, 3) := by decide +kernel
theorem dX4_takeMark_8 : decode cX4_takeMark 8 = .ok (.ifCond .ne 10, 3) := by decide +kernel
theorem dX4_takeMark_11 : decode cX4_takeMark 11 = .ok (.aload_n 0, 1) := by decide +kernel
theorem dX4_takeMark_12 : decode cX4_takeMark 12 = .ok (.bipush (-2), 2) := by decide +kernel
theorem dX4_takeMark_14 : decode cX4_takeMark 14 = .ok (.invokevirtual 80, 3) := by decide +kernel
theorem dX4_takeMark_17 : decode cX4_takeMark 17 = .ok (.ireturn, 1) := by decide +kernel
theorem dX4_takeMark_18 : decode cX4_takeMark 18 = .ok (.aload_n 0, 1) := by decide +kernel
theorem dX4_takeMark_19 : decode cX4_takeMark 19 = .ok (.getfield 12, 3) := by decide +kernel
theorem dX4_takeMark_22 : decode cX4_takeMark 22 = .ok (.invokevirtual 84, 3) := by decide +kernel
theorem dX4_takeMark_25 : decode cX4_takeMark 25 = .ok (.iconst 1, 1) := by decide +kernel
theorem dX4_takeMark_26 : decode cX4_takeMark 26 = .ok (.ireturn, 1) := by decide +kernel
theorem dX4_fail_0 : decode cX4_fail 0 = .ok (.aload_n 0, 1) := by decide +kernel
theorem dX4_fail_1 : decode cX4_fail 1 = .ok (.iload_n 1, 1) := by decide +kernel
theorem dX4_fail_2 : decode cX4_fail 2 = .ok (.putfield 18, 3) := by decide +kernel
theorem dX4_fail_5 : decode cX4_fail 5 = .ok (.aload_n 0, 1) := by decide +kernel
theorem dX4_fail_6 : decode cX4_fail 6 = .ok (.aload_n 0, 1) := by decide +kernel
theorem dX4_fail_7 : decode cX4_fail 7 = .ok (.getfield 12, 3) := by decide +kernel
theorem dX4_fail_10 : decode cX4_fail 10 = .ok (.getfield 169, 3) := by decide +kernel
theorem dX4_fail_13 : decode cX4_fail 13 = .ok (.putfield 22, 3) := by decide +kernel
theorem dX4_fail_16 : decode cX4_fail 16 = .ok (.iconst 0, 1) := by decide +kernel
theorem dX4_fail_17 : decode cX4_fail 17 = .ok (.ireturn, 1) := by decide +kernel
theorem dX4_addStep_0 : decode cX4_addStep 0 = .ok (.aload_n 0, 1) := by decide +kernel
theorem dX4_addStep_1 : decode cX4_addStep 1 = .ok (.getfield 29, 3) := by decide +kernel
theorem dX4_addStep_4 : decode cX4_addStep 4 = .ok (.sipush 900, 3) := by decide +kernel
theorem dX4_addStep_7 : decode cX4_addStep 7 = .ok (.if_icmp .ge 23, 3) := by decide +kernel
theorem dX4_addStep_10 : decode cX4_addStep 10 = .ok (.aload_n 0, 1) := by decide +kernel
theorem dX4_addStep_11 : decode cX4_addStep 11 = .ok (.getfield 25, 3) := by decide +kernel
theorem dX4_addStep_14 : decode cX4_addStep 14 = .ok (.aload_n 0, 1) := by decide +kernel
theorem dX4_addStep_15 : decode cX4_addStep 15 = .ok (.getfield 29, 3) := by decide +kernel
theorem dX4_addStep_18 : decode cX4_addStep 18 = .ok (.iload_n 1, 1) := by decide +kernel
theorem dX4_addStep_19 : decode cX4_addStep 19 = .ok (.iastore, 1) := by decide +kernel
theorem dX4_addStep_20 : decode cX4_addStep 20 = .ok (.aload_n 0, 1) := by decide +kernel
theorem dX4_addStep_21 : decode cX4_addStep 21 = .ok (.dup, 1) := by decide +kernel
theorem dX4_addStep_22 : decode cX4_addStep 22 = .ok (.getfield 29, 3) := by decide +kernel
theorem dX4_addStep_25 : decode cX4_addStep 25 = .ok (.iconst 1, 1) := by decide +kernel
theorem dX4_addStep_26 : decode cX4_addStep 26 = .ok (.iadd, 1) := by decide +kernel
theorem dX4_addStep_27 : decode cX4_addStep 27 = .ok (.putfield 29, 3) := by decide +kernel
theorem dX4_addStep_30 : decode cX4_addStep 30 = .ok (.return_, 1) := by decide +kernel
theorem dX5_init_0 : decode cX5_init 0 = .ok (.aload_n 0, 1) := by decide +kernel
theorem dX5_init_1 : decode cX5_init 1 = .ok (.invokespecial 3, 3) := by decide +kernel
theorem dX5_init_4 : decode cX5_init 4 = .ok (.aload_n 0, 1) := by decide +kernel
