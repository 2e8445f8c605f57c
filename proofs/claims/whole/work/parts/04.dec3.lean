theorem dX8_queueReady_134 : decode cX8_queueReady 134 = .ok (.iadd, 1) := by decide +kernel
theorem dX8_queueReady_135 : decode cX8_queueReady 135 = .ok (.iconst 2, 1) := by decide +kernel
theorem dX8_queueReady_136 : decode cX8_queueReady 136 = .ok (.iastore, 1) := by decide +kernel
theorem dX8_queueReady_137 : decode cX8_queueReady 137 = .ok (.iinc 2 1, 3) := by decide +kernel
theorem dX8_queueReady_140 : decode cX8_queueReady 140 = .ok (.goto (-88), 3) := by decide +kernel
theorem dX8_queueReady_143 : decode cX8_queueReady 143 = .ok (.iinc 1 (-1), 3) := by decide +kernel
theorem dX8_queueReady_146 : decode cX8_queueReady 146 = .ok (.goto (-100), 3) := by decide +kernel
theorem dX8_queueReady_149 : decode cX8_queueReady 149 = .ok (.return_, 1) := by decide +kernel
theorem dX8_takeOut_0 : decode cX8_takeOut 0 = .ok (.iload_n 1, 1) := by decide +kernel
theorem dX8_takeOut_1 : decode cX8_takeOut 1 = .ok (.invokestatic 41, 3) := by decide +kernel
theorem dX8_takeOut_4 : decode cX8_takeOut 4 = .ok (.istore_n 3, 1) := by decide +kernel
theorem dX8_takeOut_5 : decode cX8_takeOut 5 = .ok (.aload_n 0, 1) := by decide +kernel
theorem dX8_takeOut_6 : decode cX8_takeOut 6 = .ok (.iload_n 3, 1) := by decide +kernel
theorem dX8_takeOut_7 : decode cX8_takeOut 7 = .ok (.iconst 5, 1) := by decide +kernel
theorem dX8_takeOut_8 : decode cX8_takeOut 8 = .ok (.iadd, 1) := by decide +kernel
theorem dX8_takeOut_9 : decode cX8_takeOut 9 = .ok (.iload_n 2, 1) := by decide +kernel
theorem dX8_takeOut_10 : decode cX8_takeOut 10 = .ok (.iadd, 1) := by decide +kernel
theorem dX8_takeOut_11 : decode cX8_takeOut 11 = .ok (.iaload, 1) := by decide +kernel
theorem dX8_takeOut_12 : decode cX8_takeOut 12 = .ok (.istore 4, 2) := by decide +kernel
theorem dX8_takeOut_14 : decode cX8_takeOut 14 = .ok (.aload_n 0, 1) := by decide +kernel
theorem dX8_takeOut_15 : decode cX8_takeOut 15 = .ok (.iload_n 3, 1) := by decide +kernel
theorem dX8_takeOut_16 : decode cX8_takeOut 16 = .ok (.iconst 4, 1) := by decide +kernel
theorem dX8_takeOut_17 : decode cX8_takeOut 17 = .ok (.iadd, 1) := by decide +kernel
theorem dX8_takeOut_18 : decode cX8_takeOut 18 = .ok (.dup2, 1) := by decide +kernel
theorem dX8_takeOut_19 : decode cX8_takeOut 19 = .ok (.iaload, 1) := by decide +kernel
theorem dX8_takeOut_20 : decode cX8_takeOut 20 = .ok (.iconst 1, 1) := by decide +kernel
theorem dX8_takeOut_21 : decode cX8_takeOut 21 = .ok (.isub, 1) := by decide +kernel
theorem dX8_takeOut_22 : decode cX8_takeOut 22 = .ok (.iastore, 1) := by decide +kernel
theorem dX8_takeOut_23 : decode cX8_takeOut 23 = .ok (.iload_n 2, 1) := by decide +kernel
theorem dX8_takeOut_24 : decode cX8_takeOut 24 = .ok (.istore 5, 2) := by decide +kernel
theorem dX8_takeOut_26 : decode cX8_takeOut 26 = .ok (.iload 5, 2) := by decide +kernel
theorem dX8_takeOut_28 : decode cX8_takeOut 28 = .ok (.aload_n 0, 1) := by decide +kernel
theorem dX8_takeOut_29 : decode cX8_takeOut 29 = .ok (.iload_n 3, 1) := by decide +kernel
theorem dX8_takeOut_30 : decode cX8_takeOut 30 = .ok (.iconst 4, 1) := by decide +kernel
theorem dX8_takeOut_31 : decode cX8_takeOut 31 = .ok (.iadd, 1) := by decide +kernel
theorem dX8_takeOut_32 : decode cX8_takeOut 32 = .ok (.iaload, 1) := by decide +kernel
theorem dX8_takeOut_33 : decode cX8_takeOut 33 = .ok (.if_icmp .ge 27, 3) := by decide +kernel
theorem dX8_takeOut_36 : decode cX8_takeOut 36 = .ok (.aload_n 0, 1) := by decide +kernel
theorem dX8_takeOut_37 : decode cX8_takeOut 37 = .ok (.iload_n 3, 1) := by decide +kernel
theorem dX8_takeOut_38 : decode cX8_takeOut 38 = .ok (.iconst 5, 1) := by decide +kernel
theorem dX8_takeOut_39 : decode cX8_takeOut 39 = .ok (.iadd, 1) := by decide +kernel
theorem dX8_takeOut_40 : decode cX8_takeOut 40 = .ok (.iload 5, 2) := by decide +kernel
theorem dX8_takeOut_42 : decode cX8_takeOut 42 = .ok (.iadd, 1) := by decide +kernel
theorem dX8_takeOut_43 : decode cX8_takeOut 43 = .ok (.aload_n 0, 1) := by decide +kernel
theorem dX8_takeOut_44 : decode cX8_takeOut 44 = .ok (.iload_n 3, 1) := by decide +kernel
theorem dX8_takeOut_45 : decode cX8_takeOut 45 = .ok (.iconst 5, 1) := by decide +kernel
theorem dX8_takeOut_46 : decode cX8_takeOut 46 = .ok (.iadd, 1) := by decide +kernel
theorem dX8_takeOut_47 : decode cX8_takeOut 47 = .ok (.iload 5, 2) := by decide +kernel
theorem dX8_takeOut_49 : decode cX8_takeOut 49 = .ok (.iadd, 1) := by decide +kernel
theorem dX8_takeOut_50 : decode cX8_takeOut 50 = .ok (.iconst 1, 1) := by decide +kernel
theorem dX8_takeOut_51 : decode cX8_takeOut 51 = .ok (.iadd, 1) := by decide +kernel
theorem dX8_takeOut_52 : decode cX8_takeOut 52 = .ok (.iaload, 1) := by decide +kernel
theorem dX8_takeOut_53 : decode cX8_takeOut 53 = .ok (.iastore, 1) := by decide +kernel
theorem dX8_takeOut_54 : decode cX8_takeOut 54 = .ok (.iinc 5 1, 3) := by decide +kernel
theorem dX8_takeOut_57 : decode cX8_takeOut 57 = .ok (.goto (-31), 3) := by decide +kernel
theorem dX8_takeOut_60 : decode cX8_takeOut 60 = .ok (.iload 4, 2) := by decide +kernel
theorem dX8_takeOut_62 : decode cX8_takeOut 62 = .ok (.ireturn, 1) := by decide +kernel
theorem dX8_take_0 : decode cX8_take 0 = .ok (.iload_n 2, 1) := by decide +kernel
theorem dX8_take_1 : decode cX8_take 1 = .ok (.istore_n 3, 1) := by decide +kernel
theorem dX8_take_2 : decode cX8_take 2 = .ok (.iconst 0, 1) := by decide +kernel
theorem dX8_take_3 : decode cX8_take 3 = .ok (.istore 4, 2) := by decide +kernel
theorem dX8_take_5 : decode cX8_take 5 = .ok (.aload_n 1, 1) := by decide +kernel
theorem dX8_take_6 : decode cX8_take 6 = .ok (.iload_n 2, 1) := by decide +kernel
theorem dX8_take_7 : decode cX8_take 7 = .ok (.invokestatic 41, 3) := by decide +kernel
theorem dX8_take_10 : decode cX8_take 10 = .ok (.iconst 4, 1) := by decide +kernel
theorem dX8_take_11 : decode cX8_take 11 = .ok (.iadd, 1) := by decide +kernel
theorem dX8_take_12 : decode cX8_take 12 = .ok (.iaload, 1) := by decide +kernel
theorem dX8_take_13 : decode cX8_take 13 = .ok (.ifCond .ne 98, 3) := by decide +kernel
theorem dX8_take_16 : decode cX8_take 16 = .ok (.iconst 0, 1) := by decide +kernel
theorem dX8_take_17 : decode cX8_take 17 = .ok (.istore 5, 2) := by decide +kernel
theorem dX8_take_19 : decode cX8_take 19 = .ok (.iload 5, 2) := by decide +kernel
theorem dX8_take_21 : decode cX8_take 21 = .ok (.aload_n 1, 1) := by decide +kernel
theorem dX8_take_22 : decode cX8_take 22 = .ok (.iconst 0, 1) := by decide +kernel
theorem dX8_take_23 : decode cX8_take 23 = .ok (.iaload, 1) := by decide +kernel
theorem dX8_take_24 : decode cX8_take 24 = .ok (.if_icmp .ge 58, 3) := by decide +kernel
theorem dX8_take_27 : decode cX8_take 27 = .ok (.aload_n 1, 1) := by decide +kernel
theorem dX8_take_28 : decode cX8_take 28 = .ok (.iload 5, 2) := by decide +kernel
theorem dX8_take_30 : decode cX8_take 30 = .ok (.invokestatic 41, 3) := by decide +kernel
theorem dX8_take_33 : decode cX8_take 33 = .ok (.iconst 4, 1) := by decide +kernel
theorem dX8_take_34 : decode cX8_take 34 = .ok (.iadd, 1) := by decide +kernel
theorem dX8_take_35 : decode cX8_take 35 = .ok (.iaload, 1) := by decide +kernel
theorem dX8_take_36 : decode cX8_take 36 = .ok (.aload_n 1, 1) := by decide +kernel
theorem dX8_take_37 : decode cX8_take 37 = .ok (.iload_n 3, 1) := by decide +kernel
theorem dX8_take_38 : decode cX8_take 38 = .ok (.invokestatic 41, 3) := by decide +kernel
theorem dX8_take_41 : decode cX8_take 41 = .ok (.iconst 4, 1) := by decide +kernel
theorem dX8_take_42 : decode cX8_take 42 = .ok (.iadd, 1) := by decide +kernel
theorem dX8_take_43 : decode cX8_take 43 = .ok (.iaload, 1) := by decide +kernel
theorem dX8_take_44 : decode cX8_take 44 = .ok (.if_icmp .gt 29, 3) := by decide +kernel
theorem dX8_take_47 : decode cX8_take 47 = .ok (.iload 5, 2) := by decide +kernel
theorem dX8_take_49 : decode cX8_take 49 = .ok (.iload_n 3, 1) := by decide +kernel
theorem dX8_take_50 : decode cX8_take 50 = .ok (.if_icmp .ge 26, 3) := by decide +kernel
theorem dX8_take_53 : decode cX8_take 53 = .ok (.aload_n 1, 1) := by decide +kernel
theorem dX8_take_54 : decode cX8_take 54 = .ok (.iload 5, 2) := by decide +kernel
theorem dX8_take_56 : decode cX8_take 56 = .ok (.invokestatic 41, 3) := by decide +kernel
theorem dX8_take_59 : decode cX8_take 59 = .ok (.iconst 4, 1) := by decide +kernel
theorem dX8_take_60 : decode cX8_take 60 = .ok (.iadd, 1) := by decide +kernel
theorem dX8_take_61 : decode cX8_take 61 = .ok (.iaload, 1) := by decide +kernel
theorem dX8_take_62 : decode cX8_take 62 = .ok (.aload_n 1, 1) := by decide +kernel
theorem dX8_take_63 : decode cX8_take 63 = .ok (.iload_n 3, 1) := by decide +kernel
theorem dX8_take_64 : decode cX8_take 64 = .ok (.invokestatic 41, 3) := by decide +kernel
theorem dX8_take_67 : decode cX8_take 67 = .ok (.iconst 4, 1) := by decide +kernel
theorem dX8_take_68 : decode cX8_take 68 = .ok (.iadd, 1) := by decide +kernel
theorem dX8_take_69 : decode cX8_take 69 = .ok (.iaload, 1) := by decide +kernel
theorem dX8_take_70 : decode cX8_take 70 = .ok (.if_icmp .ne 6, 3) := by decide +kernel
theorem dX8_take_73 : decode cX8_take 73 = .ok (.iload 5, 2) := by decide +kernel
theorem dX8_take_75 : decode cX8_take 75 = .ok (.istore_n 3, 1) := by decide +kernel
theorem dX8_take_76 : decode cX8_take 76 = .ok (.iinc 5 1, 3) := by decide +kernel
theorem dX8_take_79 : decode cX8_take 79 = .ok (.goto (-60), 3) := by decide +kernel
theorem dX8_take_82 : decode cX8_take 82 = .ok (.aload_n 1, 1) := by decide +kernel
theorem dX8_take_83 : decode cX8_take 83 = .ok (.iload_n 3, 1) := by decide +kernel
theorem dX8_take_84 : decode cX8_take 84 = .ok (.invokestatic 41, 3) := by decide +kernel
theorem dX8_take_87 : decode cX8_take 87 = .ok (.iconst 4, 1) := by decide +kernel
theorem dX8_take_88 : decode cX8_take 88 = .ok (.iadd, 1) := by decide +kernel
theorem dX8_take_89 : decode cX8_take 89 = .ok (.iaload, 1) := by decide +kernel
theorem dX8_take_90 : decode cX8_take 90 = .ok (.ifCond .ne 4, 3) := by decide +kernel
theorem dX8_take_93 : decode cX8_take 93 = .ok (.return_, 1) := by decide +kernel
theorem dX8_take_94 : decode cX8_take 94 = .ok (.aload_n 1, 1) := by decide +kernel
theorem dX8_take_95 : decode cX8_take 95 = .ok (.iconst 2, 1) := by decide +kernel
theorem dX8_take_96 : decode cX8_take 96 = .ok (.iaload, 1) := by decide +kernel
theorem dX8_take_97 : decode cX8_take 97 = .ok (.istore 4, 2) := by decide +kernel
theorem dX8_take_99 : decode cX8_take 99 = .ok (.aload_n 1, 1) := by decide +kernel
theorem dX8_take_100 : decode cX8_take 100 = .ok (.iload_n 2, 1) := by decide +kernel
theorem dX8_take_101 : decode cX8_take 101 = .ok (.invokestatic 41, 3) := by decide +kernel
theorem dX8_take_104 : decode cX8_take 104 = .ok (.iconst 2, 1) := by decide +kernel
theorem dX8_take_105 : decode cX8_take 105 = .ok (.iadd, 1) := by decide +kernel
theorem dX8_take_106 : decode cX8_take 106 = .ok (.dup2, 1) := by decide +kernel
theorem dX8_take_107 : decode cX8_take 107 = .ok (.iaload, 1) := by decide +kernel
theorem dX8_take_108 : decode cX8_take 108 = .ok (.iconst 1, 1) := by decide +kernel
theorem dX8_take_109 : decode cX8_take 109 = .ok (.iadd, 1) := by decide +kernel
theorem dX8_take_110 : decode cX8_take 110 = .ok (.iastore, 1) := by decide +kernel
theorem dX8_take_111 : decode cX8_take 111 = .ok (.aload_n 1, 1) := by decide +kernel
theorem dX8_take_112 : decode cX8_take 112 = .ok (.iload_n 3, 1) := by decide +kernel
theorem dX8_take_113 : decode cX8_take 113 = .ok (.iload_n 3, 1) := by decide +kernel
theorem dX8_take_114 : decode cX8_take 114 = .ok (.iload_n 2, 1) := by decide +kernel
theorem dX8_take_115 : decode cX8_take 115 = .ok (.if_icmp .ne 7, 3) := by decide +kernel
theorem dX8_take_118 : decode cX8_take 118 = .ok (.iconst 0, 1) := by decide +kernel
theorem dX8_take_119 : decode cX8_take 119 = .ok (.goto 13, 3) := by decide +kernel
theorem dX8_take_122 : decode cX8_take 122 = .ok (.aload_n 1, 1) := by decide +kernel
theorem dX8_take_123 : decode cX8_take 123 = .ok (.iload_n 3, 1) := by decide +kernel
theorem dX8_take_124 : decode cX8_take 124 = .ok (.invokestatic 41, 3) := by decide +kernel
theorem dX8_take_127 : decode cX8_take 127 = .ok (.iconst 4, 1) := by decide +kernel
theorem dX8_take_128 : decode cX8_take 128 = .ok (.iadd, 1) := by decide +kernel
theorem dX8_take_129 : decode cX8_take 129 = .ok (.iaload, 1) := by decide +kernel
theorem dX8_take_130 : decode cX8_take 130 = .ok (.iconst 1, 1) := by decide +kernel
theorem dX8_take_131 : decode cX8_take 131 = .ok (.isub, 1) := by decide +kernel
theorem dX8_take_132 : decode cX8_take 132 = .ok (.invokestatic 210, 3) := by decide +kernel
theorem dX8_take_135 : decode cX8_take 135 = .ok (.istore 5, 2) := by decide +kernel
theorem dX8_take_137 : decode cX8_take 137 = .ok (.aload_n 1, 1) := by decide +kernel
theorem dX8_take_138 : decode cX8_take 138 = .ok (.iload_n 2, 1) := by decide +kernel
theorem dX8_take_139 : decode cX8_take 139 = .ok (.invokestatic 41, 3) := by decide +kernel
theorem dX8_take_142 : decode cX8_take 142 = .ok (.iconst 0, 1) := by decide +kernel
theorem dX8_take_143 : decode cX8_take 143 = .ok (.iadd, 1) := by decide +kernel
theorem dX8_take_144 : decode cX8_take 144 = .ok (.iload 5, 2) := by decide +kernel
theorem dX8_take_146 : decode cX8_take 146 = .ok (.iastore, 1) := by decide +kernel
theorem dX8_take_147 : decode cX8_take 147 = .ok (.aload_n 1, 1) := by decide +kernel
theorem dX8_take_148 : decode cX8_take 148 = .ok (.iload 5, 2) := by decide +kernel
theorem dX8_take_150 : decode cX8_take 150 = .ok (.invokestatic 136, 3) := by decide +kernel
theorem dX8_take_153 : decode cX8_take 153 = .ok (.iconst 4, 1) := by decide +kernel
theorem dX8_take_154 : decode cX8_take 154 = .ok (.iadd, 1) := by decide +kernel
theorem dX8_take_155 : decode cX8_take 155 = .ok (.iconst 3, 1) := by decide +kernel
theorem dX8_take_156 : decode cX8_take 156 = .ok (.iastore, 1) := by decide +kernel
theorem dX8_take_157 : decode cX8_take 157 = .ok (.aload_n 1, 1) := by decide +kernel
theorem dX8_take_158 : decode cX8_take 158 = .ok (.iload 5, 2) := by decide +kernel
theorem dX8_take_160 : decode cX8_take 160 = .ok (.invokestatic 136, 3) := by decide +kernel
theorem dX8_take_163 : decode cX8_take 163 = .ok (.bipush 6, 2) := by decide +kernel
theorem dX8_take_165 : decode cX8_take 165 = .ok (.iadd, 1) := by decide +kernel
theorem dX8_take_166 : decode cX8_take 166 = .ok (.iload_n 2, 1) := by decide +kernel
theorem dX8_take_167 : decode cX8_take 167 = .ok (.iastore, 1) := by decide +kernel
theorem dX8_take_168 : decode cX8_take 168 = .ok (.aload_n 1, 1) := by decide +kernel
theorem dX8_take_169 : decode cX8_take 169 = .ok (.iload 5, 2) := by decide +kernel
theorem dX8_take_171 : decode cX8_take 171 = .ok (.invokestatic 136, 3) := by decide +kernel
theorem dX8_take_174 : decode cX8_take 174 = .ok (.iconst 5, 1) := by decide +kernel
theorem dX8_take_175 : decode cX8_take 175 = .ok (.iadd, 1) := by decide +kernel
theorem dX8_take_176 : decode cX8_take 176 = .ok (.aload_n 0, 1) := by decide +kernel
theorem dX8_take_177 : decode cX8_take 177 = .ok (.aload_n 1, 1) := by decide +kernel
theorem dX8_take_178 : decode cX8_take 178 = .ok (.iload 5, 2) := by decide +kernel
theorem dX8_take_180 : decode cX8_take 180 = .ok (.iload_n 2, 1) := by decide +kernel
theorem dX8_take_181 : decode cX8_take 181 = .ok (.invokevirtual 214, 3) := by decide +kernel
theorem dX8_take_184 : decode cX8_take 184 = .ok (.iload 4, 2) := by decide +kernel
theorem dX8_take_186 : decode cX8_take 186 = .ok (.iadd, 1) := by decide +kernel
theorem dX8_take_187 : decode cX8_take 187 = .ok (.iastore, 1) := by decide +kernel
theorem dX8_take_188 : decode cX8_take 188 = .ok (.return_, 1) := by decide +kernel
theorem dX8_cycle_0 : decode cX8_cycle 0 = .ok (.aload_n 1, 1) := by decide +kernel
theorem dX8_cycle_1 : decode cX8_cycle 1 = .ok (.invokestatic 217, 3) := by decide +kernel
theorem dX8_cycle_4 : decode cX8_cycle 4 = .ok (.istore_n 2, 1) := by decide +kernel
theorem dX8_cycle_5 : decode cX8_cycle 5 = .ok (.aload_n 1, 1) := by decide +kernel
theorem dX8_cycle_6 : decode cX8_cycle 6 = .ok (.invokestatic 221, 3) := by decide +kernel
theorem dX8_cycle_9 : decode cX8_cycle 9 = .ok (.iconst 0, 1) := by decide +kernel
theorem dX8_cycle_10 : decode cX8_cycle 10 = .ok (.istore_n 3, 1) := by decide +kernel
theorem dX8_cycle_11 : decode cX8_cycle 11 = .ok (.iload_n 3, 1) := by decide +kernel
theorem dX8_cycle_12 : decode cX8_cycle 12 = .ok (.aload_n 1, 1) := by decide +kernel
theorem dX8_cycle_13 : decode cX8_cycle 13 = .ok (.iconst 0, 1) := by decide +kernel
theorem dX8_cycle_14 : decode cX8_cycle 14 = .ok (.iaload, 1) := by decide +kernel
theorem dX8_cycle_15 : decode cX8_cycle 15 = .ok (.if_icmp .ge 38, 3) := by decide +kernel
theorem dX8_cycle_18 : decode cX8_cycle 18 = .ok (.aload_n 1, 1) := by decide +kernel
theorem dX8_cycle_19 : decode cX8_cycle 19 = .ok (.iload_n 3, 1) := by decide +kernel
theorem dX8_cycle_20 : decode cX8_cycle 20 = .ok (.invokestatic 41, 3) := by decide +kernel
theorem dX8_cycle_23 : decode cX8_cycle 23 = .ok (.iconst 3, 1) := by decide +kernel
theorem dX8_cycle_24 : decode cX8_cycle 24 = .ok (.iadd, 1) := by decide +kernel
theorem dX8_cycle_25 : decode cX8_cycle 25 = .ok (.iaload, 1) := by decide +kernel
theorem dX8_cycle_26 : decode cX8_cycle 26 = .ok (.ifCond .ne 21, 3) := by decide +kernel
theorem dX8_cycle_29 : decode cX8_cycle 29 = .ok (.aload_n 1, 1) := by decide +kernel
theorem dX8_cycle_30 : decode cX8_cycle 30 = .ok (.iload_n 3, 1) := by decide +kernel
theorem dX8_cycle_31 : decode cX8_cycle 31 = .ok (.invokestatic 41, 3) := by decide +kernel
theorem dX8_cycle_34 : decode cX8_cycle 34 = .ok (.iconst 0, 1) := by decide +kernel
theorem dX8_cycle_35 : decode cX8_cycle 35 = .ok (.iadd, 1) := by decide +kernel
theorem dX8_cycle_36 : decode cX8_cycle 36 = .ok (.iaload, 1) := by decide +kernel
theorem dX8_cycle_37 : decode cX8_cycle 37 = .ok (.iconst (-1), 1) := by decide +kernel
theorem dX8_cycle_38 : decode cX8_cycle 38 = .ok (.if_icmp .ne 9, 3) := by decide +kernel
theorem dX8_cycle_41 : decode cX8_cycle 41 = .ok (.aload_n 0, 1) := by decide +kernel
theorem dX8_cycle_42 : decode cX8_cycle 42 = .ok (.aload_n 1, 1) := by decide +kernel
theorem dX8_cycle_43 : decode cX8_cycle 43 = .ok (.iload_n 3, 1) := by decide +kernel
theorem dX8_cycle_44 : decode cX8_cycle 44 = .ok (.invokevirtual 224, 3) := by decide +kernel
theorem dX8_cycle_47 : decode cX8_cycle 47 = .ok (.iinc 3 1, 3) := by decide +kernel
theorem dX8_cycle_50 : decode cX8_cycle 50 = .ok (.goto (-39), 3) := by decide +kernel
theorem dX8_cycle_53 : decode cX8_cycle 53 = .ok (.iconst 0, 1) := by decide +kernel
theorem dX8_cycle_54 : decode cX8_cycle 54 = .ok (.istore_n 3, 1) := by decide +kernel
theorem dX8_cycle_55 : decode cX8_cycle 55 = .ok (.iload_n 3, 1) := by decide +kernel
theorem dX8_cycle_56 : decode cX8_cycle 56 = .ok (.aload_n 1, 1) := by decide +kernel
theorem dX8_cycle_57 : decode cX8_cycle 57 = .ok (.iconst 0, 1) := by decide +kernel
theorem dX8_cycle_58 : decode cX8_cycle 58 = .ok (.iaload, 1) := by decide +kernel
theorem dX8_cycle_59 : decode cX8_cycle 59 = .ok (.if_icmp .ge 37, 3) := by decide +kernel
theorem dX8_cycle_62 : decode cX8_cycle 62 = .ok (.aload_n 1, 1) := by decide +kernel
theorem dX8_cycle_63 : decode cX8_cycle 63 = .ok (.iload_n 3, 1) := by decide +kernel
theorem dX8_cycle_64 : decode cX8_cycle 64 = .ok (.invokestatic 41, 3) := by decide +kernel
theorem dX8_cycle_67 : decode cX8_cycle 67 = .ok (.iconst 1, 1) := by decide +kernel
theorem dX8_cycle_68 : decode cX8_cycle 68 = .ok (.iadd, 1) := by decide +kernel
theorem dX8_cycle_69 : decode cX8_cycle 69 = .ok (.dup2, 1) := by decide +kernel
theorem dX8_cycle_70 : decode cX8_cycle 70 = .ok (.iaload, 1) := by decide +kernel
theorem dX8_cycle_71 : decode cX8_cycle 71 = .ok (.aload_n 1, 1) := by decide +kernel
theorem dX8_cycle_72 : decode cX8_cycle 72 = .ok (.iload_n 3, 1) := by decide +kernel
theorem dX8_cycle_73 : decode cX8_cycle 73 = .ok (.invokestatic 41, 3) := by decide +kernel
theorem dX8_cycle_76 : decode cX8_cycle 76 = .ok (.iconst 0, 1) := by decide +kernel
theorem dX8_cycle_77 : decode cX8_cycle 77 = .ok (.iadd, 1) := by decide +kernel
theorem dX8_cycle_78 : decode cX8_cycle 78 = .ok (.iaload, 1) := by decide +kernel
theorem dX8_cycle_79 : decode cX8_cycle 79 = .ok (.iconst (-1), 1) := by decide +kernel
theorem dX8_cycle_80 : decode cX8_cycle 80 = .ok (.if_icmp .ne 7, 3) := by decide +kernel
theorem dX8_cycle_83 : decode cX8_cycle 83 = .ok (.iconst 0, 1) := by decide +kernel
theorem dX8_cycle_84 : decode cX8_cycle 84 = .ok (.goto 4, 3) := by decide +kernel
theorem dX8_cycle_87 : decode cX8_cycle 87 = .ok (.iconst 1, 1) := by decide +kernel
theorem dX8_cycle_88 : decode cX8_cycle 88 = .ok (.iadd, 1) := by decide +kernel
theorem dX8_cycle_89 : decode cX8_cycle 89 = .ok (.iastore, 1) := by decide +kernel
theorem dX8_cycle_90 : decode cX8_cycle 90 = .ok (.iinc 3 1, 3) := by decide +kernel
theorem dX8_cycle_93 : decode cX8_cycle 93 = .ok (.goto (-38), 3) := by decide +kernel
theorem dX8_cycle_96 : decode cX8_cycle 96 = .ok (.aload_n 1, 1) := by decide +kernel
theorem dX8_cycle_97 : decode cX8_cycle 97 = .ok (.iconst 5, 1) := by decide +kernel
theorem dX8_cycle_98 : decode cX8_cycle 98 = .ok (.dup2, 1) := by decide +kernel
theorem dX8_cycle_99 : decode cX8_cycle 99 = .ok (.iaload, 1) := by decide +kernel
theorem dX8_cycle_100 : decode cX8_cycle 100 = .ok (.iconst 1, 1) := by decide +kernel
theorem dX8_cycle_101 : decode cX8_cycle 101 = .ok (.iadd, 1) := by decide +kernel
theorem dX8_cycle_102 : decode cX8_cycle 102 = .ok (.iastore, 1) := by decide +kernel
theorem dX8_cycle_103 : decode cX8_cycle 103 = .ok (.iload_n 2, 1) := by decide +kernel
theorem dX8_cycle_104 : decode cX8_cycle 104 = .ok (.ireturn, 1) := by decide +kernel
theorem dX8_noTask_0 : decode cX8_noTask 0 = .ok (.aload_n 0, 1) := by decide +kernel
theorem dX8_noTask_1 : decode cX8_noTask 1 = .ok (.iload_n 1, 1) := by decide +kernel
theorem dX8_noTask_2 : decode cX8_noTask 2 = .ok (.iconst 0, 1) := by decide +kernel
theorem dX8_noTask_3 : decode cX8_noTask 3 = .ok (.aload_n 0, 1) := by decide +kernel
theorem dX8_noTask_4 : decode cX8_noTask 4 = .ok (.getfield 17, 3) := by decide +kernel
theorem dX8_noTask_7 : decode cX8_noTask 7 = .ok (.iconst 3, 1) := by decide +kernel
theorem dX8_noTask_8 : decode cX8_noTask 8 = .ok (.iaload, 1) := by decide +kernel
theorem dX8_noTask_9 : decode cX8_noTask 9 = .ok (.iconst 1, 1) := by decide +kernel
theorem dX8_noTask_10 : decode cX8_noTask 10 = .ok (.isub, 1) := by decide +kernel
theorem dX8_noTask_11 : decode cX8_noTask 11 = .ok (.invokestatic 63, 3) := by decide +kernel
theorem dX8_noTask_14 : decode cX8_noTask 14 = .ok (.ifCond .ne 7, 3) := by decide +kernel
theorem dX8_noTask_17 : decode cX8_noTask 17 = .ok (.iconst 1, 1) := by decide +kernel
theorem dX8_noTask_18 : decode cX8_noTask 18 = .ok (.goto 4, 3) := by decide +kernel
theorem dX8_noTask_21 : decode cX8_noTask 21 = .ok (.iconst 0, 1) := by decide +kernel
theorem dX8_noTask_22 : decode cX8_noTask 22 = .ok (.iconst 1, 1) := by decide +kernel
theorem dX8_noTask_23 : decode cX8_noTask 23 = .ok (.invokevirtual 162, 3) := by decide +kernel
theorem dX8_noTask_26 : decode cX8_noTask 26 = .ok (.ireturn, 1) := by decide +kernel
theorem dX8_noCore_0 : decode cX8_noCore 0 = .ok (.aload_n 0, 1) := by decide +kernel
theorem dX8_noCore_1 : decode cX8_noCore 1 = .ok (.iload_n 1, 1) := by decide +kernel
theorem dX8_noCore_2 : decode cX8_noCore 2 = .ok (.iconst 0, 1) := by decide +kernel
theorem dX8_noCore_3 : decode cX8_noCore 3 = .ok (.aload_n 0, 1) := by decide +kernel
theorem dX8_noCore_4 : decode cX8_noCore 4 = .ok (.getfield 17, 3) := by decide +kernel
theorem dX8_noCore_7 : decode cX8_noCore 7 = .ok (.iconst 0, 1) := by decide +kernel
theorem dX8_noCore_8 : decode cX8_noCore 8 = .ok (.iaload, 1) := by decide +kernel
theorem dX8_noCore_9 : decode cX8_noCore 9 = .ok (.iconst 1, 1) := by decide +kernel
theorem dX8_noCore_10 : decode cX8_noCore 10 = .ok (.isub, 1) := by decide +kernel
theorem dX8_noCore_11 : decode cX8_noCore 11 = .ok (.invokestatic 63, 3) := by decide +kernel
theorem dX8_noCore_14 : decode cX8_noCore 14 = .ok (.ifCond .ne 7, 3) := by decide +kernel
theorem dX8_noCore_17 : decode cX8_noCore 17 = .ok (.iconst 1, 1) := by decide +kernel
theorem dX8_noCore_18 : decode cX8_noCore 18 = .ok (.goto 4, 3) := by decide +kernel
theorem dX8_noCore_21 : decode cX8_noCore 21 = .ok (.iconst 0, 1) := by decide +kernel
theorem dX8_noCore_22 : decode cX8_noCore 22 = .ok (.iconst 1, 1) := by decide +kernel
theorem dX8_noCore_23 : decode cX8_noCore 23 = .ok (.invokevirtual 162, 3) := by decide +kernel
theorem dX8_noCore_26 : decode cX8_noCore 26 = .ok (.ireturn, 1) := by decide +kernel
theorem dX8_coreCount_0 : decode cX8_coreCount 0 = .ok (.aload_n 0, 1) := by decide +kernel
theorem dX8_coreCount_1 : decode cX8_coreCount 1 = .ok (.iconst 0, 1) := by decide +kernel
theorem dX8_coreCount_2 : decode cX8_coreCount 2 = .ok (.putfield 38, 3) := by decide +kernel
theorem dX8_coreCount_5 : decode cX8_coreCount 5 = .ok (.aload_n 0, 1) := by decide +kernel
theorem dX8_coreCount_6 : decode cX8_coreCount 6 = .ok (.getfield 17, 3) := by decide +kernel
theorem dX8_coreCount_9 : decode cX8_coreCount 9 = .ok (.iconst 0, 1) := by decide +kernel
theorem dX8_coreCount_10 : decode cX8_coreCount 10 = .ok (.iaload, 1) := by decide +kernel
theorem dX8_coreCount_11 : decode cX8_coreCount 11 = .ok (.ireturn, 1) := by decide +kernel
theorem dX8_taskCount_0 : decode cX8_taskCount 0 = .ok (.aload_n 0, 1) := by decide +kernel
theorem dX8_taskCount_1 : decode cX8_taskCount 1 = .ok (.iconst 0, 1) := by decide +kernel
theorem dX8_taskCount_2 : decode cX8_taskCount 2 = .ok (.putfield 38, 3) := by decide +kernel
theorem dX8_taskCount_5 : decode cX8_taskCount 5 = .ok (.aload_n 0, 1) := by decide +kernel
theorem dX8_taskCount_6 : decode cX8_taskCount 6 = .ok (.getfield 17, 3) := by decide +kernel
theorem dX8_taskCount_9 : decode cX8_taskCount 9 = .ok (.iconst 3, 1) := by decide +kernel
theorem dX8_taskCount_10 : decode cX8_taskCount 10 = .ok (.iaload, 1) := by decide +kernel
theorem dX8_taskCount_11 : decode cX8_taskCount 11 = .ok (.ireturn, 1) := by decide +kernel
theorem dX8_fenceCount_0 : decode cX8_fenceCount 0 = .ok (.aload_n 0, 1) := by decide +kernel
theorem dX8_fenceCount_1 : decode cX8_fenceCount 1 = .ok (.iconst 0, 1) := by decide +kernel
theorem dX8_fenceCount_2 : decode cX8_fenceCount 2 = .ok (.putfield 38, 3) := by decide +kernel
theorem dX8_fenceCount_5 : decode cX8_fenceCount 5 = .ok (.aload_n 0, 1) := by decide +kernel
theorem dX8_fenceCount_6 : decode cX8_fenceCount 6 = .ok (.getfield 17, 3) := by decide +kernel
theorem dX8_fenceCount_9 : decode cX8_fenceCount 9 = .ok (.iconst 4, 1) := by decide +kernel
theorem dX8_fenceCount_10 : decode cX8_fenceCount 10 = .ok (.iaload, 1) := by decide +kernel
theorem dX8_fenceCount_11 : decode cX8_fenceCount 11 = .ok (.ireturn, 1) := by decide +kernel
theorem dX8_clock_0 : decode cX8_clock 0 = .ok (.aload_n 0, 1) := by decide +kernel
theorem dX8_clock_1 : decode cX8_clock 1 = .ok (.iconst 0, 1) := by decide +kernel
theorem dX8_clock_2 : decode cX8_clock 2 = .ok (.putfield 38, 3) := by decide +kernel
theorem dX8_clock_5 : decode cX8_clock 5 = .ok (.aload_n 0, 1) := by decide +kernel
theorem dX8_clock_6 : decode cX8_clock 6 = .ok (.getfield 17, 3) := by decide +kernel
theorem dX8_clock_9 : decode cX8_clock 9 = .ok (.iconst 5, 1) := by decide +kernel
theorem dX8_clock_10 : decode cX8_clock 10 = .ok (.iaload, 1) := by decide +kernel
theorem dX8_clock_11 : decode cX8_clock 11 = .ok (.ireturn, 1) := by decide +kernel
theorem dX8_state_0 : decode cX8_state 0 = .ok (.aload_n 0, 1) := by decide +kernel
theorem dX8_state_1 : decode cX8_state 1 = .ok (.iconst 0, 1) := by decide +kernel
theorem dX8_state_2 : decode cX8_state 2 = .ok (.putfield 38, 3) := by decide +kernel
theorem dX8_state_5 : decode cX8_state 5 = .ok (.aload_n 0, 1) := by decide +kernel
theorem dX8_state_6 : decode cX8_state 6 = .ok (.iload_n 1, 1) := by decide +kernel
theorem dX8_state_7 : decode cX8_state 7 = .ok (.invokevirtual 227, 3) := by decide +kernel
theorem dX8_state_10 : decode cX8_state 10 = .ok (.ifCond .eq 7, 3) := by decide +kernel
theorem dX8_state_13 : decode cX8_state 13 = .ok (.iconst 0, 1) := by decide +kernel
theorem dX8_state_14 : decode cX8_state 14 = .ok (.goto 14, 3) := by decide +kernel
theorem dX8_state_17 : decode cX8_state 17 = .ok (.aload_n 0, 1) := by decide +kernel
theorem dX8_state_18 : decode cX8_state 18 = .ok (.getfield 17, 3) := by decide +kernel
theorem dX8_state_21 : decode cX8_state 21 = .ok (.iload_n 1, 1) := by decide +kernel
theorem dX8_state_22 : decode cX8_state 22 = .ok (.invokestatic 136, 3) := by decide +kernel
theorem dX8_state_25 : decode cX8_state 25 = .ok (.iconst 4, 1) := by decide +kernel
theorem dX8_state_26 : decode cX8_state 26 = .ok (.iadd, 1) := by decide +kernel
theorem dX8_state_27 : decode cX8_state 27 = .ok (.iaload, 1) := by decide +kernel
theorem dX8_state_28 : decode cX8_state 28 = .ok (.ireturn, 1) := by decide +kernel
theorem dX8_counter_0 : decode cX8_counter 0 = .ok (.aload_n 0, 1) := by decide +kernel
theorem dX8_counter_1 : decode cX8_counter 1 = .ok (.iconst 0, 1) := by decide +kernel
theorem dX8_counter_2 : decode cX8_counter 2 = .ok (.putfield 38, 3) := by decide +kernel
theorem dX8_counter_5 : decode cX8_counter 5 = .ok (.aload_n 0, 1) := by decide +kernel
theorem dX8_counter_6 : decode cX8_counter 6 = .ok (.iload_n 1, 1) := by decide +kernel
theorem dX8_counter_7 : decode cX8_counter 7 = .ok (.invokevirtual 227, 3) := by decide +kernel
theorem dX8_counter_10 : decode cX8_counter 10 = .ok (.ifCond .eq 7, 3) := by decide +kernel
theorem dX8_counter_13 : decode cX8_counter 13 = .ok (.iconst 0, 1) := by decide +kernel
theorem dX8_counter_14 : decode cX8_counter 14 = .ok (.goto 11, 3) := by decide +kernel
theorem dX8_counter_17 : decode cX8_counter 17 = .ok (.aload_n 0, 1) := by decide +kernel
theorem dX8_counter_18 : decode cX8_counter 18 = .ok (.getfield 17, 3) := by decide +kernel
theorem dX8_counter_21 : decode cX8_counter 21 = .ok (.iload_n 1, 1) := by decide +kernel
theorem dX8_counter_22 : decode cX8_counter 22 = .ok (.invokestatic 203, 3) := by decide +kernel
theorem dX8_counter_25 : decode cX8_counter 25 = .ok (.ireturn, 1) := by decide +kernel
theorem dX8_priority_0 : decode cX8_priority 0 = .ok (.aload_n 0, 1) := by decide +kernel
theorem dX8_priority_1 : decode cX8_priority 1 = .ok (.iconst 0, 1) := by decide +kernel
theorem dX8_priority_2 : decode cX8_priority 2 = .ok (.putfield 38, 3) := by decide +kernel
theorem dX8_priority_5 : decode cX8_priority 5 = .ok (.aload_n 0, 1) := by decide +kernel
theorem dX8_priority_6 : decode cX8_priority 6 = .ok (.iload_n 1, 1) := by decide +kernel
theorem dX8_priority_7 : decode cX8_priority 7 = .ok (.invokevirtual 227, 3) := by decide +kernel
theorem dX8_priority_10 : decode cX8_priority 10 = .ok (.ifCond .eq 7, 3) := by decide +kernel
theorem dX8_priority_13 : decode cX8_priority 13 = .ok (.iconst 0, 1) := by decide +kernel
theorem dX8_priority_14 : decode cX8_priority 14 = .ok (.goto 14, 3) := by decide +kernel
theorem dX8_priority_17 : decode cX8_priority 17 = .ok (.aload_n 0, 1) := by decide +kernel
theorem dX8_priority_18 : decode cX8_priority 18 = .ok (.getfield 17, 3) := by decide +kernel
theorem dX8_priority_21 : decode cX8_priority 21 = .ok (.iload_n 1, 1) := by decide +kernel
theorem dX8_priority_22 : decode cX8_priority 22 = .ok (.invokestatic 136, 3) := by decide +kernel
theorem dX8_priority_25 : decode cX8_priority 25 = .ok (.iconst 1, 1) := by decide +kernel
theorem dX8_priority_26 : decode cX8_priority 26 = .ok (.iadd, 1) := by decide +kernel
theorem dX8_priority_27 : decode cX8_priority 27 = .ok (.iaload, 1) := by decide +kernel
theorem dX8_priority_28 : decode cX8_priority 28 = .ok (.ireturn, 1) := by decide +kernel
theorem dX8_coreOf_0 : decode cX8_coreOf 0 = .ok (.aload_n 0, 1) := by decide +kernel
theorem dX8_coreOf_1 : decode cX8_coreOf 1 = .ok (.iconst 0, 1) := by decide +kernel
theorem dX8_coreOf_2 : decode cX8_coreOf 2 = .ok (.putfield 38, 3) := by decide +kernel
theorem dX8_coreOf_5 : decode cX8_coreOf 5 = .ok (.aload_n 0, 1) := by decide +kernel
theorem dX8_coreOf_6 : decode cX8_coreOf 6 = .ok (.iload_n 1, 1) := by decide +kernel
theorem dX8_coreOf_7 : decode cX8_coreOf 7 = .ok (.invokevirtual 227, 3) := by decide +kernel
theorem dX8_coreOf_10 : decode cX8_coreOf 10 = .ok (.ifCond .eq 7, 3) := by decide +kernel
theorem dX8_coreOf_13 : decode cX8_coreOf 13 = .ok (.iconst 0, 1) := by decide +kernel
theorem dX8_coreOf_14 : decode cX8_coreOf 14 = .ok (.goto 15, 3) := by decide +kernel
theorem dX8_coreOf_17 : decode cX8_coreOf 17 = .ok (.aload_n 0, 1) := by decide +kernel
theorem dX8_coreOf_18 : decode cX8_coreOf 18 = .ok (.getfield 17, 3) := by decide +kernel
theorem dX8_coreOf_21 : decode cX8_coreOf 21 = .ok (.iload_n 1, 1) := by decide +kernel
theorem dX8_coreOf_22 : decode cX8_coreOf 22 = .ok (.invokestatic 136, 3) := by decide +kernel
theorem dX8_coreOf_25 : decode cX8_coreOf 25 = .ok (.bipush 6, 2) := by decide +kernel
theorem dX8_coreOf_27 : decode cX8_coreOf 27 = .ok (.iadd, 1) := by decide +kernel
theorem dX8_coreOf_28 : decode cX8_coreOf 28 = .ok (.iaload, 1) := by decide +kernel
theorem dX8_coreOf_29 : decode cX8_coreOf 29 = .ok (.ireturn, 1) := by decide +kernel
theorem dX8_doneAt_0 : decode cX8_doneAt 0 = .ok (.aload_n 0, 1) := by decide +kernel
theorem dX8_doneAt_1 : decode cX8_doneAt 1 = .ok (.iconst 0, 1) := by decide +kernel
theorem dX8_doneAt_2 : decode cX8_doneAt 2 = .ok (.putfield 38, 3) := by decide +kernel
theorem dX8_doneAt_5 : decode cX8_doneAt 5 = .ok (.aload_n 0, 1) := by decide +kernel
theorem dX8_doneAt_6 : decode cX8_doneAt 6 = .ok (.iload_n 1, 1) := by decide +kernel
theorem dX8_doneAt_7 : decode cX8_doneAt 7 = .ok (.invokevirtual 227, 3) := by decide +kernel
theorem dX8_doneAt_10 : decode cX8_doneAt 10 = .ok (.ifCond .eq 7, 3) := by decide +kernel
theorem dX8_doneAt_13 : decode cX8_doneAt 13 = .ok (.iconst 0, 1) := by decide +kernel
theorem dX8_doneAt_14 : decode cX8_doneAt 14 = .ok (.goto 15, 3) := by decide +kernel
theorem dX8_doneAt_17 : decode cX8_doneAt 17 = .ok (.aload_n 0, 1) := by decide +kernel
theorem dX8_doneAt_18 : decode cX8_doneAt 18 = .ok (.getfield 17, 3) := by decide +kernel
theorem dX8_doneAt_21 : decode cX8_doneAt 21 = .ok (.iload_n 1, 1) := by decide +kernel
theorem dX8_doneAt_22 : decode cX8_doneAt 22 = .ok (.invokestatic 136, 3) := by decide +kernel
theorem dX8_doneAt_25 : decode cX8_doneAt 25 = .ok (.bipush 7, 2) := by decide +kernel
theorem dX8_doneAt_27 : decode cX8_doneAt 27 = .ok (.iadd, 1) := by decide +kernel
theorem dX8_doneAt_28 : decode cX8_doneAt 28 = .ok (.iaload, 1) := by decide +kernel
theorem dX8_doneAt_29 : decode cX8_doneAt 29 = .ok (.ireturn, 1) := by decide +kernel
theorem dX8_isOpen_0 : decode cX8_isOpen 0 = .ok (.aload_n 0, 1) := by decide +kernel
theorem dX8_isOpen_1 : decode cX8_isOpen 1 = .ok (.iconst 0, 1) := by decide +kernel
theorem dX8_isOpen_2 : decode cX8_isOpen 2 = .ok (.putfield 38, 3) := by decide +kernel
theorem dX8_isOpen_5 : decode cX8_isOpen 5 = .ok (.aload_n 0, 1) := by decide +kernel
theorem dX8_isOpen_6 : decode cX8_isOpen 6 = .ok (.iload_n 1, 1) := by decide +kernel
theorem dX8_isOpen_7 : decode cX8_isOpen 7 = .ok (.iconst 0, 1) := by decide +kernel
theorem dX8_isOpen_8 : decode cX8_isOpen 8 = .ok (.aload_n 0, 1) := by decide +kernel
theorem dX8_isOpen_9 : decode cX8_isOpen 9 = .ok (.getfield 17, 3) := by decide +kernel
theorem dX8_isOpen_12 : decode cX8_isOpen 12 = .ok (.iconst 4, 1) := by decide +kernel
theorem dX8_isOpen_13 : decode cX8_isOpen 13 = .ok (.iaload, 1) := by decide +kernel
theorem dX8_isOpen_14 : decode cX8_isOpen 14 = .ok (.iconst 1, 1) := by decide +kernel
theorem dX8_isOpen_15 : decode cX8_isOpen 15 = .ok (.isub, 1) := by decide +kernel
theorem dX8_isOpen_16 : decode cX8_isOpen 16 = .ok (.invokestatic 63, 3) := by decide +kernel
theorem dX8_isOpen_19 : decode cX8_isOpen 19 = .ok (.ifCond .ne 7, 3) := by decide +kernel
theorem dX8_isOpen_22 : decode cX8_isOpen 22 = .ok (.iconst 1, 1) := by decide +kernel
theorem dX8_isOpen_23 : decode cX8_isOpen 23 = .ok (.goto 4, 3) := by decide +kernel
theorem dX8_isOpen_26 : decode cX8_isOpen 26 = .ok (.iconst 0, 1) := by decide +kernel
theorem dX8_isOpen_27 : decode cX8_isOpen 27 = .ok (.iconst 1, 1) := by decide +kernel
theorem dX8_isOpen_28 : decode cX8_isOpen 28 = .ok (.invokevirtual 162, 3) := by decide +kernel
theorem dX8_isOpen_31 : decode cX8_isOpen 31 = .ok (.ifCond .ne 18, 3) := by decide +kernel
theorem dX8_isOpen_34 : decode cX8_isOpen 34 = .ok (.aload_n 0, 1) := by decide +kernel
theorem dX8_isOpen_35 : decode cX8_isOpen 35 = .ok (.getfield 17, 3) := by decide +kernel
theorem dX8_isOpen_38 : decode cX8_isOpen 38 = .ok (.iload_n 1, 1) := by decide +kernel
theorem dX8_isOpen_39 : decode cX8_isOpen 39 = .ok (.invokestatic 200, 3) := by decide +kernel
theorem dX8_isOpen_42 : decode cX8_isOpen 42 = .ok (.ifCond .eq 7, 3) := by decide +kernel
theorem dX8_isOpen_45 : decode cX8_isOpen 45 = .ok (.iconst 1, 1) := by decide +kernel
theorem dX8_isOpen_46 : decode cX8_isOpen 46 = .ok (.goto 4, 3) := by decide +kernel
theorem dX8_isOpen_49 : decode cX8_isOpen 49 = .ok (.iconst 0, 1) := by decide +kernel
theorem dX8_isOpen_50 : decode cX8_isOpen 50 = .ok (.ireturn, 1) := by decide +kernel
theorem dX8_queueLength_0 : decode cX8_queueLength 0 = .ok (.aload_n 0, 1) := by decide +kernel
theorem dX8_queueLength_1 : decode cX8_queueLength 1 = .ok (.iconst 0, 1) := by decide +kernel
theorem dX8_queueLength_2 : decode cX8_queueLength 2 = .ok (.putfield 38, 3) := by decide +kernel
theorem dX8_queueLength_5 : decode cX8_queueLength 5 = .ok (.aload_n 0, 1) := by decide +kernel
theorem dX8_queueLength_6 : decode cX8_queueLength 6 = .ok (.iload_n 1, 1) := by decide +kernel
theorem dX8_queueLength_7 : decode cX8_queueLength 7 = .ok (.invokevirtual 230, 3) := by decide +kernel
theorem dX8_queueLength_10 : decode cX8_queueLength 10 = .ok (.ifCond .eq 7, 3) := by decide +kernel
theorem dX8_queueLength_13 : decode cX8_queueLength 13 = .ok (.iconst 0, 1) := by decide +kernel
theorem dX8_queueLength_14 : decode cX8_queueLength 14 = .ok (.goto 14, 3) := by decide +kernel
theorem dX8_queueLength_17 : decode cX8_queueLength 17 = .ok (.aload_n 0, 1) := by decide +kernel
theorem dX8_queueLength_18 : decode cX8_queueLength 18 = .ok (.getfield 17, 3) := by decide +kernel
theorem dX8_queueLength_21 : decode cX8_queueLength 21 = .ok (.iload_n 1, 1) := by decide +kernel
theorem dX8_queueLength_22 : decode cX8_queueLength 22 = .ok (.invokestatic 41, 3) := by decide +kernel
theorem dX8_queueLength_25 : decode cX8_queueLength 25 = .ok (.iconst 4, 1) := by decide +kernel
theorem dX8_queueLength_26 : decode cX8_queueLength 26 = .ok (.iadd, 1) := by decide +kernel
theorem dX8_queueLength_27 : decode cX8_queueLength 27 = .ok (.iaload, 1) := by decide +kernel
theorem dX8_queueLength_28 : decode cX8_queueLength 28 = .ok (.ireturn, 1) := by decide +kernel
theorem dX8_queued_0 : decode cX8_queued 0 = .ok (.aload_n 0, 1) := by decide +kernel
theorem dX8_queued_1 : decode cX8_queued 1 = .ok (.iconst 0, 1) := by decide +kernel
theorem dX8_queued_2 : decode cX8_queued 2 = .ok (.putfield 38, 3) := by decide +kernel
theorem dX8_queued_5 : decode cX8_queued 5 = .ok (.aload_n 0, 1) := by decide +kernel
theorem dX8_queued_6 : decode cX8_queued 6 = .ok (.iload_n 1, 1) := by decide +kernel
theorem dX8_queued_7 : decode cX8_queued 7 = .ok (.invokevirtual 230, 3) := by decide +kernel
theorem dX8_queued_10 : decode cX8_queued 10 = .ok (.ifCond .ne 37, 3) := by decide +kernel
theorem dX8_queued_13 : decode cX8_queued 13 = .ok (.aload_n 0, 1) := by decide +kernel
theorem dX8_queued_14 : decode cX8_queued 14 = .ok (.iload_n 2, 1) := by decide +kernel
theorem dX8_queued_15 : decode cX8_queued 15 = .ok (.iconst 0, 1) := by decide +kernel
theorem dX8_queued_16 : decode cX8_queued 16 = .ok (.aload_n 0, 1) := by decide +kernel
theorem dX8_queued_17 : decode cX8_queued 17 = .ok (.getfield 17, 3) := by decide +kernel
theorem dX8_queued_20 : decode cX8_queued 20 = .ok (.iload_n 1, 1) := by decide +kernel
theorem dX8_queued_21 : decode cX8_queued 21 = .ok (.invokestatic 41, 3) := by decide +kernel
theorem dX8_queued_24 : decode cX8_queued 24 = .ok (.iconst 4, 1) := by decide +kernel
theorem dX8_queued_25 : decode cX8_queued 25 = .ok (.iadd, 1) := by decide +kernel
theorem dX8_queued_26 : decode cX8_queued 26 = .ok (.iaload, 1) := by decide +kernel
theorem dX8_queued_27 : decode cX8_queued 27 = .ok (.iconst 1, 1) := by decide +kernel
theorem dX8_queued_28 : decode cX8_queued 28 = .ok (.isub, 1) := by decide +kernel
theorem dX8_queued_29 : decode cX8_queued 29 = .ok (.invokestatic 63, 3) := by decide +kernel
theorem dX8_queued_32 : decode cX8_queued 32 = .ok (.ifCond .ne 7, 3) := by decide +kernel
theorem dX8_queued_35 : decode cX8_queued 35 = .ok (.iconst 1, 1) := by decide +kernel
theorem dX8_queued_36 : decode cX8_queued 36 = .ok (.goto 4, 3) := by decide +kernel
theorem dX8_queued_39 : decode cX8_queued 39 = .ok (.iconst 0, 1) := by decide +kernel
theorem dX8_queued_40 : decode cX8_queued 40 = .ok (.iconst 1, 1) := by decide +kernel
theorem dX8_queued_41 : decode cX8_queued 41 = .ok (.invokevirtual 162, 3) := by decide +kernel
theorem dX8_queued_44 : decode cX8_queued 44 = .ok (.ifCond .eq 7, 3) := by decide +kernel
theorem dX8_queued_47 : decode cX8_queued 47 = .ok (.iconst 0, 1) := by decide +kernel
theorem dX8_queued_48 : decode cX8_queued 48 = .ok (.goto 16, 3) := by decide +kernel
theorem dX8_queued_51 : decode cX8_queued 51 = .ok (.aload_n 0, 1) := by decide +kernel
theorem dX8_queued_52 : decode cX8_queued 52 = .ok (.getfield 17, 3) := by decide +kernel
theorem dX8_queued_55 : decode cX8_queued 55 = .ok (.iload_n 1, 1) := by decide +kernel
theorem dX8_queued_56 : decode cX8_queued 56 = .ok (.invokestatic 41, 3) := by decide +kernel
theorem dX8_queued_59 : decode cX8_queued 59 = .ok (.iconst 5, 1) := by decide +kernel
theorem dX8_queued_60 : decode cX8_queued 60 = .ok (.iadd, 1) := by decide +kernel
theorem dX8_queued_61 : decode cX8_queued 61 = .ok (.iload_n 2, 1) := by decide +kernel
theorem dX8_queued_62 : decode cX8_queued 62 = .ok (.iadd, 1) := by decide +kernel
theorem dX8_queued_63 : decode cX8_queued 63 = .ok (.iaload, 1) := by decide +kernel
theorem dX8_queued_64 : decode cX8_queued 64 = .ok (.ireturn, 1) := by decide +kernel
theorem dX8_running_0 : decode cX8_running 0 = .ok (.aload_n 0, 1) := by decide +kernel
theorem dX8_running_1 : decode cX8_running 1 = .ok (.iconst 0, 1) := by decide +kernel
theorem dX8_running_2 : decode cX8_running 2 = .ok (.putfield 38, 3) := by decide +kernel
theorem dX8_running_5 : decode cX8_running 5 = .ok (.aload_n 0, 1) := by decide +kernel
theorem dX8_running_6 : decode cX8_running 6 = .ok (.iload_n 1, 1) := by decide +kernel
theorem dX8_running_7 : decode cX8_running 7 = .ok (.invokevirtual 230, 3) := by decide +kernel
theorem dX8_running_10 : decode cX8_running 10 = .ok (.ifCond .eq 7, 3) := by decide +kernel
theorem dX8_running_13 : decode cX8_running 13 = .ok (.iconst 0, 1) := by decide +kernel
theorem dX8_running_14 : decode cX8_running 14 = .ok (.goto 14, 3) := by decide +kernel
theorem dX8_running_17 : decode cX8_running 17 = .ok (.aload_n 0, 1) := by decide +kernel
theorem dX8_running_18 : decode cX8_running 18 = .ok (.getfield 17, 3) := by decide +kernel
theorem dX8_running_21 : decode cX8_running 21 = .ok (.iload_n 1, 1) := by decide +kernel
theorem dX8_running_22 : decode cX8_running 22 = .ok (.invokestatic 41, 3) := by decide +kernel
theorem dX8_running_25 : decode cX8_running 25 = .ok (.iconst 0, 1) := by decide +kernel
theorem dX8_running_26 : decode cX8_running 26 = .ok (.iadd, 1) := by decide +kernel
theorem dX8_running_27 : decode cX8_running 27 = .ok (.iaload, 1) := by decide +kernel
theorem dX8_running_28 : decode cX8_running 28 = .ok (.ireturn, 1) := by decide +kernel
theorem dX8_remainingOf_0 : decode cX8_remainingOf 0 = .ok (.aload_n 0, 1) := by decide +kernel
theorem dX8_remainingOf_1 : decode cX8_remainingOf 1 = .ok (.getfield 17, 3) := by decide +kernel
theorem dX8_remainingOf_4 : decode cX8_remainingOf 4 = .ok (.iload_n 1, 1) := by decide +kernel
theorem dX8_remainingOf_5 : decode cX8_remainingOf 5 = .ok (.invokestatic 41, 3) := by decide +kernel
theorem dX8_remainingOf_8 : decode cX8_remainingOf 8 = .ok (.iconst 0, 1) := by decide +kernel
theorem dX8_remainingOf_9 : decode cX8_remainingOf 9 = .ok (.iadd, 1) := by decide +kernel
theorem dX8_remainingOf_10 : decode cX8_remainingOf 10 = .ok (.iaload, 1) := by decide +kernel
theorem dX8_remainingOf_11 : decode cX8_remainingOf 11 = .ok (.iconst (-1), 1) := by decide +kernel
theorem dX8_remainingOf_12 : decode cX8_remainingOf 12 = .ok (.if_icmp .ne 7, 3) := by decide +kernel
theorem dX8_remainingOf_15 : decode cX8_remainingOf 15 = .ok (.iconst 0, 1) := by decide +kernel
theorem dX8_remainingOf_16 : decode cX8_remainingOf 16 = .ok (.goto 24, 3) := by decide +kernel
theorem dX8_remainingOf_19 : decode cX8_remainingOf 19 = .ok (.aload_n 0, 1) := by decide +kernel
theorem dX8_remainingOf_20 : decode cX8_remainingOf 20 = .ok (.getfield 17, 3) := by decide +kernel
theorem dX8_remainingOf_23 : decode cX8_remainingOf 23 = .ok (.aload_n 0, 1) := by decide +kernel
theorem dX8_remainingOf_24 : decode cX8_remainingOf 24 = .ok (.getfield 17, 3) := by decide +kernel
theorem dX8_remainingOf_27 : decode cX8_remainingOf 27 = .ok (.iload_n 1, 1) := by decide +kernel
theorem dX8_remainingOf_28 : decode cX8_remainingOf 28 = .ok (.invokestatic 41, 3) := by decide +kernel
theorem dX8_remainingOf_31 : decode cX8_remainingOf 31 = .ok (.iconst 0, 1) := by decide +kernel
theorem dX8_remainingOf_32 : decode cX8_remainingOf 32 = .ok (.iadd, 1) := by decide +kernel
theorem dX8_remainingOf_33 : decode cX8_remainingOf 33 = .ok (.iaload, 1) := by decide +kernel
theorem dX8_remainingOf_34 : decode cX8_remainingOf 34 = .ok (.invokestatic 136, 3) := by decide +kernel
theorem dX8_remainingOf_37 : decode cX8_remainingOf 37 = .ok (.iconst 5, 1) := by decide +kernel
theorem dX8_remainingOf_38 : decode cX8_remainingOf 38 = .ok (.iadd, 1) := by decide +kernel
theorem dX8_remainingOf_39 : decode cX8_remainingOf 39 = .ok (.iaload, 1) := by decide +kernel
theorem dX8_remainingOf_40 : decode cX8_remainingOf 40 = .ok (.ireturn, 1) := by decide +kernel
theorem dX8_remaining_0 : decode cX8_remaining 0 = .ok (.aload_n 0, 1) := by decide +kernel
theorem dX8_remaining_1 : decode cX8_remaining 1 = .ok (.iconst 0, 1) := by decide +kernel
theorem dX8_remaining_2 : decode cX8_remaining 2 = .ok (.putfield 38, 3) := by decide +kernel
theorem dX8_remaining_5 : decode cX8_remaining 5 = .ok (.aload_n 0, 1) := by decide +kernel
theorem dX8_remaining_6 : decode cX8_remaining 6 = .ok (.iload_n 1, 1) := by decide +kernel
theorem dX8_remaining_7 : decode cX8_remaining 7 = .ok (.invokevirtual 230, 3) := by decide +kernel
theorem dX8_remaining_10 : decode cX8_remaining 10 = .ok (.ifCond .eq 7, 3) := by decide +kernel
theorem dX8_remaining_13 : decode cX8_remaining 13 = .ok (.iconst 0, 1) := by decide +kernel
theorem dX8_remaining_14 : decode cX8_remaining 14 = .ok (.goto 8, 3) := by decide +kernel
theorem dX8_remaining_17 : decode cX8_remaining 17 = .ok (.aload_n 0, 1) := by decide +kernel
theorem dX8_remaining_18 : decode cX8_remaining 18 = .ok (.iload_n 1, 1) := by decide +kernel
theorem dX8_remaining_19 : decode cX8_remaining 19 = .ok (.invokevirtual 233, 3) := by decide +kernel
theorem dX8_remaining_22 : decode cX8_remaining 22 = .ok (.ireturn, 1) := by decide +kernel
theorem dX8_busy_0 : decode cX8_busy 0 = .ok (.aload_n 0, 1) := by decide +kernel
theorem dX8_busy_1 : decode cX8_busy 1 = .ok (.iconst 0, 1) := by decide +kernel
theorem dX8_busy_2 : decode cX8_busy 2 = .ok (.putfield 38, 3) := by decide +kernel
theorem dX8_busy_5 : decode cX8_busy 5 = .ok (.aload_n 0, 1) := by decide +kernel
theorem dX8_busy_6 : decode cX8_busy 6 = .ok (.iload_n 1, 1) := by decide +kernel
theorem dX8_busy_7 : decode cX8_busy 7 = .ok (.invokevirtual 230, 3) := by decide +kernel
theorem dX8_busy_10 : decode cX8_busy 10 = .ok (.ifCond .eq 7, 3) := by decide +kernel
theorem dX8_busy_13 : decode cX8_busy 13 = .ok (.iconst 0, 1) := by decide +kernel
theorem dX8_busy_14 : decode cX8_busy 14 = .ok (.goto 14, 3) := by decide +kernel
theorem dX8_busy_17 : decode cX8_busy 17 = .ok (.aload_n 0, 1) := by decide +kernel
theorem dX8_busy_18 : decode cX8_busy 18 = .ok (.getfield 17, 3) := by decide +kernel
theorem dX8_busy_21 : decode cX8_busy 21 = .ok (.iload_n 1, 1) := by decide +kernel
theorem dX8_busy_22 : decode cX8_busy 22 = .ok (.invokestatic 41, 3) := by decide +kernel
theorem dX8_busy_25 : decode cX8_busy 25 = .ok (.iconst 1, 1) := by decide +kernel
theorem dX8_busy_26 : decode cX8_busy 26 = .ok (.iadd, 1) := by decide +kernel
theorem dX8_busy_27 : decode cX8_busy 27 = .ok (.iaload, 1) := by decide +kernel
theorem dX8_busy_28 : decode cX8_busy 28 = .ok (.ireturn, 1) := by decide +kernel
theorem dX8_steals_0 : decode cX8_steals 0 = .ok (.aload_n 0, 1) := by decide +kernel
theorem dX8_steals_1 : decode cX8_steals 1 = .ok (.iconst 0, 1) := by decide +kernel
theorem dX8_steals_2 : decode cX8_steals 2 = .ok (.putfield 38, 3) := by decide +kernel
theorem dX8_steals_5 : decode cX8_steals 5 = .ok (.aload_n 0, 1) := by decide +kernel
theorem dX8_steals_6 : decode cX8_steals 6 = .ok (.iload_n 1, 1) := by decide +kernel
theorem dX8_steals_7 : decode cX8_steals 7 = .ok (.invokevirtual 230, 3) := by decide +kernel
theorem dX8_steals_10 : decode cX8_steals 10 = .ok (.ifCond .eq 7, 3) := by decide +kernel
theorem dX8_steals_13 : decode cX8_steals 13 = .ok (.iconst 0, 1) := by decide +kernel
theorem dX8_steals_14 : decode cX8_steals 14 = .ok (.goto 14, 3) := by decide +kernel
theorem dX8_steals_17 : decode cX8_steals 17 = .ok (.aload_n 0, 1) := by decide +kernel
theorem dX8_steals_18 : decode cX8_steals 18 = .ok (.getfield 17, 3) := by decide +kernel
theorem dX8_steals_21 : decode cX8_steals 21 = .ok (.iload_n 1, 1) := by decide +kernel
theorem dX8_steals_22 : decode cX8_steals 22 = .ok (.invokestatic 41, 3) := by decide +kernel
theorem dX8_steals_25 : decode cX8_steals 25 = .ok (.iconst 2, 1) := by decide +kernel
theorem dX8_steals_26 : decode cX8_steals 26 = .ok (.iadd, 1) := by decide +kernel
theorem dX8_steals_27 : decode cX8_steals 27 = .ok (.iaload, 1) := by decide +kernel
theorem dX8_steals_28 : decode cX8_steals 28 = .ok (.ireturn, 1) := by decide +kernel
theorem dX8_isPaused_0 : decode cX8_isPaused 0 = .ok (.aload_n 0, 1) := by decide +kernel
theorem dX8_isPaused_1 : decode cX8_isPaused 1 = .ok (.iconst 0, 1) := by decide +kernel
theorem dX8_isPaused_2 : decode cX8_isPaused 2 = .ok (.putfield 38, 3) := by decide +kernel
theorem dX8_isPaused_5 : decode cX8_isPaused 5 = .ok (.aload_n 0, 1) := by decide +kernel
theorem dX8_isPaused_6 : decode cX8_isPaused 6 = .ok (.iload_n 1, 1) := by decide +kernel
theorem dX8_isPaused_7 : decode cX8_isPaused 7 = .ok (.invokevirtual 230, 3) := by decide +kernel
theorem dX8_isPaused_10 : decode cX8_isPaused 10 = .ok (.ifCond .ne 22, 3) := by decide +kernel
theorem dX8_isPaused_13 : decode cX8_isPaused 13 = .ok (.aload_n 0, 1) := by decide +kernel
theorem dX8_isPaused_14 : decode cX8_isPaused 14 = .ok (.getfield 17, 3) := by decide +kernel
theorem dX8_isPaused_17 : decode cX8_isPaused 17 = .ok (.iload_n 1, 1) := by decide +kernel
theorem dX8_isPaused_18 : decode cX8_isPaused 18 = .ok (.invokestatic 41, 3) := by decide +kernel
theorem dX8_isPaused_21 : decode cX8_isPaused 21 = .ok (.iconst 3, 1) := by decide +kernel
theorem dX8_isPaused_22 : decode cX8_isPaused 22 = .ok (.iadd, 1) := by decide +kernel
theorem dX8_isPaused_23 : decode cX8_isPaused 23 = .ok (.iaload, 1) := by decide +kernel
theorem dX8_isPaused_24 : decode cX8_isPaused 24 = .ok (.iconst 1, 1) := by decide +kernel
theorem dX8_isPaused_25 : decode cX8_isPaused 25 = .ok (.if_icmp .ne 7, 3) := by decide +kernel
theorem dX8_isPaused_28 : decode cX8_isPaused 28 = .ok (.iconst 1, 1) := by decide +kernel
theorem dX8_isPaused_29 : decode cX8_isPaused 29 = .ok (.goto 4, 3) := by decide +kernel
theorem dX8_isPaused_32 : decode cX8_isPaused 32 = .ok (.iconst 0, 1) := by decide +kernel
theorem dX8_isPaused_33 : decode cX8_isPaused 33 = .ok (.ireturn, 1) := by decide +kernel
theorem dX8_finished_0 : decode cX8_finished 0 = .ok (.aload_n 0, 1) := by decide +kernel
theorem dX8_finished_1 : decode cX8_finished 1 = .ok (.iconst 0, 1) := by decide +kernel
theorem dX8_finished_2 : decode cX8_finished 2 = .ok (.putfield 38, 3) := by decide +kernel
theorem dX8_finished_5 : decode cX8_finished 5 = .ok (.aload_n 0, 1) := by decide +kernel
theorem dX8_finished_6 : decode cX8_finished 6 = .ok (.getfield 17, 3) := by decide +kernel
theorem dX8_finished_9 : decode cX8_finished 9 = .ok (.invokestatic 236, 3) := by decide +kernel
theorem dX8_finished_12 : decode cX8_finished 12 = .ok (.ireturn, 1) := by decide +kernel
theorem dX8_isAhead_0 : decode cX8_isAhead 0 = .ok (.aload_n 0, 1) := by decide +kernel
theorem dX8_isAhead_1 : decode cX8_isAhead 1 = .ok (.getfield 17, 3) := by decide +kernel
theorem dX8_isAhead_4 : decode cX8_isAhead 4 = .ok (.iload_n 2, 1) := by decide +kernel
theorem dX8_isAhead_5 : decode cX8_isAhead 5 = .ok (.invokestatic 136, 3) := by decide +kernel
theorem dX8_isAhead_8 : decode cX8_isAhead 8 = .ok (.iconst 3, 1) := by decide +kernel
theorem dX8_isAhead_9 : decode cX8_isAhead 9 = .ok (.iadd, 1) := by decide +kernel
theorem dX8_isAhead_10 : decode cX8_isAhead 10 = .ok (.iaload, 1) := by decide +kernel
theorem dX8_isAhead_11 : decode cX8_isAhead 11 = .ok (.iload_n 1, 1) := by decide +kernel
theorem dX8_isAhead_12 : decode cX8_isAhead 12 = .ok (.ishr, 1) := by decide +kernel
theorem dX8_isAhead_13 : decode cX8_isAhead 13 = .ok (.iconst 1, 1) := by decide +kernel
theorem dX8_isAhead_14 : decode cX8_isAhead 14 = .ok (.iand, 1) := by decide +kernel
theorem dX8_isAhead_15 : decode cX8_isAhead 15 = .ok (.iconst 1, 1) := by decide +kernel
theorem dX8_isAhead_16 : decode cX8_isAhead 16 = .ok (.if_icmp .ne 5, 3) := by decide +kernel
theorem dX8_isAhead_19 : decode cX8_isAhead 19 = .ok (.iconst 1, 1) := by decide +kernel
theorem dX8_isAhead_20 : decode cX8_isAhead 20 = .ok (.ireturn, 1) := by decide +kernel
theorem dX8_isAhead_21 : decode cX8_isAhead 21 = .ok (.iconst 0, 1) := by decide +kernel
theorem dX8_isAhead_22 : decode cX8_isAhead 22 = .ok (.istore_n 3, 1) := by decide +kernel
theorem dX8_isAhead_23 : decode cX8_isAhead 23 = .ok (.iload_n 3, 1) := by decide +kernel
theorem dX8_isAhead_24 : decode cX8_isAhead 24 = .ok (.aload_n 0, 1) := by decide +kernel
theorem dX8_isAhead_25 : decode cX8_isAhead 25 = .ok (.getfield 17, 3) := by decide +kernel
theorem dX8_isAhead_28 : decode cX8_isAhead 28 = .ok (.iconst 4, 1) := by decide +kernel
theorem dX8_isAhead_29 : decode cX8_isAhead 29 = .ok (.iaload, 1) := by decide +kernel
theorem dX8_isAhead_30 : decode cX8_isAhead 30 = .ok (.if_icmp .ge 37, 3) := by decide +kernel
theorem dX8_isAhead_33 : decode cX8_isAhead 33 = .ok (.iload_n 1, 1) := by decide +kernel
theorem dX8_isAhead_34 : decode cX8_isAhead 34 = .ok (.aload_n 0, 1) := by decide +kernel
theorem dX8_isAhead_35 : decode cX8_isAhead 35 = .ok (.getfield 17, 3) := by decide +kernel
theorem dX8_isAhead_38 : decode cX8_isAhead 38 = .ok (.bipush 8, 2) := by decide +kernel
theorem dX8_isAhead_40 : decode cX8_isAhead 40 = .ok (.iload_n 3, 1) := by decide +kernel
theorem dX8_isAhead_41 : decode cX8_isAhead 41 = .ok (.iadd, 1) := by decide +kernel
theorem dX8_isAhead_42 : decode cX8_isAhead 42 = .ok (.iaload, 1) := by decide +kernel
theorem dX8_isAhead_43 : decode cX8_isAhead 43 = .ok (.if_icmp .ge 18, 3) := by decide +kernel
theorem dX8_isAhead_46 : decode cX8_isAhead 46 = .ok (.aload_n 0, 1) := by decide +kernel
theorem dX8_isAhead_47 : decode cX8_isAhead 47 = .ok (.getfield 17, 3) := by decide +kernel
theorem dX8_isAhead_50 : decode cX8_isAhead 50 = .ok (.bipush 8, 2) := by decide +kernel
theorem dX8_isAhead_52 : decode cX8_isAhead 52 = .ok (.iload_n 3, 1) := by decide +kernel
theorem dX8_isAhead_53 : decode cX8_isAhead 53 = .ok (.iadd, 1) := by decide +kernel
theorem dX8_isAhead_54 : decode cX8_isAhead 54 = .ok (.iaload, 1) := by decide +kernel
theorem dX8_isAhead_55 : decode cX8_isAhead 55 = .ok (.iload_n 2, 1) := by decide +kernel
theorem dX8_isAhead_56 : decode cX8_isAhead 56 = .ok (.if_icmp .gt 5, 3) := by decide +kernel
theorem dX8_isAhead_59 : decode cX8_isAhead 59 = .ok (.iconst 1, 1) := by decide +kernel
theorem dX8_isAhead_60 : decode cX8_isAhead 60 = .ok (.ireturn, 1) := by decide +kernel
theorem dX8_isAhead_61 : decode cX8_isAhead 61 = .ok (.iinc 3 1, 3) := by decide +kernel
theorem dX8_isAhead_64 : decode cX8_isAhead 64 = .ok (.goto (-41), 3) := by decide +kernel
theorem dX8_isAhead_67 : decode cX8_isAhead 67 = .ok (.iconst 0, 1) := by decide +kernel
theorem dX8_isAhead_68 : decode cX8_isAhead 68 = .ok (.ireturn, 1) := by decide +kernel
theorem dX8_criticalPath_0 : decode cX8_criticalPath 0 = .ok (.aload_n 0, 1) := by decide +kernel
theorem dX8_criticalPath_1 : decode cX8_criticalPath 1 = .ok (.iconst 0, 1) := by decide +kernel
theorem dX8_criticalPath_2 : decode cX8_criticalPath 2 = .ok (.putfield 38, 3) := by decide +kernel
theorem dX8_criticalPath_5 : decode cX8_criticalPath 5 = .ok (.iconst 0, 1) := by decide +kernel
theorem dX8_criticalPath_6 : decode cX8_criticalPath 6 = .ok (.istore_n 1, 1) := by decide +kernel
theorem dX8_criticalPath_7 : decode cX8_criticalPath 7 = .ok (.iconst 0, 1) := by decide +kernel
theorem dX8_criticalPath_8 : decode cX8_criticalPath 8 = .ok (.istore_n 2, 1) := by decide +kernel
theorem dX8_criticalPath_9 : decode cX8_criticalPath 9 = .ok (.iload_n 2, 1) := by decide +kernel
theorem dX8_criticalPath_10 : decode cX8_criticalPath 10 = .ok (.aload_n 0, 1) := by decide +kernel
theorem dX8_criticalPath_11 : decode cX8_criticalPath 11 = .ok (.getfield 17, 3) := by decide +kernel
theorem dX8_criticalPath_14 : decode cX8_criticalPath 14 = .ok (.iconst 3, 1) := by decide +kernel
theorem dX8_criticalPath_15 : decode cX8_criticalPath 15 = .ok (.iaload, 1) := by decide +kernel
theorem dX8_criticalPath_16 : decode cX8_criticalPath 16 = .ok (.if_icmp .ge 102, 3) := by decide +kernel
theorem dX8_criticalPath_19 : decode cX8_criticalPath 19 = .ok (.aload_n 0, 1) := by decide +kernel
theorem dX8_criticalPath_20 : decode cX8_criticalPath 20 = .ok (.getfield 35, 3) := by decide +kernel
theorem dX8_criticalPath_23 : decode cX8_criticalPath 23 = .ok (.iload_n 2, 1) := by decide +kernel
theorem dX8_criticalPath_24 : decode cX8_criticalPath 24 = .ok (.iconst 0, 1) := by decide +kernel
theorem dX8_criticalPath_25 : decode cX8_criticalPath 25 = .ok (.iastore, 1) := by decide +kernel
theorem dX8_criticalPath_26 : decode cX8_criticalPath 26 = .ok (.aload_n 0, 1) := by decide +kernel
theorem dX8_criticalPath_27 : decode cX8_criticalPath 27 = .ok (.getfield 17, 3) := by decide +kernel
theorem dX8_criticalPath_30 : decode cX8_criticalPath 30 = .ok (.iload_n 2, 1) := by decide +kernel
theorem dX8_criticalPath_31 : decode cX8_criticalPath 31 = .ok (.invokestatic 196, 3) := by decide +kernel
theorem dX8_criticalPath_34 : decode cX8_criticalPath 34 = .ok (.ifCond .eq 6, 3) := by decide +kernel
theorem dX8_criticalPath_37 : decode cX8_criticalPath 37 = .ok (.goto 75, 3) := by decide +kernel
theorem dX8_criticalPath_40 : decode cX8_criticalPath 40 = .ok (.iconst 0, 1) := by decide +kernel
theorem dX8_criticalPath_41 : decode cX8_criticalPath 41 = .ok (.istore_n 3, 1) := by decide +kernel
theorem dX8_criticalPath_42 : decode cX8_criticalPath 42 = .ok (.iload_n 3, 1) := by decide +kernel
theorem dX8_criticalPath_43 : decode cX8_criticalPath 43 = .ok (.iload_n 2, 1) := by decide +kernel
theorem dX8_criticalPath_44 : decode cX8_criticalPath 44 = .ok (.if_icmp .ge 39, 3) := by decide +kernel
theorem dX8_criticalPath_47 : decode cX8_criticalPath 47 = .ok (.aload_n 0, 1) := by decide +kernel
theorem dX8_criticalPath_48 : decode cX8_criticalPath 48 = .ok (.iload_n 3, 1) := by decide +kernel
theorem dX8_criticalPath_49 : decode cX8_criticalPath 49 = .ok (.iload_n 2, 1) := by decide +kernel
theorem dX8_criticalPath_50 : decode cX8_criticalPath 50 = .ok (.invokevirtual 239, 3) := by decide +kernel
theorem dX8_criticalPath_53 : decode cX8_criticalPath 53 = .ok (.ifCond .eq 24, 3) := by decide +kernel
theorem dX8_criticalPath_56 : decode cX8_criticalPath 56 = .ok (.aload_n 0, 1) := by decide +kernel
theorem dX8_criticalPath_57 : decode cX8_criticalPath 57 = .ok (.getfield 35, 3) := by decide +kernel
theorem dX8_criticalPath_60 : decode cX8_criticalPath 60 = .ok (.iload_n 2, 1) := by decide +kernel
theorem dX8_criticalPath_61 : decode cX8_criticalPath 61 = .ok (.aload_n 0, 1) := by decide +kernel
theorem dX8_criticalPath_62 : decode cX8_criticalPath 62 = .ok (.getfield 35, 3) := by decide +kernel
theorem dX8_criticalPath_65 : decode cX8_criticalPath 65 = .ok (.iload_n 2, 1) := by decide +kernel
theorem dX8_criticalPath_66 : decode cX8_criticalPath 66 = .ok (.iaload, 1) := by decide +kernel
theorem dX8_criticalPath_67 : decode cX8_criticalPath 67 = .ok (.aload_n 0, 1) := by decide +kernel
theorem dX8_criticalPath_68 : decode cX8_criticalPath 68 = .ok (.getfield 35, 3) := by decide +kernel
theorem dX8_criticalPath_71 : decode cX8_criticalPath 71 = .ok (.iload_n 3, 1) := by decide +kernel
theorem dX8_criticalPath_72 : decode cX8_criticalPath 72 = .ok (.iaload, 1) := by decide +kernel
theorem dX8_criticalPath_73 : decode cX8_criticalPath 73 = .ok (.invokestatic 243, 3) := by decide +kernel
theorem dX8_criticalPath_76 : decode cX8_criticalPath 76 = .ok (.iastore, 1) := by decide +kernel
theorem dX8_criticalPath_77 : decode cX8_criticalPath 77 = .ok (.iinc 3 1, 3) := by decide +kernel
theorem dX8_criticalPath_80 : decode cX8_criticalPath 80 = .ok (.goto (-38), 3) := by decide +kernel
theorem dX8_criticalPath_83 : decode cX8_criticalPath 83 = .ok (.aload_n 0, 1) := by decide +kernel
theorem dX8_criticalPath_84 : decode cX8_criticalPath 84 = .ok (.getfield 35, 3) := by decide +kernel
theorem dX8_criticalPath_87 : decode cX8_criticalPath 87 = .ok (.iload_n 2, 1) := by decide +kernel
theorem dX8_criticalPath_88 : decode cX8_criticalPath 88 = .ok (.dup2, 1) := by decide +kernel
theorem dX8_criticalPath_89 : decode cX8_criticalPath 89 = .ok (.iaload, 1) := by decide +kernel
theorem dX8_criticalPath_90 : decode cX8_criticalPath 90 = .ok (.aload_n 0, 1) := by decide +kernel
theorem dX8_criticalPath_91 : decode cX8_criticalPath 91 = .ok (.getfield 17, 3) := by decide +kernel
theorem dX8_criticalPath_94 : decode cX8_criticalPath 94 = .ok (.iload_n 2, 1) := by decide +kernel
theorem dX8_criticalPath_95 : decode cX8_criticalPath 95 = .ok (.invokestatic 136, 3) := by decide +kernel
theorem dX8_criticalPath_98 : decode cX8_criticalPath 98 = .ok (.iaload, 1) := by decide +kernel
theorem dX8_criticalPath_99 : decode cX8_criticalPath 99 = .ok (.iadd, 1) := by decide +kernel
theorem dX8_criticalPath_100 : decode cX8_criticalPath 100 = .ok (.iastore, 1) := by decide +kernel
theorem dX8_criticalPath_101 : decode cX8_criticalPath 101 = .ok (.iload_n 1, 1) := by decide +kernel
theorem dX8_criticalPath_102 : decode cX8_criticalPath 102 = .ok (.aload_n 0, 1) := by decide +kernel
theorem dX8_criticalPath_103 : decode cX8_criticalPath 103 = .ok (.getfield 35, 3) := by decide +kernel
theorem dX8_criticalPath_106 : decode cX8_criticalPath 106 = .ok (.iload_n 2, 1) := by decide +kernel
theorem dX8_criticalPath_107 : decode cX8_criticalPath 107 = .ok (.iaload, 1) := by decide +kernel
theorem dX8_criticalPath_108 : decode cX8_criticalPath 108 = .ok (.invokestatic 243, 3) := by decide +kernel
theorem dX8_criticalPath_111 : decode cX8_criticalPath 111 = .ok (.istore_n 1, 1) := by decide +kernel
theorem dX8_criticalPath_112 : decode cX8_criticalPath 112 = .ok (.iinc 2 1, 3) := by decide +kernel
theorem dX8_criticalPath_115 : decode cX8_criticalPath 115 = .ok (.goto (-106), 3) := by decide +kernel
theorem dX8_criticalPath_118 : decode cX8_criticalPath 118 = .ok (.iload_n 1, 1) := by decide +kernel
theorem dX8_criticalPath_119 : decode cX8_criticalPath 119 = .ok (.ireturn, 1) := by decide +kernel
theorem dX8_finishFuture_0 : decode cX8_finishFuture 0 = .ok (.iconst 0, 1) := by decide +kernel
theorem dX8_finishFuture_1 : decode cX8_finishFuture 1 = .ok (.istore_n 2, 1) := by decide +kernel
theorem dX8_finishFuture_2 : decode cX8_finishFuture 2 = .ok (.iload_n 2, 1) := by decide +kernel
theorem dX8_finishFuture_3 : decode cX8_finishFuture 3 = .ok (.iload_n 1, 1) := by decide +kernel
theorem dX8_finishFuture_4 : decode cX8_finishFuture 4 = .ok (.if_icmp .gt 36, 3) := by decide +kernel
theorem dX8_finishFuture_7 : decode cX8_finishFuture 7 = .ok (.aload_n 0, 1) := by decide +kernel
theorem dX8_finishFuture_8 : decode cX8_finishFuture 8 = .ok (.getfield 23, 3) := by decide +kernel
theorem dX8_finishFuture_11 : decode cX8_finishFuture 11 = .ok (.invokestatic 236, 3) := by decide +kernel
theorem dX8_finishFuture_14 : decode cX8_finishFuture 14 = .ok (.aload_n 0, 1) := by decide +kernel
theorem dX8_finishFuture_15 : decode cX8_finishFuture 15 = .ok (.getfield 23, 3) := by decide +kernel
theorem dX8_finishFuture_18 : decode cX8_finishFuture 18 = .ok (.iconst 3, 1) := by decide +kernel
theorem dX8_finishFuture_19 : decode cX8_finishFuture 19 = .ok (.iaload, 1) := by decide +kernel
theorem dX8_finishFuture_20 : decode cX8_finishFuture 20 = .ok (.if_icmp .ne 5, 3) := by decide +kernel
theorem dX8_finishFuture_23 : decode cX8_finishFuture 23 = .ok (.iload_n 2, 1) := by decide +kernel
theorem dX8_finishFuture_24 : decode cX8_finishFuture 24 = .ok (.ireturn, 1) := by decide +kernel
theorem dX8_finishFuture_25 : decode cX8_finishFuture 25 = .ok (.aload_n 0, 1) := by decide +kernel
theorem dX8_finishFuture_26 : decode cX8_finishFuture 26 = .ok (.aload_n 0, 1) := by decide +kernel
theorem dX8_finishFuture_27 : decode cX8_finishFuture 27 = .ok (.getfield 23, 3) := by decide +kernel
theorem dX8_finishFuture_30 : decode cX8_finishFuture 30 = .ok (.invokevirtual 246, 3) := by decide +kernel
theorem dX8_finishFuture_33 : decode cX8_finishFuture 33 = .ok (.pop, 1) := by decide +kernel
theorem dX8_finishFuture_34 : decode cX8_finishFuture 34 = .ok (.iinc 2 1, 3) := by decide +kernel
theorem dX8_finishFuture_37 : decode cX8_finishFuture 37 = .ok (.goto (-35), 3) := by decide +kernel
theorem dX8_finishFuture_40 : decode cX8_finishFuture 40 = .ok (.iconst (-1), 1) := by decide +kernel
theorem dX8_finishFuture_41 : decode cX8_finishFuture 41 = .ok (.ireturn, 1) := by decide +kernel
theorem dX8_finishTime_0 : decode cX8_finishTime 0 = .ok (.aload_n 0, 1) := by decide +kernel
theorem dX8_finishTime_1 : decode cX8_finishTime 1 = .ok (.iconst 0, 1) := by decide +kernel
theorem dX8_finishTime_2 : decode cX8_finishTime 2 = .ok (.putfield 38, 3) := by decide +kernel
theorem dX8_finishTime_5 : decode cX8_finishTime 5 = .ok (.aload_n 0, 1) := by decide +kernel
theorem dX8_finishTime_6 : decode cX8_finishTime 6 = .ok (.iload_n 1, 1) := by decide +kernel
theorem dX8_finishTime_7 : decode cX8_finishTime 7 = .ok (.iconst 0, 1) := by decide +kernel
theorem dX8_finishTime_8 : decode cX8_finishTime 8 = .ok (.sipush 500, 3) := by decide +kernel
theorem dX8_finishTime_11 : decode cX8_finishTime 11 = .ok (.invokestatic 63, 3) := by decide +kernel
theorem dX8_finishTime_14 : decode cX8_finishTime 14 = .ok (.ifCond .ne 7, 3) := by decide +kernel
theorem dX8_finishTime_17 : decode cX8_finishTime 17 = .ok (.iconst 1, 1) := by decide +kernel
theorem dX8_finishTime_18 : decode cX8_finishTime 18 = .ok (.goto 4, 3) := by decide +kernel
theorem dX8_finishTime_21 : decode cX8_finishTime 21 = .ok (.iconst 0, 1) := by decide +kernel
theorem dX8_finishTime_22 : decode cX8_finishTime 22 = .ok (.iconst 1, 1) := by decide +kernel
theorem dX8_finishTime_23 : decode cX8_finishTime 23 = .ok (.invokevirtual 162, 3) := by decide +kernel
theorem dX8_finishTime_26 : decode cX8_finishTime 26 = .ok (.ifCond .eq 5, 3) := by decide +kernel
theorem dX8_finishTime_29 : decode cX8_finishTime 29 = .ok (.iconst 0, 1) := by decide +kernel
theorem dX8_finishTime_30 : decode cX8_finishTime 30 = .ok (.ireturn, 1) := by decide +kernel
theorem dX8_finishTime_31 : decode cX8_finishTime 31 = .ok (.aload_n 0, 1) := by decide +kernel
theorem dX8_finishTime_32 : decode cX8_finishTime 32 = .ok (.getfield 17, 3) := by decide +kernel
theorem dX8_finishTime_35 : decode cX8_finishTime 35 = .ok (.aload_n 0, 1) := by decide +kernel
theorem dX8_finishTime_36 : decode cX8_finishTime 36 = .ok (.getfield 23, 3) := by decide +kernel
theorem dX8_finishTime_39 : decode cX8_finishTime 39 = .ok (.invokestatic 178, 3) := by decide +kernel
theorem dX8_finishTime_42 : decode cX8_finishTime 42 = .ok (.aload_n 0, 1) := by decide +kernel
theorem dX8_finishTime_43 : decode cX8_finishTime 43 = .ok (.iload_n 1, 1) := by decide +kernel
theorem dX8_finishTime_44 : decode cX8_finishTime 44 = .ok (.invokevirtual 249, 3) := by decide +kernel
theorem dX8_finishTime_47 : decode cX8_finishTime 47 = .ok (.ireturn, 1) := by decide +kernel
theorem dX8_timeOn_0 : decode cX8_timeOn 0 = .ok (.aload_n 0, 1) := by decide +kernel
theorem dX8_timeOn_1 : decode cX8_timeOn 1 = .ok (.iconst 0, 1) := by decide +kernel
theorem dX8_timeOn_2 : decode cX8_timeOn 2 = .ok (.putfield 38, 3) := by decide +kernel
theorem dX8_timeOn_5 : decode cX8_timeOn 5 = .ok (.aload_n 0, 1) := by decide +kernel
theorem dX8_timeOn_6 : decode cX8_timeOn 6 = .ok (.iload_n 1, 1) := by decide +kernel
theorem dX8_timeOn_7 : decode cX8_timeOn 7 = .ok (.iconst 1, 1) := by decide +kernel
theorem dX8_timeOn_8 : decode cX8_timeOn 8 = .ok (.iconst 4, 1) := by decide +kernel
theorem dX8_timeOn_9 : decode cX8_timeOn 9 = .ok (.invokestatic 63, 3) := by decide +kernel
theorem dX8_timeOn_12 : decode cX8_timeOn 12 = .ok (.ifCond .eq 14, 3) := by decide +kernel
theorem dX8_timeOn_15 : decode cX8_timeOn 15 = .ok (.iload_n 2, 1) := by decide +kernel
theorem dX8_timeOn_16 : decode cX8_timeOn 16 = .ok (.iconst 0, 1) := by decide +kernel
theorem dX8_timeOn_17 : decode cX8_timeOn 17 = .ok (.sipush 500, 3) := by decide +kernel
theorem dX8_timeOn_20 : decode cX8_timeOn 20 = .ok (.invokestatic 63, 3) := by decide +kernel
theorem dX8_timeOn_23 : decode cX8_timeOn 23 = .ok (.ifCond .ne 7, 3) := by decide +kernel
theorem dX8_timeOn_26 : decode cX8_timeOn 26 = .ok (.iconst 1, 1) := by decide +kernel
theorem dX8_timeOn_27 : decode cX8_timeOn 27 = .ok (.goto 4, 3) := by decide +kernel
theorem dX8_timeOn_30 : decode cX8_timeOn 30 = .ok (.iconst 0, 1) := by decide +kernel
theorem dX8_timeOn_31 : decode cX8_timeOn 31 = .ok (.iconst 1, 1) := by decide +kernel
theorem dX8_timeOn_32 : decode cX8_timeOn 32 = .ok (.invokevirtual 162, 3) := by decide +kernel
theorem dX8_timeOn_35 : decode cX8_timeOn 35 = .ok (.ifCond .ne 25, 3) := by decide +kernel
theorem dX8_timeOn_38 : decode cX8_timeOn 38 = .ok (.aload_n 0, 1) := by decide +kernel
theorem dX8_timeOn_39 : decode cX8_timeOn 39 = .ok (.aload_n 0, 1) := by decide +kernel
theorem dX8_timeOn_40 : decode cX8_timeOn 40 = .ok (.getfield 17, 3) := by decide +kernel
theorem dX8_timeOn_43 : decode cX8_timeOn 43 = .ok (.iconst 0, 1) := by decide +kernel
theorem dX8_timeOn_44 : decode cX8_timeOn 44 = .ok (.iaload, 1) := by decide +kernel
theorem dX8_timeOn_45 : decode cX8_timeOn 45 = .ok (.ifCond .ne 7, 3) := by decide +kernel
theorem dX8_timeOn_48 : decode cX8_timeOn 48 = .ok (.iconst 1, 1) := by decide +kernel
theorem dX8_timeOn_49 : decode cX8_timeOn 49 = .ok (.goto 4, 3) := by decide +kernel
theorem dX8_timeOn_52 : decode cX8_timeOn 52 = .ok (.iconst 0, 1) := by decide +kernel
theorem dX8_timeOn_53 : decode cX8_timeOn 53 = .ok (.iconst 2, 1) := by decide +kernel
theorem dX8_timeOn_54 : decode cX8_timeOn 54 = .ok (.invokevirtual 162, 3) := by decide +kernel
theorem dX8_timeOn_57 : decode cX8_timeOn 57 = .ok (.ifCond .eq 5, 3) := by decide +kernel
theorem dX8_timeOn_60 : decode cX8_timeOn 60 = .ok (.iconst 0, 1) := by decide +kernel
theorem dX8_timeOn_61 : decode cX8_timeOn 61 = .ok (.ireturn, 1) := by decide +kernel
theorem dX8_timeOn_62 : decode cX8_timeOn 62 = .ok (.aload_n 0, 1) := by decide +kernel
theorem dX8_timeOn_63 : decode cX8_timeOn 63 = .ok (.getfield 17, 3) := by decide +kernel
theorem dX8_timeOn_66 : decode cX8_timeOn 66 = .ok (.aload_n 0, 1) := by decide +kernel
theorem dX8_timeOn_67 : decode cX8_timeOn 67 = .ok (.getfield 23, 3) := by decide +kernel
theorem dX8_timeOn_70 : decode cX8_timeOn 70 = .ok (.invokestatic 178, 3) := by decide +kernel
theorem dX8_timeOn_73 : decode cX8_timeOn 73 = .ok (.aload_n 0, 1) := by decide +kernel
theorem dX8_timeOn_74 : decode cX8_timeOn 74 = .ok (.getfield 23, 3) := by decide +kernel
theorem dX8_timeOn_77 : decode cX8_timeOn 77 = .ok (.iconst 0, 1) := by decide +kernel
theorem dX8_timeOn_78 : decode cX8_timeOn 78 = .ok (.iload_n 1, 1) := by decide +kernel
theorem dX8_timeOn_79 : decode cX8_timeOn 79 = .ok (.iastore, 1) := by decide +kernel
theorem dX8_timeOn_80 : decode cX8_timeOn 80 = .ok (.aload_n 0, 1) := by decide +kernel
theorem dX8_timeOn_81 : decode cX8_timeOn 81 = .ok (.getfield 23, 3) := by decide +kernel
theorem dX8_timeOn_84 : decode cX8_timeOn 84 = .ok (.iconst 5, 1) := by decide +kernel
theorem dX8_timeOn_85 : decode cX8_timeOn 85 = .ok (.iconst 0, 1) := by decide +kernel
theorem dX8_timeOn_86 : decode cX8_timeOn 86 = .ok (.iastore, 1) := by decide +kernel
theorem dX8_timeOn_87 : decode cX8_timeOn 87 = .ok (.aload_n 0, 1) := by decide +kernel
theorem dX8_timeOn_88 : decode cX8_timeOn 88 = .ok (.getfield 23, 3) := by decide +kernel
theorem dX8_timeOn_91 : decode cX8_timeOn 91 = .ok (.invokestatic 166, 3) := by decide +kernel
theorem dX8_timeOn_94 : decode cX8_timeOn 94 = .ok (.iconst 0, 1) := by decide +kernel
theorem dX8_timeOn_95 : decode cX8_timeOn 95 = .ok (.istore_n 3, 1) := by decide +kernel
theorem dX8_timeOn_96 : decode cX8_timeOn 96 = .ok (.iload_n 3, 1) := by decide +kernel
theorem dX8_timeOn_97 : decode cX8_timeOn 97 = .ok (.aload_n 0, 1) := by decide +kernel
theorem dX8_timeOn_98 : decode cX8_timeOn 98 = .ok (.getfield 23, 3) := by decide +kernel
theorem dX8_timeOn_101 : decode cX8_timeOn 101 = .ok (.iconst 3, 1) := by decide +kernel
theorem dX8_timeOn_102 : decode cX8_timeOn 102 = .ok (.iaload, 1) := by decide +kernel
theorem dX8_timeOn_103 : decode cX8_timeOn 103 = .ok (.if_icmp .ge 47, 3) := by decide +kernel
theorem dX8_timeOn_106 : decode cX8_timeOn 106 = .ok (.aload_n 0, 1) := by decide +kernel
theorem dX8_timeOn_107 : decode cX8_timeOn 107 = .ok (.getfield 23, 3) := by decide +kernel
theorem dX8_timeOn_110 : decode cX8_timeOn 110 = .ok (.iload_n 3, 1) := by decide +kernel
theorem dX8_timeOn_111 : decode cX8_timeOn 111 = .ok (.invokestatic 136, 3) := by decide +kernel
theorem dX8_timeOn_114 : decode cX8_timeOn 114 = .ok (.iconst 2, 1) := by decide +kernel
theorem dX8_timeOn_115 : decode cX8_timeOn 115 = .ok (.iadd, 1) := by decide +kernel
theorem dX8_timeOn_116 : decode cX8_timeOn 116 = .ok (.dup2, 1) := by decide +kernel
theorem dX8_timeOn_117 : decode cX8_timeOn 117 = .ok (.iaload, 1) := by decide +kernel
theorem dX8_timeOn_118 : decode cX8_timeOn 118 = .ok (.iload_n 1, 1) := by decide +kernel
theorem dX8_timeOn_119 : decode cX8_timeOn 119 = .ok (.irem, 1) := by decide +kernel
theorem dX8_timeOn_120 : decode cX8_timeOn 120 = .ok (.iastore, 1) := by decide +kernel
theorem dX8_timeOn_121 : decode cX8_timeOn 121 = .ok (.aload_n 0, 1) := by decide +kernel
theorem dX8_timeOn_122 : decode cX8_timeOn 122 = .ok (.getfield 23, 3) := by decide +kernel
theorem dX8_timeOn_125 : decode cX8_timeOn 125 = .ok (.iload_n 3, 1) := by decide +kernel
theorem dX8_timeOn_126 : decode cX8_timeOn 126 = .ok (.invokestatic 136, 3) := by decide +kernel
theorem dX8_timeOn_129 : decode cX8_timeOn 129 = .ok (.iconst 4, 1) := by decide +kernel
theorem dX8_timeOn_130 : decode cX8_timeOn 130 = .ok (.iadd, 1) := by decide +kernel
theorem dX8_timeOn_131 : decode cX8_timeOn 131 = .ok (.iaload, 1) := by decide +kernel
theorem dX8_timeOn_132 : decode cX8_timeOn 132 = .ok (.iconst 5, 1) := by decide +kernel
theorem dX8_timeOn_133 : decode cX8_timeOn 133 = .ok (.if_icmp .eq 11, 3) := by decide +kernel
theorem dX8_timeOn_136 : decode cX8_timeOn 136 = .ok (.aload_n 0, 1) := by decide +kernel
theorem dX8_timeOn_137 : decode cX8_timeOn 137 = .ok (.getfield 23, 3) := by decide +kernel
theorem dX8_timeOn_140 : decode cX8_timeOn 140 = .ok (.iload_n 3, 1) := by decide +kernel
theorem dX8_timeOn_141 : decode cX8_timeOn 141 = .ok (.invokestatic 139, 3) := by decide +kernel
theorem dX8_timeOn_144 : decode cX8_timeOn 144 = .ok (.iinc 3 1, 3) := by decide +kernel
theorem dX8_timeOn_147 : decode cX8_timeOn 147 = .ok (.goto (-51), 3) := by decide +kernel
theorem dX8_timeOn_150 : decode cX8_timeOn 150 = .ok (.aload_n 0, 1) := by decide +kernel
theorem dX8_timeOn_151 : decode cX8_timeOn 151 = .ok (.iload_n 2, 1) := by decide +kernel
theorem dX8_timeOn_152 : decode cX8_timeOn 152 = .ok (.invokevirtual 249, 3) := by decide +kernel
theorem dX8_timeOn_155 : decode cX8_timeOn 155 = .ok (.ireturn, 1) := by decide +kernel
theorem dX8_remember_0 : decode cX8_remember 0 = .ok (.aload_n 0, 1) := by decide +kernel
theorem dX8_remember_1 : decode cX8_remember 1 = .ok (.getfield 252, 3) := by decide +kernel
theorem dX8_remember_4 : decode cX8_remember 4 = .ok (.bipush 8, 2) := by decide +kernel
theorem dX8_remember_6 : decode cX8_remember 6 = .ok (.if_icmp .ne 44, 3) := by decide +kernel
theorem dX8_remember_9 : decode cX8_remember 9 = .ok (.iconst 1, 1) := by decide +kernel
theorem dX8_remember_10 : decode cX8_remember 10 = .ok (.istore_n 1, 1) := by decide +kernel
theorem dX8_remember_11 : decode cX8_remember 11 = .ok (.iload_n 1, 1) := by decide +kernel
theorem dX8_remember_12 : decode cX8_remember 12 = .ok (.bipush 8, 2) := by decide +kernel
theorem dX8_remember_14 : decode cX8_remember 14 = .ok (.if_icmp .ge 26, 3) := by decide +kernel
theorem dX8_remember_17 : decode cX8_remember 17 = .ok (.aload_n 0, 1) := by decide +kernel
theorem dX8_remember_18 : decode cX8_remember 18 = .ok (.getfield 28, 3) := by decide +kernel
theorem dX8_remember_21 : decode cX8_remember 21 = .ok (.iload_n 1, 1) := by decide +kernel
theorem dX8_remember_22 : decode cX8_remember 22 = .ok (.aaload, 1) := by decide +kernel
theorem dX8_remember_23 : decode cX8_remember 23 = .ok (.aload_n 0, 1) := by decide +kernel
theorem dX8_remember_24 : decode cX8_remember 24 = .ok (.getfield 28, 3) := by decide +kernel
theorem dX8_remember_27 : decode cX8_remember 27 = .ok (.iload_n 1, 1) := by decide +kernel
theorem dX8_remember_28 : decode cX8_remember 28 = .ok (.iconst 1, 1) := by decide +kernel
theorem dX8_remember_29 : decode cX8_remember 29 = .ok (.isub, 1) := by decide +kernel
theorem dX8_remember_30 : decode cX8_remember 30 = .ok (.aaload, 1) := by decide +kernel
theorem dX8_remember_31 : decode cX8_remember 31 = .ok (.invokestatic 178, 3) := by decide +kernel
theorem dX8_remember_34 : decode cX8_remember 34 = .ok (.iinc 1 1, 3) := by decide +kernel
theorem dX8_remember_37 : decode cX8_remember 37 = .ok (.goto (-26), 3) := by decide +kernel
theorem dX8_remember_40 : decode cX8_remember 40 = .ok (.aload_n 0, 1) := by decide +kernel
theorem dX8_remember_41 : decode cX8_remember 41 = .ok (.dup, 1) := by decide +kernel
theorem dX8_remember_42 : decode cX8_remember 42 = .ok (.getfield 252, 3) := by decide +kernel
theorem dX8_remember_45 : decode cX8_remember 45 = .ok (.iconst 1, 1) := by decide +kernel
theorem dX8_remember_46 : decode cX8_remember 46 = .ok (.isub, 1) := by decide +kernel
theorem dX8_remember_47 : decode cX8_remember 47 = .ok (.putfield 252, 3) := by decide +kernel
theorem dX8_remember_50 : decode cX8_remember 50 = .ok (.aload_n 0, 1) := by decide +kernel
theorem dX8_remember_51 : decode cX8_remember 51 = .ok (.getfield 17, 3) := by decide +kernel
theorem dX8_remember_54 : decode cX8_remember 54 = .ok (.aload_n 0, 1) := by decide +kernel
theorem dX8_remember_55 : decode cX8_remember 55 = .ok (.getfield 28, 3) := by decide +kernel
theorem dX8_remember_58 : decode cX8_remember 58 = .ok (.aload_n 0, 1) := by decide +kernel
theorem dX8_remember_59 : decode cX8_remember 59 = .ok (.getfield 252, 3) := by decide +kernel
theorem dX8_remember_62 : decode cX8_remember 62 = .ok (.aaload, 1) := by decide +kernel
theorem dX8_remember_63 : decode cX8_remember 63 = .ok (.invokestatic 178, 3) := by decide +kernel
theorem dX8_remember_66 : decode cX8_remember 66 = .ok (.aload_n 0, 1) := by decide +kernel
theorem dX8_remember_67 : decode cX8_remember 67 = .ok (.dup, 1) := by decide +kernel
theorem dX8_remember_68 : decode cX8_remember 68 = .ok (.getfield 252, 3) := by decide +kernel
theorem dX8_remember_71 : decode cX8_remember 71 = .ok (.iconst 1, 1) := by decide +kernel
theorem dX8_remember_72 : decode cX8_remember 72 = .ok (.iadd, 1) := by decide +kernel
theorem dX8_remember_73 : decode cX8_remember 73 = .ok (.putfield 252, 3) := by decide +kernel
theorem dX8_remember_76 : decode cX8_remember 76 = .ok (.return_, 1) := by decide +kernel
theorem dX8_run_0 : decode cX8_run 0 = .ok (.aload_n 0, 1) := by decide +kernel
theorem dX8_run_1 : decode cX8_run 1 = .ok (.iconst 0, 1) := by decide +kernel
theorem dX8_run_2 : decode cX8_run 2 = .ok (.putfield 38, 3) := by decide +kernel
theorem dX8_run_5 : decode cX8_run 5 = .ok (.aload_n 0, 1) := by decide +kernel
theorem dX8_run_6 : decode cX8_run 6 = .ok (.iload_n 1, 1) := by decide +kernel
theorem dX8_run_7 : decode cX8_run 7 = .ok (.iconst 1, 1) := by decide +kernel
theorem dX8_run_8 : decode cX8_run 8 = .ok (.sipush 200, 3) := by decide +kernel
theorem dX8_run_11 : decode cX8_run 11 = .ok (.invokestatic 63, 3) := by decide +kernel
theorem dX8_run_14 : decode cX8_run 14 = .ok (.ifCond .ne 7, 3) := by decide +kernel
theorem dX8_run_17 : decode cX8_run 17 = .ok (.iconst 1, 1) := by decide +kernel
theorem dX8_run_18 : decode cX8_run 18 = .ok (.goto 4, 3) := by decide +kernel
theorem dX8_run_21 : decode cX8_run 21 = .ok (.iconst 0, 1) := by decide +kernel
theorem dX8_run_22 : decode cX8_run 22 = .ok (.iconst 1, 1) := by decide +kernel
theorem dX8_run_23 : decode cX8_run 23 = .ok (.invokevirtual 162, 3) := by decide +kernel
theorem dX8_run_26 : decode cX8_run 26 = .ok (.ifCond .ne 38, 3) := by decide +kernel
theorem dX8_run_29 : decode cX8_run 29 = .ok (.aload_n 0, 1) := by decide +kernel
theorem dX8_run_30 : decode cX8_run 30 = .ok (.aload_n 0, 1) := by decide +kernel
theorem dX8_run_31 : decode cX8_run 31 = .ok (.getfield 17, 3) := by decide +kernel
theorem dX8_run_34 : decode cX8_run 34 = .ok (.iconst 0, 1) := by decide +kernel
theorem dX8_run_35 : decode cX8_run 35 = .ok (.iaload, 1) := by decide +kernel
theorem dX8_run_36 : decode cX8_run 36 = .ok (.ifCond .eq 16, 3) := by decide +kernel
theorem dX8_run_39 : decode cX8_run 39 = .ok (.aload_n 0, 1) := by decide +kernel
theorem dX8_run_40 : decode cX8_run 40 = .ok (.getfield 17, 3) := by decide +kernel
theorem dX8_run_43 : decode cX8_run 43 = .ok (.iconst 5, 1) := by decide +kernel
theorem dX8_run_44 : decode cX8_run 44 = .ok (.iaload, 1) := by decide +kernel
theorem dX8_run_45 : decode cX8_run 45 = .ok (.iload_n 1, 1) := by decide +kernel
theorem dX8_run_46 : decode cX8_run 46 = .ok (.iadd, 1) := by decide +kernel
theorem dX8_run_47 : decode cX8_run 47 = .ok (.ldc 255, 2) := by decide +kernel
theorem dX8_run_49 : decode cX8_run 49 = .ok (.if_icmp .le 7, 3) := by decide +kernel
theorem dX8_run_52 : decode cX8_run 52 = .ok (.iconst 1, 1) := by decide +kernel
theorem dX8_run_53 : decode cX8_run 53 = .ok (.goto 4, 3) := by decide +kernel
theorem dX8_run_56 : decode cX8_run 56 = .ok (.iconst 0, 1) := by decide +kernel
theorem dX8_run_57 : decode cX8_run 57 = .ok (.iconst 2, 1) := by decide +kernel
theorem dX8_run_58 : decode cX8_run 58 = .ok (.invokevirtual 162, 3) := by decide +kernel
theorem dX8_run_61 : decode cX8_run 61 = .ok (.ifCond .eq 5, 3) := by decide +kernel
theorem dX8_run_64 : decode cX8_run 64 = .ok (.iconst 0, 1) := by decide +kernel
theorem dX8_run_65 : decode cX8_run 65 = .ok (.ireturn, 1) := by decide +kernel
theorem dX8_run_66 : decode cX8_run 66 = .ok (.aload_n 0, 1) := by decide +kernel
theorem dX8_run_67 : decode cX8_run 67 = .ok (.invokevirtual 175, 3) := by decide +kernel
theorem dX8_run_70 : decode cX8_run 70 = .ok (.iconst 0, 1) := by decide +kernel
theorem dX8_run_71 : decode cX8_run 71 = .ok (.istore_n 2, 1) := by decide +kernel
theorem dX8_run_72 : decode cX8_run 72 = .ok (.iconst 0, 1) := by decide +kernel
theorem dX8_run_73 : decode cX8_run 73 = .ok (.istore_n 3, 1) := by decide +kernel
theorem dX8_run_74 : decode cX8_run 74 = .ok (.iload_n 3, 1) := by decide +kernel
theorem dX8_run_75 : decode cX8_run 75 = .ok (.iload_n 1, 1) := by decide +kernel
theorem dX8_run_76 : decode cX8_run 76 = .ok (.if_icmp .ge 20, 3) := by decide +kernel
theorem dX8_run_79 : decode cX8_run 79 = .ok (.iload_n 2, 1) := by decide +kernel
theorem dX8_run_80 : decode cX8_run 80 = .ok (.aload_n 0, 1) := by decide +kernel
theorem dX8_run_81 : decode cX8_run 81 = .ok (.aload_n 0, 1) := by decide +kernel
theorem dX8_run_82 : decode cX8_run 82 = .ok (.getfield 17, 3) := by decide +kernel
theorem dX8_run_85 : decode cX8_run 85 = .ok (.invokevirtual 246, 3) := by decide +kernel
theorem dX8_run_88 : decode cX8_run 88 = .ok (.iadd, 1) := by decide +kernel
theorem dX8_run_89 : decode cX8_run 89 = .ok (.istore_n 2, 1) := by decide +kernel
theorem dX8_run_90 : decode cX8_run 90 = .ok (.iinc 3 1, 3) := by decide +kernel
theorem dX8_run_93 : decode cX8_run 93 = .ok (.goto (-19), 3) := by decide +kernel
theorem dX8_run_96 : decode cX8_run 96 = .ok (.iload_n 2, 1) := by decide +kernel
theorem dX8_run_97 : decode cX8_run 97 = .ok (.ireturn, 1) := by decide +kernel
theorem dX8_submit_0 : decode cX8_submit 0 = .ok (.aload_n 0, 1) := by decide +kernel
theorem dX8_submit_1 : decode cX8_submit 1 = .ok (.iconst 0, 1) := by decide +kernel
theorem dX8_submit_2 : decode cX8_submit 2 = .ok (.putfield 38, 3) := by decide +kernel
theorem dX8_submit_5 : decode cX8_submit 5 = .ok (.aload_n 0, 1) := by decide +kernel
theorem dX8_submit_6 : decode cX8_submit 6 = .ok (.iload_n 3, 1) := by decide +kernel
theorem dX8_submit_7 : decode cX8_submit 7 = .ok (.invokevirtual 230, 3) := by decide +kernel
theorem dX8_submit_10 : decode cX8_submit 10 = .ok (.ifCond .ne 60, 3) := by decide +kernel
theorem dX8_submit_13 : decode cX8_submit 13 = .ok (.aload_n 0, 1) := by decide +kernel
theorem dX8_submit_14 : decode cX8_submit 14 = .ok (.iload_n 1, 1) := by decide +kernel
theorem dX8_submit_15 : decode cX8_submit 15 = .ok (.iconst 1, 1) := by decide +kernel
theorem dX8_submit_16 : decode cX8_submit 16 = .ok (.bipush 99, 2) := by decide +kernel
theorem dX8_submit_18 : decode cX8_submit 18 = .ok (.invokestatic 63, 3) := by decide +kernel
theorem dX8_submit_21 : decode cX8_submit 21 = .ok (.ifCond .eq 13, 3) := by decide +kernel
theorem dX8_submit_24 : decode cX8_submit 24 = .ok (.iload_n 2, 1) := by decide +kernel
theorem dX8_submit_25 : decode cX8_submit 25 = .ok (.iconst 0, 1) := by decide +kernel
theorem dX8_submit_26 : decode cX8_submit 26 = .ok (.bipush 9, 2) := by decide +kernel
theorem dX8_submit_28 : decode cX8_submit 28 = .ok (.invokestatic 63, 3) := by decide +kernel
theorem dX8_submit_31 : decode cX8_submit 31 = .ok (.ifCond .ne 7, 3) := by decide +kernel
theorem dX8_submit_34 : decode cX8_submit 34 = .ok (.iconst 1, 1) := by decide +kernel
theorem dX8_submit_35 : decode cX8_submit 35 = .ok (.goto 4, 3) := by decide +kernel
theorem dX8_submit_38 : decode cX8_submit 38 = .ok (.iconst 0, 1) := by decide +kernel
theorem dX8_submit_39 : decode cX8_submit 39 = .ok (.iconst 2, 1) := by decide +kernel
theorem dX8_submit_40 : decode cX8_submit 40 = .ok (.invokevirtual 162, 3) := by decide +kernel
theorem dX8_submit_43 : decode cX8_submit 43 = .ok (.ifCond .ne 27, 3) := by decide +kernel
theorem dX8_submit_46 : decode cX8_submit 46 = .ok (.aload_n 0, 1) := by decide +kernel
theorem dX8_submit_47 : decode cX8_submit 47 = .ok (.aload_n 0, 1) := by decide +kernel
theorem dX8_submit_48 : decode cX8_submit 48 = .ok (.getfield 17, 3) := by decide +kernel
theorem dX8_submit_51 : decode cX8_submit 51 = .ok (.iconst 3, 1) := by decide +kernel
theorem dX8_submit_52 : decode cX8_submit 52 = .ok (.iaload, 1) := by decide +kernel
theorem dX8_submit_53 : decode cX8_submit 53 = .ok (.bipush 32, 2) := by decide +kernel
theorem dX8_submit_55 : decode cX8_submit 55 = .ok (.if_icmp .ne 7, 3) := by decide +kernel
theorem dX8_submit_58 : decode cX8_submit 58 = .ok (.iconst 1, 1) := by decide +kernel
theorem dX8_submit_59 : decode cX8_submit 59 = .ok (.goto 4, 3) := by decide +kernel
theorem dX8_submit_62 : decode cX8_submit 62 = .ok (.iconst 0, 1) := by decide +kernel
theorem dX8_submit_63 : decode cX8_submit 63 = .ok (.iconst 3, 1) := by decide +kernel
theorem dX8_submit_64 : decode cX8_submit 64 = .ok (.invokevirtual 162, 3) := by decide +kernel
theorem dX8_submit_67 : decode cX8_submit 67 = .ok (.ifCond .eq 5, 3) := by decide +kernel
theorem dX8_submit_70 : decode cX8_submit 70 = .ok (.iconst 0, 1) := by decide +kernel
theorem dX8_submit_71 : decode cX8_submit 71 = .ok (.ireturn, 1) := by decide +kernel
theorem dX8_submit_72 : decode cX8_submit 72 = .ok (.aload_n 0, 1) := by decide +kernel
theorem dX8_submit_73 : decode cX8_submit 73 = .ok (.invokevirtual 175, 3) := by decide +kernel
theorem dX8_submit_76 : decode cX8_submit 76 = .ok (.aload_n 0, 1) := by decide +kernel
theorem dX8_submit_77 : decode cX8_submit 77 = .ok (.getfield 17, 3) := by decide +kernel
theorem dX8_submit_80 : decode cX8_submit 80 = .ok (.iload_n 1, 1) := by decide +kernel
theorem dX8_submit_81 : decode cX8_submit 81 = .ok (.iload_n 2, 1) := by decide +kernel
theorem dX8_submit_82 : decode cX8_submit 82 = .ok (.iload_n 3, 1) := by decide +kernel
theorem dX8_submit_83 : decode cX8_submit 83 = .ok (.invokestatic 145, 3) := by decide +kernel
theorem dX8_submit_86 : decode cX8_submit 86 = .ok (.ireturn, 1) := by decide +kernel
theorem dX8_depend_0 : decode cX8_depend 0 = .ok (.aload_n 0, 1) := by decide +kernel
theorem dX8_depend_1 : decode cX8_depend 1 = .ok (.iconst 0, 1) := by decide +kernel
theorem dX8_depend_2 : decode cX8_depend 2 = .ok (.putfield 38, 3) := by decide +kernel
theorem dX8_depend_5 : decode cX8_depend 5 = .ok (.aload_n 0, 1) := by decide +kernel
theorem dX8_depend_6 : decode cX8_depend 6 = .ok (.iload_n 1, 1) := by decide +kernel
theorem dX8_depend_7 : decode cX8_depend 7 = .ok (.invokevirtual 227, 3) := by decide +kernel
theorem dX8_depend_10 : decode cX8_depend 10 = .ok (.ifCond .ne 38, 3) := by decide +kernel
theorem dX8_depend_13 : decode cX8_depend 13 = .ok (.aload_n 0, 1) := by decide +kernel
theorem dX8_depend_14 : decode cX8_depend 14 = .ok (.iload_n 2, 1) := by decide +kernel
theorem dX8_depend_15 : decode cX8_depend 15 = .ok (.ifCond .ge 7, 3) := by decide +kernel
theorem dX8_depend_18 : decode cX8_depend 18 = .ok (.iconst 1, 1) := by decide +kernel
theorem dX8_depend_19 : decode cX8_depend 19 = .ok (.goto 4, 3) := by decide +kernel
theorem dX8_depend_22 : decode cX8_depend 22 = .ok (.iconst 0, 1) := by decide +kernel
theorem dX8_depend_23 : decode cX8_depend 23 = .ok (.iconst 1, 1) := by decide +kernel
theorem dX8_depend_24 : decode cX8_depend 24 = .ok (.invokevirtual 162, 3) := by decide +kernel
theorem dX8_depend_27 : decode cX8_depend 27 = .ok (.ifCond .ne 21, 3) := by decide +kernel
theorem dX8_depend_30 : decode cX8_depend 30 = .ok (.aload_n 0, 1) := by decide +kernel
theorem dX8_depend_31 : decode cX8_depend 31 = .ok (.iload_n 2, 1) := by decide +kernel
theorem dX8_depend_32 : decode cX8_depend 32 = .ok (.iload_n 1, 1) := by decide +kernel
theorem dX8_depend_33 : decode cX8_depend 33 = .ok (.if_icmp .lt 7, 3) := by decide +kernel
theorem dX8_depend_36 : decode cX8_depend 36 = .ok (.iconst 1, 1) := by decide +kernel
theorem dX8_depend_37 : decode cX8_depend 37 = .ok (.goto 4, 3) := by decide +kernel
theorem dX8_depend_40 : decode cX8_depend 40 = .ok (.iconst 0, 1) := by decide +kernel
theorem dX8_depend_41 : decode cX8_depend 41 = .ok (.iconst 2, 1) := by decide +kernel
theorem dX8_depend_42 : decode cX8_depend 42 = .ok (.invokevirtual 162, 3) := by decide +kernel
theorem dX8_depend_45 : decode cX8_depend 45 = .ok (.ifCond .eq 5, 3) := by decide +kernel
theorem dX8_depend_48 : decode cX8_depend 48 = .ok (.iconst 0, 1) := by decide +kernel
theorem dX8_depend_49 : decode cX8_depend 49 = .ok (.ireturn, 1) := by decide +kernel
theorem dX8_depend_50 : decode cX8_depend 50 = .ok (.iload_n 1, 1) := by decide +kernel
theorem dX8_depend_51 : decode cX8_depend 51 = .ok (.invokestatic 136, 3) := by decide +kernel
theorem dX8_depend_54 : decode cX8_depend 54 = .ok (.istore_n 3, 1) := by decide +kernel
theorem dX8_depend_55 : decode cX8_depend 55 = .ok (.aload_n 0, 1) := by decide +kernel
theorem dX8_depend_56 : decode cX8_depend 56 = .ok (.aload_n 0, 1) := by decide +kernel
theorem dX8_depend_57 : decode cX8_depend 57 = .ok (.getfield 17, 3) := by decide +kernel
theorem dX8_depend_60 : decode cX8_depend 60 = .ok (.iload_n 3, 1) := by decide +kernel
theorem dX8_depend_61 : decode cX8_depend 61 = .ok (.iconst 3, 1) := by decide +kernel
theorem dX8_depend_62 : decode cX8_depend 62 = .ok (.iadd, 1) := by decide +kernel
theorem dX8_depend_63 : decode cX8_depend 63 = .ok (.iaload, 1) := by decide +kernel
theorem dX8_depend_64 : decode cX8_depend 64 = .ok (.iload_n 2, 1) := by decide +kernel
theorem dX8_depend_65 : decode cX8_depend 65 = .ok (.ishr, 1) := by decide +kernel
theorem dX8_depend_66 : decode cX8_depend 66 = .ok (.iconst 1, 1) := by decide +kernel
theorem dX8_depend_67 : decode cX8_depend 67 = .ok (.iand, 1) := by decide +kernel
theorem dX8_depend_68 : decode cX8_depend 68 = .ok (.iconst 1, 1) := by decide +kernel
theorem dX8_depend_69 : decode cX8_depend 69 = .ok (.if_icmp .ne 7, 3) := by decide +kernel
theorem dX8_depend_72 : decode cX8_depend 72 = .ok (.iconst 1, 1) := by decide +kernel
theorem dX8_depend_73 : decode cX8_depend 73 = .ok (.goto 4, 3) := by decide +kernel
theorem dX8_depend_76 : decode cX8_depend 76 = .ok (.iconst 0, 1) := by decide +kernel
theorem dX8_depend_77 : decode cX8_depend 77 = .ok (.iconst 2, 1) := by decide +kernel
theorem dX8_depend_78 : decode cX8_depend 78 = .ok (.invokevirtual 162, 3) := by decide +kernel
theorem dX8_depend_81 : decode cX8_depend 81 = .ok (.ifCond .ne 27, 3) := by decide +kernel
theorem dX8_depend_84 : decode cX8_depend 84 = .ok (.aload_n 0, 1) := by decide +kernel
theorem dX8_depend_85 : decode cX8_depend 85 = .ok (.aload_n 0, 1) := by decide +kernel
theorem dX8_depend_86 : decode cX8_depend 86 = .ok (.getfield 17, 3) := by decide +kernel
theorem dX8_depend_89 : decode cX8_depend 89 = .ok (.iload_n 3, 1) := by decide +kernel
theorem dX8_depend_90 : decode cX8_depend 90 = .ok (.iconst 4, 1) := by decide +kernel
theorem dX8_depend_91 : decode cX8_depend 91 = .ok (.iadd, 1) := by decide +kernel
theorem dX8_depend_92 : decode cX8_depend 92 = .ok (.iaload, 1) := by decide +kernel
theorem dX8_depend_93 : decode cX8_depend 93 = .ok (.ifCond .eq 7, 3) := by decide +kernel
theorem dX8_depend_96 : decode cX8_depend 96 = .ok (.iconst 1, 1) := by decide +kernel
theorem dX8_depend_97 : decode cX8_depend 97 = .ok (.goto 4, 3) := by decide +kernel
theorem dX8_depend_100 : decode cX8_depend 100 = .ok (.iconst 0, 1) := by decide +kernel
theorem dX8_depend_101 : decode cX8_depend 101 = .ok (.iconst 3, 1) := by decide +kernel
theorem dX8_depend_102 : decode cX8_depend 102 = .ok (.invokevirtual 162, 3) := by decide +kernel
theorem dX8_depend_105 : decode cX8_depend 105 = .ok (.ifCond .eq 5, 3) := by decide +kernel
theorem dX8_depend_108 : decode cX8_depend 108 = .ok (.iconst 0, 1) := by decide +kernel
theorem dX8_depend_109 : decode cX8_depend 109 = .ok (.ireturn, 1) := by decide +kernel
theorem dX8_depend_110 : decode cX8_depend 110 = .ok (.aload_n 0, 1) := by decide +kernel
theorem dX8_depend_111 : decode cX8_depend 111 = .ok (.invokevirtual 175, 3) := by decide +kernel
theorem dX8_depend_114 : decode cX8_depend 114 = .ok (.aload_n 0, 1) := by decide +kernel
theorem dX8_depend_115 : decode cX8_depend 115 = .ok (.getfield 17, 3) := by decide +kernel
theorem dX8_depend_118 : decode cX8_depend 118 = .ok (.iload_n 3, 1) := by decide +kernel
theorem dX8_depend_119 : decode cX8_depend 119 = .ok (.iconst 3, 1) := by decide +kernel
theorem dX8_depend_120 : decode cX8_depend 120 = .ok (.iadd, 1) := by decide +kernel
theorem dX8_depend_121 : decode cX8_depend 121 = .ok (.dup2, 1) := by decide +kernel
theorem dX8_depend_122 : decode cX8_depend 122 = .ok (.iaload, 1) := by decide +kernel
theorem dX8_depend_123 : decode cX8_depend 123 = .ok (.iconst 1, 1) := by decide +kernel
theorem dX8_depend_124 : decode cX8_depend 124 = .ok (.iload_n 2, 1) := by decide +kernel
theorem dX8_depend_125 : decode cX8_depend 125 = .ok (.ishl, 1) := by decide +kernel
theorem dX8_depend_126 : decode cX8_depend 126 = .ok (.ior, 1) := by decide +kernel
theorem dX8_depend_127 : decode cX8_depend 127 = .ok (.iastore, 1) := by decide +kernel
theorem dX8_depend_128 : decode cX8_depend 128 = .ok (.aload_n 0, 1) := by decide +kernel
theorem dX8_depend_129 : decode cX8_depend 129 = .ok (.getfield 17, 3) := by decide +kernel
theorem dX8_depend_132 : decode cX8_depend 132 = .ok (.iload_n 1, 1) := by decide +kernel
theorem dX8_depend_133 : decode cX8_depend 133 = .ok (.invokestatic 203, 3) := by decide +kernel
theorem dX8_depend_136 : decode cX8_depend 136 = .ok (.ireturn, 1) := by decide +kernel
theorem dX8_cancel_0 : decode cX8_cancel 0 = .ok (.aload_n 0, 1) := by decide +kernel
theorem dX8_cancel_1 : decode cX8_cancel 1 = .ok (.iconst 0, 1) := by decide +kernel
theorem dX8_cancel_2 : decode cX8_cancel 2 = .ok (.putfield 38, 3) := by decide +kernel
theorem dX8_cancel_5 : decode cX8_cancel 5 = .ok (.aload_n 0, 1) := by decide +kernel
theorem dX8_cancel_6 : decode cX8_cancel 6 = .ok (.iload_n 1, 1) := by decide +kernel
theorem dX8_cancel_7 : decode cX8_cancel 7 = .ok (.invokevirtual 227, 3) := by decide +kernel
theorem dX8_cancel_10 : decode cX8_cancel 10 = .ok (.ifCond .eq 5, 3) := by decide +kernel
theorem dX8_cancel_13 : decode cX8_cancel 13 = .ok (.iconst 0, 1) := by decide +kernel
theorem dX8_cancel_14 : decode cX8_cancel 14 = .ok (.ireturn, 1) := by decide +kernel
theorem dX8_cancel_15 : decode cX8_cancel 15 = .ok (.aload_n 0, 1) := by decide +kernel
theorem dX8_cancel_16 : decode cX8_cancel 16 = .ok (.getfield 17, 3) := by decide +kernel
theorem dX8_cancel_19 : decode cX8_cancel 19 = .ok (.iload_n 1, 1) := by decide +kernel
theorem dX8_cancel_20 : decode cX8_cancel 20 = .ok (.invokestatic 136, 3) := by decide +kernel
theorem dX8_cancel_23 : decode cX8_cancel 23 = .ok (.iconst 4, 1) := by decide +kernel
theorem dX8_cancel_24 : decode cX8_cancel 24 = .ok (.iadd, 1) := by decide +kernel
theorem dX8_cancel_25 : decode cX8_cancel 25 = .ok (.iaload, 1) := by decide +kernel
theorem dX8_cancel_26 : decode cX8_cancel 26 = .ok (.istore_n 2, 1) := by decide +kernel
theorem dX8_cancel_27 : decode cX8_cancel 27 = .ok (.aload_n 0, 1) := by decide +kernel
theorem dX8_cancel_28 : decode cX8_cancel 28 = .ok (.iload_n 2, 1) := by decide +kernel
theorem dX8_cancel_29 : decode cX8_cancel 29 = .ok (.iconst 3, 1) := by decide +kernel
theorem dX8_cancel_30 : decode cX8_cancel 30 = .ok (.if_icmp .lt 7, 3) := by decide +kernel
theorem dX8_cancel_33 : decode cX8_cancel 33 = .ok (.iconst 1, 1) := by decide +kernel
theorem dX8_cancel_34 : decode cX8_cancel 34 = .ok (.goto 4, 3) := by decide +kernel
theorem dX8_cancel_37 : decode cX8_cancel 37 = .ok (.iconst 0, 1) := by decide +kernel
theorem dX8_cancel_38 : decode cX8_cancel 38 = .ok (.iconst 2, 1) := by decide +kernel
theorem dX8_cancel_39 : decode cX8_cancel 39 = .ok (.invokevirtual 162, 3) := by decide +kernel
theorem dX8_cancel_42 : decode cX8_cancel 42 = .ok (.ifCond .eq 5, 3) := by decide +kernel
theorem dX8_cancel_45 : decode cX8_cancel 45 = .ok (.iconst 0, 1) := by decide +kernel
theorem dX8_cancel_46 : decode cX8_cancel 46 = .ok (.ireturn, 1) := by decide +kernel
theorem dX8_cancel_47 : decode cX8_cancel 47 = .ok (.aload_n 0, 1) := by decide +kernel
theorem dX8_cancel_48 : decode cX8_cancel 48 = .ok (.invokevirtual 175, 3) := by decide +kernel
theorem dX8_cancel_51 : decode cX8_cancel 51 = .ok (.iconst 0, 1) := by decide +kernel
theorem dX8_cancel_52 : decode cX8_cancel 52 = .ok (.istore_n 3, 1) := by decide +kernel
theorem dX8_cancel_53 : decode cX8_cancel 53 = .ok (.iload_n 3, 1) := by decide +kernel
theorem dX8_cancel_54 : decode cX8_cancel 54 = .ok (.aload_n 0, 1) := by decide +kernel
theorem dX8_cancel_55 : decode cX8_cancel 55 = .ok (.getfield 17, 3) := by decide +kernel
theorem dX8_cancel_58 : decode cX8_cancel 58 = .ok (.iconst 0, 1) := by decide +kernel
theorem dX8_cancel_59 : decode cX8_cancel 59 = .ok (.iaload, 1) := by decide +kernel
theorem dX8_cancel_60 : decode cX8_cancel 60 = .ok (.if_icmp .ge 69, 3) := by decide +kernel
theorem dX8_cancel_63 : decode cX8_cancel 63 = .ok (.iload_n 2, 1) := by decide +kernel
theorem dX8_cancel_64 : decode cX8_cancel 64 = .ok (.iconst 2, 1) := by decide +kernel
theorem dX8_cancel_65 : decode cX8_cancel 65 = .ok (.if_icmp .ne 64, 3) := by decide +kernel
theorem dX8_cancel_68 : decode cX8_cancel 68 = .ok (.aload_n 0, 1) := by decide +kernel
theorem dX8_cancel_69 : decode cX8_cancel 69 = .ok (.getfield 17, 3) := by decide +kernel
theorem dX8_cancel_72 : decode cX8_cancel 72 = .ok (.iload_n 3, 1) := by decide +kernel
theorem dX8_cancel_73 : decode cX8_cancel 73 = .ok (.invokestatic 41, 3) := by decide +kernel
theorem dX8_cancel_76 : decode cX8_cancel 76 = .ok (.iconst 4, 1) := by decide +kernel
theorem dX8_cancel_77 : decode cX8_cancel 77 = .ok (.iadd, 1) := by decide +kernel
theorem dX8_cancel_78 : decode cX8_cancel 78 = .ok (.iaload, 1) := by decide +kernel
theorem dX8_cancel_79 : decode cX8_cancel 79 = .ok (.iconst 1, 1) := by decide +kernel
theorem dX8_cancel_80 : decode cX8_cancel 80 = .ok (.isub, 1) := by decide +kernel
theorem dX8_cancel_81 : decode cX8_cancel 81 = .ok (.istore 4, 2) := by decide +kernel
theorem dX8_cancel_83 : decode cX8_cancel 83 = .ok (.iload 4, 2) := by decide +kernel
theorem dX8_cancel_85 : decode cX8_cancel 85 = .ok (.ifCond .lt 38, 3) := by decide +kernel
theorem dX8_cancel_88 : decode cX8_cancel 88 = .ok (.aload_n 0, 1) := by decide +kernel
theorem dX8_cancel_89 : decode cX8_cancel 89 = .ok (.getfield 17, 3) := by decide +kernel
theorem dX8_cancel_92 : decode cX8_cancel 92 = .ok (.iload_n 3, 1) := by decide +kernel
theorem dX8_cancel_93 : decode cX8_cancel 93 = .ok (.invokestatic 41, 3) := by decide +kernel
theorem dX8_cancel_96 : decode cX8_cancel 96 = .ok (.iconst 5, 1) := by decide +kernel
theorem dX8_cancel_97 : decode cX8_cancel 97 = .ok (.iadd, 1) := by decide +kernel
theorem dX8_cancel_98 : decode cX8_cancel 98 = .ok (.iload 4, 2) := by decide +kernel
theorem dX8_cancel_100 : decode cX8_cancel 100 = .ok (.iadd, 1) := by decide +kernel
theorem dX8_cancel_101 : decode cX8_cancel 101 = .ok (.iaload, 1) := by decide +kernel
theorem dX8_cancel_102 : decode cX8_cancel 102 = .ok (.iload_n 1, 1) := by decide +kernel
theorem dX8_cancel_103 : decode cX8_cancel 103 = .ok (.if_icmp .ne 14, 3) := by decide +kernel
theorem dX8_cancel_106 : decode cX8_cancel 106 = .ok (.aload_n 0, 1) := by decide +kernel
theorem dX8_cancel_107 : decode cX8_cancel 107 = .ok (.getfield 17, 3) := by decide +kernel
theorem dX8_cancel_110 : decode cX8_cancel 110 = .ok (.iload_n 3, 1) := by decide +kernel
theorem dX8_cancel_111 : decode cX8_cancel 111 = .ok (.iload 4, 2) := by decide +kernel
theorem dX8_cancel_113 : decode cX8_cancel 113 = .ok (.invokestatic 210, 3) := by decide +kernel
theorem dX8_cancel_116 : decode cX8_cancel 116 = .ok (.pop, 1) := by decide +kernel
theorem dX8_cancel_117 : decode cX8_cancel 117 = .ok (.iinc 4 (-1), 3) := by decide +kernel
theorem dX8_cancel_120 : decode cX8_cancel 120 = .ok (.goto (-37), 3) := by decide +kernel
theorem dX8_cancel_123 : decode cX8_cancel 123 = .ok (.iinc 3 1, 3) := by decide +kernel
theorem dX8_cancel_126 : decode cX8_cancel 126 = .ok (.goto (-73), 3) := by decide +kernel
theorem dX8_cancel_129 : decode cX8_cancel 129 = .ok (.aload_n 0, 1) := by decide +kernel
theorem dX8_cancel_130 : decode cX8_cancel 130 = .ok (.getfield 17, 3) := by decide +kernel
theorem dX8_cancel_133 : decode cX8_cancel 133 = .ok (.iload_n 1, 1) := by decide +kernel
theorem dX8_cancel_134 : decode cX8_cancel 134 = .ok (.invokestatic 136, 3) := by decide +kernel
theorem dX8_cancel_137 : decode cX8_cancel 137 = .ok (.iconst 4, 1) := by decide +kernel
theorem dX8_cancel_138 : decode cX8_cancel 138 = .ok (.iadd, 1) := by decide +kernel
theorem dX8_cancel_139 : decode cX8_cancel 139 = .ok (.iconst 5, 1) := by decide +kernel
theorem dX8_cancel_140 : decode cX8_cancel 140 = .ok (.iastore, 1) := by decide +kernel
theorem dX8_cancel_141 : decode cX8_cancel 141 = .ok (.iload_n 2, 1) := by decide +kernel
theorem dX8_cancel_142 : decode cX8_cancel 142 = .ok (.ireturn, 1) := by decide +kernel
theorem dX8_setPriority_0 : decode cX8_setPriority 0 = .ok (.aload_n 0, 1) := by decide +kernel
theorem dX8_setPriority_1 : decode cX8_setPriority 1 = .ok (.iconst 0, 1) := by decide +kernel
theorem dX8_setPriority_2 : decode cX8_setPriority 2 = .ok (.putfield 38, 3) := by decide +kernel
theorem dX8_setPriority_5 : decode cX8_setPriority 5 = .ok (.aload_n 0, 1) := by decide +kernel
theorem dX8_setPriority_6 : decode cX8_setPriority 6 = .ok (.iload_n 1, 1) := by decide +kernel
theorem dX8_setPriority_7 : decode cX8_setPriority 7 = .ok (.invokevirtual 227, 3) := by decide +kernel
theorem dX8_setPriority_10 : decode cX8_setPriority 10 = .ok (.ifCond .ne 26, 3) := by decide +kernel
theorem dX8_setPriority_13 : decode cX8_setPriority 13 = .ok (.aload_n 0, 1) := by decide +kernel
theorem dX8_setPriority_14 : decode cX8_setPriority 14 = .ok (.iload_n 2, 1) := by decide +kernel
theorem dX8_setPriority_15 : decode cX8_setPriority 15 = .ok (.iconst 0, 1) := by decide +kernel
theorem dX8_setPriority_16 : decode cX8_setPriority 16 = .ok (.bipush 9, 2) := by decide +kernel
theorem dX8_setPriority_18 : decode cX8_setPriority 18 = .ok (.invokestatic 63, 3) := by decide +kernel
theorem dX8_setPriority_21 : decode cX8_setPriority 21 = .ok (.ifCond .ne 7, 3) := by decide +kernel
theorem dX8_setPriority_24 : decode cX8_setPriority 24 = .ok (.iconst 1, 1) := by decide +kernel
theorem dX8_setPriority_25 : decode cX8_setPriority 25 = .ok (.goto 4, 3) := by decide +kernel
theorem dX8_setPriority_28 : decode cX8_setPriority 28 = .ok (.iconst 0, 1) := by decide +kernel
theorem dX8_setPriority_29 : decode cX8_setPriority 29 = .ok (.iconst 2, 1) := by decide +kernel
theorem dX8_setPriority_30 : decode cX8_setPriority 30 = .ok (.invokevirtual 162, 3) := by decide +kernel
theorem dX8_setPriority_33 : decode cX8_setPriority 33 = .ok (.ifCond .eq 5, 3) := by decide +kernel
theorem dX8_setPriority_36 : decode cX8_setPriority 36 = .ok (.iconst 0, 1) := by decide +kernel
theorem dX8_setPriority_37 : decode cX8_setPriority 37 = .ok (.ireturn, 1) := by decide +kernel
theorem dX8_setPriority_38 : decode cX8_setPriority 38 = .ok (.aload_n 0, 1) := by decide +kernel
theorem dX8_setPriority_39 : decode cX8_setPriority 39 = .ok (.invokevirtual 175, 3) := by decide +kernel
theorem dX8_setPriority_42 : decode cX8_setPriority 42 = .ok (.aload_n 0, 1) := by decide +kernel
theorem dX8_setPriority_43 : decode cX8_setPriority 43 = .ok (.getfield 17, 3) := by decide +kernel
theorem dX8_setPriority_46 : decode cX8_setPriority 46 = .ok (.iload_n 1, 1) := by decide +kernel
theorem dX8_setPriority_47 : decode cX8_setPriority 47 = .ok (.invokestatic 136, 3) := by decide +kernel
theorem dX8_setPriority_50 : decode cX8_setPriority 50 = .ok (.iconst 1, 1) := by decide +kernel
theorem dX8_setPriority_51 : decode cX8_setPriority 51 = .ok (.iadd, 1) := by decide +kernel
theorem dX8_setPriority_52 : decode cX8_setPriority 52 = .ok (.iaload, 1) := by decide +kernel
theorem dX8_setPriority_53 : decode cX8_setPriority 53 = .ok (.istore_n 3, 1) := by decide +kernel
theorem dX8_setPriority_54 : decode cX8_setPriority 54 = .ok (.aload_n 0, 1) := by decide +kernel
theorem dX8_setPriority_55 : decode cX8_setPriority 55 = .ok (.getfield 17, 3) := by decide +kernel
theorem dX8_setPriority_58 : decode cX8_setPriority 58 = .ok (.iload_n 1, 1) := by decide +kernel
theorem dX8_setPriority_59 : decode cX8_setPriority 59 = .ok (.invokestatic 136, 3) := by decide +kernel
theorem dX8_setPriority_62 : decode cX8_setPriority 62 = .ok (.iconst 1, 1) := by decide +kernel
theorem dX8_setPriority_63 : decode cX8_setPriority 63 = .ok (.iadd, 1) := by decide +kernel
theorem dX8_setPriority_64 : decode cX8_setPriority 64 = .ok (.iload_n 2, 1) := by decide +kernel
theorem dX8_setPriority_65 : decode cX8_setPriority 65 = .ok (.iastore, 1) := by decide +kernel
theorem dX8_setPriority_66 : decode cX8_setPriority 66 = .ok (.iload_n 3, 1) := by decide +kernel
theorem dX8_setPriority_67 : decode cX8_setPriority 67 = .ok (.ireturn, 1) := by decide +kernel
theorem dX8_pause_0 : decode cX8_pause 0 = .ok (.aload_n 0, 1) := by decide +kernel
theorem dX8_pause_1 : decode cX8_pause 1 = .ok (.iconst 0, 1) := by decide +kernel
theorem dX8_pause_2 : decode cX8_pause 2 = .ok (.putfield 38, 3) := by decide +kernel
theorem dX8_pause_5 : decode cX8_pause 5 = .ok (.aload_n 0, 1) := by decide +kernel
theorem dX8_pause_6 : decode cX8_pause 6 = .ok (.iload_n 1, 1) := by decide +kernel
theorem dX8_pause_7 : decode cX8_pause 7 = .ok (.invokevirtual 230, 3) := by decide +kernel
theorem dX8_pause_10 : decode cX8_pause 10 = .ok (.ifCond .eq 5, 3) := by decide +kernel
theorem dX8_pause_13 : decode cX8_pause 13 = .ok (.iconst 0, 1) := by decide +kernel
theorem dX8_pause_14 : decode cX8_pause 14 = .ok (.ireturn, 1) := by decide +kernel
theorem dX8_pause_15 : decode cX8_pause 15 = .ok (.aload_n 0, 1) := by decide +kernel
theorem dX8_pause_16 : decode cX8_pause 16 = .ok (.invokevirtual 175, 3) := by decide +kernel
theorem dX8_pause_19 : decode cX8_pause 19 = .ok (.aload_n 0, 1) := by decide +kernel
theorem dX8_pause_20 : decode cX8_pause 20 = .ok (.getfield 17, 3) := by decide +kernel
theorem dX8_pause_23 : decode cX8_pause 23 = .ok (.iload_n 1, 1) := by decide +kernel
theorem dX8_pause_24 : decode cX8_pause 24 = .ok (.invokestatic 41, 3) := by decide +kernel
theorem dX8_pause_27 : decode cX8_pause 27 = .ok (.iconst 3, 1) := by decide +kernel
theorem dX8_pause_28 : decode cX8_pause 28 = .ok (.iadd, 1) := by decide +kernel
theorem dX8_pause_29 : decode cX8_pause 29 = .ok (.iaload, 1) := by decide +kernel
theorem dX8_pause_30 : decode cX8_pause 30 = .ok (.iconst 1, 1) := by decide +kernel
theorem dX8_pause_31 : decode cX8_pause 31 = .ok (.if_icmp .ne 7, 3) := by decide +kernel
theorem dX8_pause_34 : decode cX8_pause 34 = .ok (.iconst 1, 1) := by decide +kernel
theorem dX8_pause_35 : decode cX8_pause 35 = .ok (.goto 4, 3) := by decide +kernel
theorem dX8_pause_38 : decode cX8_pause 38 = .ok (.iconst 0, 1) := by decide +kernel
theorem dX8_pause_39 : decode cX8_pause 39 = .ok (.istore_n 3, 1) := by decide +kernel
theorem dX8_pause_40 : decode cX8_pause 40 = .ok (.aload_n 0, 1) := by decide +kernel
theorem dX8_pause_41 : decode cX8_pause 41 = .ok (.getfield 17, 3) := by decide +kernel
theorem dX8_pause_44 : decode cX8_pause 44 = .ok (.iload_n 1, 1) := by decide +kernel
theorem dX8_pause_45 : decode cX8_pause 45 = .ok (.invokestatic 41, 3) := by decide +kernel
theorem dX8_pause_48 : decode cX8_pause 48 = .ok (.iconst 3, 1) := by decide +kernel
theorem dX8_pause_49 : decode cX8_pause 49 = .ok (.iadd, 1) := by decide +kernel
theorem dX8_pause_50 : decode cX8_pause 50 = .ok (.iload_n 2, 1) := by decide +kernel
theorem dX8_pause_51 : decode cX8_pause 51 = .ok (.ifCond .eq 7, 3) := by decide +kernel
theorem dX8_pause_54 : decode cX8_pause 54 = .ok (.iconst 1, 1) := by decide +kernel
theorem dX8_pause_55 : decode cX8_pause 55 = .ok (.goto 4, 3) := by decide +kernel
theorem dX8_pause_58 : decode cX8_pause 58 = .ok (.iconst 0, 1) := by decide +kernel
theorem dX8_pause_59 : decode cX8_pause 59 = .ok (.iastore, 1) := by decide +kernel
theorem dX8_pause_60 : decode cX8_pause 60 = .ok (.iload_n 3, 1) := by decide +kernel
theorem dX8_pause_61 : decode cX8_pause 61 = .ok (.ireturn, 1) := by decide +kernel
theorem dX8_undo_0 : decode cX8_undo 0 = .ok (.aload_n 0, 1) := by decide +kernel
theorem dX8_undo_1 : decode cX8_undo 1 = .ok (.iconst 0, 1) := by decide +kernel
theorem dX8_undo_2 : decode cX8_undo 2 = .ok (.putfield 38, 3) := by decide +kernel
theorem dX8_undo_5 : decode cX8_undo 5 = .ok (.aload_n 0, 1) := by decide +kernel
theorem dX8_undo_6 : decode cX8_undo 6 = .ok (.getfield 252, 3) := by decide +kernel
theorem dX8_undo_9 : decode cX8_undo 9 = .ok (.ifCond .ne 5, 3) := by decide +kernel
theorem dX8_undo_12 : decode cX8_undo 12 = .ok (.iconst (-1), 1) := by decide +kernel
theorem dX8_undo_13 : decode cX8_undo 13 = .ok (.ireturn, 1) := by decide +kernel
theorem dX8_undo_14 : decode cX8_undo 14 = .ok (.aload_n 0, 1) := by decide +kernel
theorem dX8_undo_15 : decode cX8_undo 15 = .ok (.dup, 1) := by decide +kernel
theorem dX8_undo_16 : decode cX8_undo 16 = .ok (.getfield 252, 3) := by decide +kernel
theorem dX8_undo_19 : decode cX8_undo 19 = .ok (.iconst 1, 1) := by decide +kernel
theorem dX8_undo_20 : decode cX8_undo 20 = .ok (.isub, 1) := by decide +kernel
theorem dX8_undo_21 : decode cX8_undo 21 = .ok (.putfield 252, 3) := by decide +kernel
theorem dX8_undo_24 : decode cX8_undo 24 = .ok (.aload_n 0, 1) := by decide +kernel
theorem dX8_undo_25 : decode cX8_undo 25 = .ok (.getfield 28, 3) := by decide +kernel
theorem dX8_undo_28 : decode cX8_undo 28 = .ok (.aload_n 0, 1) := by decide +kernel
theorem dX8_undo_29 : decode cX8_undo 29 = .ok (.getfield 252, 3) := by decide +kernel
theorem dX8_undo_32 : decode cX8_undo 32 = .ok (.aaload, 1) := by decide +kernel
theorem dX8_undo_33 : decode cX8_undo 33 = .ok (.aload_n 0, 1) := by decide +kernel
theorem dX8_undo_34 : decode cX8_undo 34 = .ok (.getfield 17, 3) := by decide +kernel
theorem dX8_undo_37 : decode cX8_undo 37 = .ok (.invokestatic 178, 3) := by decide +kernel
theorem dX8_undo_40 : decode cX8_undo 40 = .ok (.aload_n 0, 1) := by decide +kernel
theorem dX8_undo_41 : decode cX8_undo 41 = .ok (.getfield 252, 3) := by decide +kernel
theorem dX8_undo_44 : decode cX8_undo 44 = .ok (.ireturn, 1) := by decide +kernel
theorem dX8_checksum_0 : decode cX8_checksum 0 = .ok (.aload_n 0, 1) := by decide +kernel
theorem dX8_checksum_1 : decode cX8_checksum 1 = .ok (.iconst 0, 1) := by decide +kernel
theorem dX8_checksum_2 : decode cX8_checksum 2 = .ok (.putfield 38, 3) := by decide +kernel
theorem dX8_checksum_5 : decode cX8_checksum 5 = .ok (.ldc2_w 256, 3) := by decide +kernel
theorem dX8_checksum_8 : decode cX8_checksum 8 = .ok (.aload_n 0, 1) := by decide +kernel
theorem dX8_checksum_9 : decode cX8_checksum 9 = .ok (.getfield 17, 3) := by decide +kernel
theorem dX8_checksum_12 : decode cX8_checksum 12 = .ok (.iconst 5, 1) := by decide +kernel
theorem dX8_checksum_13 : decode cX8_checksum 13 = .ok (.iaload, 1) := by decide +kernel
theorem dX8_checksum_14 : decode cX8_checksum 14 = .ok (.i2l, 1) := by decide +kernel
theorem dX8_checksum_15 : decode cX8_checksum 15 = .ok (.lmul, 1) := by decide +kernel
theorem dX8_checksum_16 : decode cX8_checksum 16 = .ok (.aload_n 0, 1) := by decide +kernel
theorem dX8_checksum_17 : decode cX8_checksum 17 = .ok (.getfield 17, 3) := by decide +kernel
theorem dX8_checksum_20 : decode cX8_checksum 20 = .ok (.invokestatic 236, 3) := by decide +kernel
theorem dX8_checksum_23 : decode cX8_checksum 23 = .ok (.i2l, 1) := by decide +kernel
theorem dX8_checksum_24 : decode cX8_checksum 24 = .ok (.ladd, 1) := by decide +kernel
theorem dX8_checksum_25 : decode cX8_checksum 25 = .ok (.lstore_n 1, 1) := by decide +kernel
theorem dX8_checksum_26 : decode cX8_checksum 26 = .ok (.iconst 0, 1) := by decide +kernel
theorem dX8_checksum_27 : decode cX8_checksum 27 = .ok (.istore_n 3, 1) := by decide +kernel
theorem dX8_checksum_28 : decode cX8_checksum 28 = .ok (.iload_n 3, 1) := by decide +kernel
theorem dX8_checksum_29 : decode cX8_checksum 29 = .ok (.aload_n 0, 1) := by decide +kernel
theorem dX8_checksum_30 : decode cX8_checksum 30 = .ok (.getfield 17, 3) := by decide +kernel
theorem dX8_checksum_33 : decode cX8_checksum 33 = .ok (.iconst 3, 1) := by decide +kernel
theorem dX8_checksum_34 : decode cX8_checksum 34 = .ok (.iaload, 1) := by decide +kernel
theorem dX8_checksum_35 : decode cX8_checksum 35 = .ok (.if_icmp .ge 63, 3) := by decide +kernel
theorem dX8_checksum_38 : decode cX8_checksum 38 = .ok (.ldc2_w 256, 3) := by decide +kernel
theorem dX8_checksum_41 : decode cX8_checksum 41 = .ok (.lload_n 1, 1) := by decide +kernel
theorem dX8_checksum_42 : decode cX8_checksum 42 = .ok (.lmul, 1) := by decide +kernel
theorem dX8_checksum_43 : decode cX8_checksum 43 = .ok (.aload_n 0, 1) := by decide +kernel
theorem dX8_checksum_44 : decode cX8_checksum 44 = .ok (.getfield 17, 3) := by decide +kernel
theorem dX8_checksum_47 : decode cX8_checksum 47 = .ok (.iload_n 3, 1) := by decide +kernel
theorem dX8_checksum_48 : decode cX8_checksum 48 = .ok (.invokestatic 136, 3) := by decide +kernel
theorem dX8_checksum_51 : decode cX8_checksum 51 = .ok (.iconst 4, 1) := by decide +kernel
theorem dX8_checksum_52 : decode cX8_checksum 52 = .ok (.iadd, 1) := by decide +kernel
theorem dX8_checksum_53 : decode cX8_checksum 53 = .ok (.iaload, 1) := by decide +kernel
theorem dX8_checksum_54 : decode cX8_checksum 54 = .ok (.i2l, 1) := by decide +kernel
theorem dX8_checksum_55 : decode cX8_checksum 55 = .ok (.ladd, 1) := by decide +kernel
theorem dX8_checksum_56 : decode cX8_checksum 56 = .ok (.lstore_n 1, 1) := by decide +kernel
theorem dX8_checksum_57 : decode cX8_checksum 57 = .ok (.ldc2_w 256, 3) := by decide +kernel
theorem dX8_checksum_60 : decode cX8_checksum 60 = .ok (.lload_n 1, 1) := by decide +kernel
theorem dX8_checksum_61 : decode cX8_checksum 61 = .ok (.lmul, 1) := by decide +kernel
theorem dX8_checksum_62 : decode cX8_checksum 62 = .ok (.aload_n 0, 1) := by decide +kernel
theorem dX8_checksum_63 : decode cX8_checksum 63 = .ok (.getfield 17, 3) := by decide +kernel
theorem dX8_checksum_66 : decode cX8_checksum 66 = .ok (.iload_n 3, 1) := by decide +kernel
theorem dX8_checksum_67 : decode cX8_checksum 67 = .ok (.invokestatic 136, 3) := by decide +kernel
theorem dX8_checksum_70 : decode cX8_checksum 70 = .ok (.iconst 1, 1) := by decide +kernel
theorem dX8_checksum_71 : decode cX8_checksum 71 = .ok (.iadd, 1) := by decide +kernel
theorem dX8_checksum_72 : decode cX8_checksum 72 = .ok (.iaload, 1) := by decide +kernel
theorem dX8_checksum_73 : decode cX8_checksum 73 = .ok (.i2l, 1) := by decide +kernel
theorem dX8_checksum_74 : decode cX8_checksum 74 = .ok (.ladd, 1) := by decide +kernel
theorem dX8_checksum_75 : decode cX8_checksum 75 = .ok (.lstore_n 1, 1) := by decide +kernel
theorem dX8_checksum_76 : decode cX8_checksum 76 = .ok (.ldc2_w 256, 3) := by decide +kernel
theorem dX8_checksum_79 : decode cX8_checksum 79 = .ok (.lload_n 1, 1) := by decide +kernel
theorem dX8_checksum_80 : decode cX8_checksum 80 = .ok (.lmul, 1) := by decide +kernel
theorem dX8_checksum_81 : decode cX8_checksum 81 = .ok (.aload_n 0, 1) := by decide +kernel
theorem dX8_checksum_82 : decode cX8_checksum 82 = .ok (.getfield 17, 3) := by decide +kernel
theorem dX8_checksum_85 : decode cX8_checksum 85 = .ok (.iload_n 3, 1) := by decide +kernel
theorem dX8_checksum_86 : decode cX8_checksum 86 = .ok (.invokestatic 203, 3) := by decide +kernel
theorem dX8_checksum_89 : decode cX8_checksum 89 = .ok (.i2l, 1) := by decide +kernel
theorem dX8_checksum_90 : decode cX8_checksum 90 = .ok (.ladd, 1) := by decide +kernel
theorem dX8_checksum_91 : decode cX8_checksum 91 = .ok (.lstore_n 1, 1) := by decide +kernel
theorem dX8_checksum_92 : decode cX8_checksum 92 = .ok (.iinc 3 1, 3) := by decide +kernel
theorem dX8_checksum_95 : decode cX8_checksum 95 = .ok (.goto (-67), 3) := by decide +kernel
theorem dX8_checksum_98 : decode cX8_checksum 98 = .ok (.iconst 0, 1) := by decide +kernel
theorem dX8_checksum_99 : decode cX8_checksum 99 = .ok (.istore_n 3, 1) := by decide +kernel
theorem dX8_checksum_100 : decode cX8_checksum 100 = .ok (.iload_n 3, 1) := by decide +kernel
theorem dX8_checksum_101 : decode cX8_checksum 101 = .ok (.aload_n 0, 1) := by decide +kernel
theorem dX8_checksum_102 : decode cX8_checksum 102 = .ok (.getfield 17, 3) := by decide +kernel
theorem dX8_checksum_105 : decode cX8_checksum 105 = .ok (.iconst 0, 1) := by decide +kernel
theorem dX8_checksum_106 : decode cX8_checksum 106 = .ok (.iaload, 1) := by decide +kernel
theorem dX8_checksum_107 : decode cX8_checksum 107 = .ok (.if_icmp .ge 126, 3) := by decide +kernel
theorem dX8_checksum_110 : decode cX8_checksum 110 = .ok (.iconst 0, 1) := by decide +kernel
theorem dX8_checksum_111 : decode cX8_checksum 111 = .ok (.istore 4, 2) := by decide +kernel
theorem dX8_checksum_113 : decode cX8_checksum 113 = .ok (.iload 4, 2) := by decide +kernel
theorem dX8_checksum_115 : decode cX8_checksum 115 = .ok (.aload_n 0, 1) := by decide +kernel
theorem dX8_checksum_116 : decode cX8_checksum 116 = .ok (.getfield 17, 3) := by decide +kernel
theorem dX8_checksum_119 : decode cX8_checksum 119 = .ok (.iload_n 3, 1) := by decide +kernel
theorem dX8_checksum_120 : decode cX8_checksum 120 = .ok (.invokestatic 41, 3) := by decide +kernel
theorem dX8_checksum_123 : decode cX8_checksum 123 = .ok (.iconst 4, 1) := by decide +kernel
theorem dX8_checksum_124 : decode cX8_checksum 124 = .ok (.iadd, 1) := by decide +kernel
theorem dX8_checksum_125 : decode cX8_checksum 125 = .ok (.iaload, 1) := by decide +kernel
theorem dX8_checksum_126 : decode cX8_checksum 126 = .ok (.if_icmp .ge 31, 3) := by decide +kernel
theorem dX8_checksum_129 : decode cX8_checksum 129 = .ok (.ldc2_w 256, 3) := by decide +kernel
theorem dX8_checksum_132 : decode cX8_checksum 132 = .ok (.lload_n 1, 1) := by decide +kernel
theorem dX8_checksum_133 : decode cX8_checksum 133 = .ok (.lmul, 1) := by decide +kernel
theorem dX8_checksum_134 : decode cX8_checksum 134 = .ok (.aload_n 0, 1) := by decide +kernel
theorem dX8_checksum_135 : decode cX8_checksum 135 = .ok (.getfield 17, 3) := by decide +kernel
theorem dX8_checksum_138 : decode cX8_checksum 138 = .ok (.iload_n 3, 1) := by decide +kernel
theorem dX8_checksum_139 : decode cX8_checksum 139 = .ok (.invokestatic 41, 3) := by decide +kernel
theorem dX8_checksum_142 : decode cX8_checksum 142 = .ok (.iconst 5, 1) := by decide +kernel
theorem dX8_checksum_143 : decode cX8_checksum 143 = .ok (.iadd, 1) := by decide +kernel
theorem dX8_checksum_144 : decode cX8_checksum 144 = .ok (.iload 4, 2) := by decide +kernel
theorem dX8_checksum_146 : decode cX8_checksum 146 = .ok (.iadd, 1) := by decide +kernel
theorem dX8_checksum_147 : decode cX8_checksum 147 = .ok (.iaload, 1) := by decide +kernel
theorem dX8_checksum_148 : decode cX8_checksum 148 = .ok (.i2l, 1) := by decide +kernel
theorem dX8_checksum_149 : decode cX8_checksum 149 = .ok (.ladd, 1) := by decide +kernel
theorem dX8_checksum_150 : decode cX8_checksum 150 = .ok (.lstore_n 1, 1) := by decide +kernel
theorem dX8_checksum_151 : decode cX8_checksum 151 = .ok (.iinc 4 1, 3) := by decide +kernel
theorem dX8_checksum_154 : decode cX8_checksum 154 = .ok (.goto (-41), 3) := by decide +kernel
theorem dX8_checksum_157 : decode cX8_checksum 157 = .ok (.ldc2_w 256, 3) := by decide +kernel
theorem dX8_checksum_160 : decode cX8_checksum 160 = .ok (.lload_n 1, 1) := by decide +kernel
theorem dX8_checksum_161 : decode cX8_checksum 161 = .ok (.lmul, 1) := by decide +kernel
theorem dX8_checksum_162 : decode cX8_checksum 162 = .ok (.aload_n 0, 1) := by decide +kernel
theorem dX8_checksum_163 : decode cX8_checksum 163 = .ok (.getfield 17, 3) := by decide +kernel
theorem dX8_checksum_166 : decode cX8_checksum 166 = .ok (.iload_n 3, 1) := by decide +kernel
theorem dX8_checksum_167 : decode cX8_checksum 167 = .ok (.invokestatic 41, 3) := by decide +kernel
theorem dX8_checksum_170 : decode cX8_checksum 170 = .ok (.iconst 0, 1) := by decide +kernel
theorem dX8_checksum_171 : decode cX8_checksum 171 = .ok (.iadd, 1) := by decide +kernel
theorem dX8_checksum_172 : decode cX8_checksum 172 = .ok (.iaload, 1) := by decide +kernel
theorem dX8_checksum_173 : decode cX8_checksum 173 = .ok (.i2l, 1) := by decide +kernel
theorem dX8_checksum_174 : decode cX8_checksum 174 = .ok (.ladd, 1) := by decide +kernel
theorem dX8_checksum_175 : decode cX8_checksum 175 = .ok (.lstore_n 1, 1) := by decide +kernel
theorem dX8_checksum_176 : decode cX8_checksum 176 = .ok (.ldc2_w 256, 3) := by decide +kernel
theorem dX8_checksum_179 : decode cX8_checksum 179 = .ok (.lload_n 1, 1) := by decide +kernel
theorem dX8_checksum_180 : decode cX8_checksum 180 = .ok (.lmul, 1) := by decide +kernel
theorem dX8_checksum_181 : decode cX8_checksum 181 = .ok (.aload_n 0, 1) := by decide +kernel
theorem dX8_checksum_182 : decode cX8_checksum 182 = .ok (.iload_n 3, 1) := by decide +kernel
theorem dX8_checksum_183 : decode cX8_checksum 183 = .ok (.invokevirtual 233, 3) := by decide +kernel
theorem dX8_checksum_186 : decode cX8_checksum 186 = .ok (.i2l, 1) := by decide +kernel
theorem dX8_checksum_187 : decode cX8_checksum 187 = .ok (.ladd, 1) := by decide +kernel
theorem dX8_checksum_188 : decode cX8_checksum 188 = .ok (.lstore_n 1, 1) := by decide +kernel
theorem dX8_checksum_189 : decode cX8_checksum 189 = .ok (.ldc2_w 256, 3) := by decide +kernel
theorem dX8_checksum_192 : decode cX8_checksum 192 = .ok (.lload_n 1, 1) := by decide +kernel
theorem dX8_checksum_193 : decode cX8_checksum 193 = .ok (.lmul, 1) := by decide +kernel
theorem dX8_checksum_194 : decode cX8_checksum 194 = .ok (.aload_n 0, 1) := by decide +kernel
theorem dX8_checksum_195 : decode cX8_checksum 195 = .ok (.getfield 17, 3) := by decide +kernel
theorem dX8_checksum_198 : decode cX8_checksum 198 = .ok (.iload_n 3, 1) := by decide +kernel
theorem dX8_checksum_199 : decode cX8_checksum 199 = .ok (.invokestatic 41, 3) := by decide +kernel
theorem dX8_checksum_202 : decode cX8_checksum 202 = .ok (.iconst 1, 1) := by decide +kernel
theorem dX8_checksum_203 : decode cX8_checksum 203 = .ok (.iadd, 1) := by decide +kernel
theorem dX8_checksum_204 : decode cX8_checksum 204 = .ok (.iaload, 1) := by decide +kernel
theorem dX8_checksum_205 : decode cX8_checksum 205 = .ok (.i2l, 1) := by decide +kernel
theorem dX8_checksum_206 : decode cX8_checksum 206 = .ok (.ladd, 1) := by decide +kernel
theorem dX8_checksum_207 : decode cX8_checksum 207 = .ok (.lstore_n 1, 1) := by decide +kernel
theorem dX8_checksum_208 : decode cX8_checksum 208 = .ok (.ldc2_w 256, 3) := by decide +kernel
theorem dX8_checksum_211 : decode cX8_checksum 211 = .ok (.lload_n 1, 1) := by decide +kernel
theorem dX8_checksum_212 : decode cX8_checksum 212 = .ok (.lmul, 1) := by decide +kernel
theorem dX8_checksum_213 : decode cX8_checksum 213 = .ok (.aload_n 0, 1) := by decide +kernel
theorem dX8_checksum_214 : decode cX8_checksum 214 = .ok (.getfield 17, 3) := by decide +kernel
theorem dX8_checksum_217 : decode cX8_checksum 217 = .ok (.iload_n 3, 1) := by decide +kernel
theorem dX8_checksum_218 : decode cX8_checksum 218 = .ok (.invokestatic 41, 3) := by decide +kernel
theorem dX8_checksum_221 : decode cX8_checksum 221 = .ok (.iconst 2, 1) := by decide +kernel
theorem dX8_checksum_222 : decode cX8_checksum 222 = .ok (.iadd, 1) := by decide +kernel
theorem dX8_checksum_223 : decode cX8_checksum 223 = .ok (.iaload, 1) := by decide +kernel
theorem dX8_checksum_224 : decode cX8_checksum 224 = .ok (.i2l, 1) := by decide +kernel
theorem dX8_checksum_225 : decode cX8_checksum 225 = .ok (.ladd, 1) := by decide +kernel
theorem dX8_checksum_226 : decode cX8_checksum 226 = .ok (.lstore_n 1, 1) := by decide +kernel
theorem dX8_checksum_227 : decode cX8_checksum 227 = .ok (.iinc 3 1, 3) := by decide +kernel
theorem dX8_checksum_230 : decode cX8_checksum 230 = .ok (.goto (-130), 3) := by decide +kernel
theorem dX8_checksum_233 : decode cX8_checksum 233 = .ok (.lload_n 1, 1) := by decide +kernel
theorem dX8_checksum_234 : decode cX8_checksum 234 = .ok (.lreturn, 1) := by decide +kernel
theorem dJ6_bitCount_0f7a4_0 : decode cJ6_bitCount_0f7a4 0 = .ok (.iload_n 0, 1) := by decide +kernel
theorem dJ6_bitCount_0f7a4_1 : decode cJ6_bitCount_0f7a4 1 = .ok (.iload_n 0, 1) := by decide +kernel
theorem dJ6_bitCount_0f7a4_2 : decode cJ6_bitCount_0f7a4 2 = .ok (.iconst 1, 1) := by decide +kernel
theorem dJ6_bitCount_0f7a4_3 : decode cJ6_bitCount_0f7a4 3 = .ok (.iushr, 1) := by decide +kernel
theorem dJ6_bitCount_0f7a4_4 : decode cJ6_bitCount_0f7a4 4 = .ok (.ldc_w 265, 3) := by decide +kernel
theorem dJ6_bitCount_0f7a4_7 : decode cJ6_bitCount_0f7a4 7 = .ok (.iand, 1) := by decide +kernel
theorem dJ6_bitCount_0f7a4_8 : decode cJ6_bitCount_0f7a4 8 = .ok (.isub, 1) := by decide +kernel
theorem dJ6_bitCount_0f7a4_9 : decode cJ6_bitCount_0f7a4 9 = .ok (.istore_n 0, 1) := by decide +kernel
theorem dJ6_bitCount_0f7a4_10 : decode cJ6_bitCount_0f7a4 10 = .ok (.iload_n 0, 1) := by decide +kernel
theorem dJ6_bitCount_0f7a4_11 : decode cJ6_bitCount_0f7a4 11 = .ok (.ldc_w 266, 3) := by decide +kernel
theorem dJ6_bitCount_0f7a4_14 : decode cJ6_bitCount_0f7a4 14 = .ok (.iand, 1) := by decide +kernel
theorem dJ6_bitCount_0f7a4_15 : decode cJ6_bitCount_0f7a4 15 = .ok (.iload_n 0, 1) := by decide +kernel
theorem dJ6_bitCount_0f7a4_16 : decode cJ6_bitCount_0f7a4 16 = .ok (.iconst 2, 1) := by decide +kernel
theorem dJ6_bitCount_0f7a4_17 : decode cJ6_bitCount_0f7a4 17 = .ok (.iushr, 1) := by decide +kernel
theorem dJ6_bitCount_0f7a4_18 : decode cJ6_bitCount_0f7a4 18 = .ok (.ldc_w 266, 3) := by decide +kernel
theorem dJ6_bitCount_0f7a4_21 : decode cJ6_bitCount_0f7a4 21 = .ok (.iand, 1) := by decide +kernel
theorem dJ6_bitCount_0f7a4_22 : decode cJ6_bitCount_0f7a4 22 = .ok (.iadd, 1) := by decide +kernel
theorem dJ6_bitCount_0f7a4_23 : decode cJ6_bitCount_0f7a4 23 = .ok (.istore_n 0, 1) := by decide +kernel
theorem dJ6_bitCount_0f7a4_24 : decode cJ6_bitCount_0f7a4 24 = .ok (.iload_n 0, 1) := by decide +kernel
theorem dJ6_bitCount_0f7a4_25 : decode cJ6_bitCount_0f7a4 25 = .ok (.iload_n 0, 1) := by decide +kernel
theorem dJ6_bitCount_0f7a4_26 : decode cJ6_bitCount_0f7a4 26 = .ok (.iconst 4, 1) := by decide +kernel
theorem dJ6_bitCount_0f7a4_27 : decode cJ6_bitCount_0f7a4 27 = .ok (.iushr, 1) := by decide +kernel
theorem dJ6_bitCount_0f7a4_28 : decode cJ6_bitCount_0f7a4 28 = .ok (.iadd, 1) := by decide +kernel
theorem dJ6_bitCount_0f7a4_29 : decode cJ6_bitCount_0f7a4 29 = .ok (.ldc_w 267, 3) := by decide +kernel
theorem dJ6_bitCount_0f7a4_32 : decode cJ6_bitCount_0f7a4 32 = .ok (.iand, 1) := by decide +kernel
theorem dJ6_bitCount_0f7a4_33 : decode cJ6_bitCount_0f7a4 33 = .ok (.istore_n 0, 1) := by decide +kernel
theorem dJ6_bitCount_0f7a4_34 : decode cJ6_bitCount_0f7a4 34 = .ok (.iload_n 0, 1) := by decide +kernel
theorem dJ6_bitCount_0f7a4_35 : decode cJ6_bitCount_0f7a4 35 = .ok (.iload_n 0, 1) := by decide +kernel
theorem dJ6_bitCount_0f7a4_36 : decode cJ6_bitCount_0f7a4 36 = .ok (.bipush 8, 2) := by decide +kernel
theorem dJ6_bitCount_0f7a4_38 : decode cJ6_bitCount_0f7a4 38 = .ok (.iushr, 1) := by decide +kernel
theorem dJ6_bitCount_0f7a4_39 : decode cJ6_bitCount_0f7a4 39 = .ok (.iadd, 1) := by decide +kernel
theorem dJ6_bitCount_0f7a4_40 : decode cJ6_bitCount_0f7a4 40 = .ok (.istore_n 0, 1) := by decide +kernel
theorem dJ6_bitCount_0f7a4_41 : decode cJ6_bitCount_0f7a4 41 = .ok (.iload_n 0, 1) := by decide +kernel
theorem dJ6_bitCount_0f7a4_42 : decode cJ6_bitCount_0f7a4 42 = .ok (.iload_n 0, 1) := by decide +kernel
theorem dJ6_bitCount_0f7a4_43 : decode cJ6_bitCount_0f7a4 43 = .ok (.bipush 16, 2) := by decide +kernel
theorem dJ6_bitCount_0f7a4_45 : decode cJ6_bitCount_0f7a4 45 = .ok (.iushr, 1) := by decide +kernel
theorem dJ6_bitCount_0f7a4_46 : decode cJ6_bitCount_0f7a4 46 = .ok (.iadd, 1) := by decide +kernel
theorem dJ6_bitCount_0f7a4_47 : decode cJ6_bitCount_0f7a4 47 = .ok (.istore_n 0, 1) := by decide +kernel
theorem dJ6_bitCount_0f7a4_48 : decode cJ6_bitCount_0f7a4 48 = .ok (.iload_n 0, 1) := by decide +kernel
theorem dJ6_bitCount_0f7a4_49 : decode cJ6_bitCount_0f7a4 49 = .ok (.bipush 63, 2) := by decide +kernel
theorem dJ6_bitCount_0f7a4_51 : decode cJ6_bitCount_0f7a4 51 = .ok (.iand, 1) := by decide +kernel
theorem dJ6_bitCount_0f7a4_52 : decode cJ6_bitCount_0f7a4 52 = .ok (.ireturn, 1) := by decide +kernel
theorem dJ9_max_7cf53_0 : decode cJ9_max_7cf53 0 = .ok (.iload_n 0, 1) := by decide +kernel
theorem dJ9_max_7cf53_1 : decode cJ9_max_7cf53 1 = .ok (.iload_n 1, 1) := by decide +kernel
theorem dJ9_max_7cf53_2 : decode cJ9_max_7cf53 2 = .ok (.if_icmp .lt 7, 3) := by decide +kernel
theorem dJ9_max_7cf53_5 : decode cJ9_max_7cf53 5 = .ok (.iload_n 0, 1) := by decide +kernel
theorem dJ9_max_7cf53_6 : decode cJ9_max_7cf53 6 = .ok (.goto 4, 3) := by decide +kernel
theorem dJ9_max_7cf53_9 : decode cJ9_max_7cf53 9 = .ok (.iload_n 1, 1) := by decide +kernel
theorem dJ9_max_7cf53_10 : decode cJ9_max_7cf53 10 = .ok (.ireturn, 1) := by decide +kernel
theorem dJ9_max_f86c9_0 : decode cJ9_max_f86c9 0 = .ok (.lload_n 0, 1) := by decide +kernel
theorem dJ9_max_f86c9_1 : decode cJ9_max_f86c9 1 = .ok (.lload_n 2, 1) := by decide +kernel
theorem dJ9_max_f86c9_2 : decode cJ9_max_f86c9 2 = .ok (.lcmp, 1) := by decide +kernel
theorem dJ9_max_f86c9_3 : decode cJ9_max_f86c9 3 = .ok (.ifCond .lt 7, 3) := by decide +kernel
theorem dJ9_max_f86c9_6 : decode cJ9_max_f86c9 6 = .ok (.lload_n 0, 1) := by decide +kernel
theorem dJ9_max_f86c9_7 : decode cJ9_max_f86c9 7 = .ok (.goto 4, 3) := by decide +kernel
theorem dJ9_max_f86c9_10 : decode cJ9_max_f86c9 10 = .ok (.lload_n 2, 1) := by decide +kernel
theorem dJ9_max_f86c9_11 : decode cJ9_max_f86c9 11 = .ok (.lreturn, 1) := by decide +kernel
theorem dJ9_min_7cf53_0 : decode cJ9_min_7cf53 0 = .ok (.iload_n 0, 1) := by decide +kernel
theorem dJ9_min_7cf53_1 : decode cJ9_min_7cf53 1 = .ok (.iload_n 1, 1) := by decide +kernel
theorem dJ9_min_7cf53_2 : decode cJ9_min_7cf53 2 = .ok (.if_icmp .gt 7, 3) := by decide +kernel
theorem dJ9_min_7cf53_5 : decode cJ9_min_7cf53 5 = .ok (.iload_n 0, 1) := by decide +kernel
theorem dJ9_min_7cf53_6 : decode cJ9_min_7cf53 6 = .ok (.goto 4, 3) := by decide +kernel
theorem dJ9_min_7cf53_9 : decode cJ9_min_7cf53 9 = .ok (.iload_n 1, 1) := by decide +kernel
theorem dJ9_min_7cf53_10 : decode cJ9_min_7cf53 10 = .ok (.ireturn, 1) := by decide +kernel
theorem dJ9_min_f86c9_0 : decode cJ9_min_f86c9 0 = .ok (.lload_n 0, 1) := by decide +kernel
theorem dJ9_min_f86c9_1 : decode cJ9_min_f86c9 1 = .ok (.lload_n 2, 1) := by decide +kernel
theorem dJ9_min_f86c9_2 : decode cJ9_min_f86c9 2 = .ok (.lcmp, 1) := by decide +kernel
theorem dJ9_min_f86c9_3 : decode cJ9_min_f86c9 3 = .ok (.ifCond .gt 7, 3) := by decide +kernel
theorem dJ9_min_f86c9_6 : decode cJ9_min_f86c9 6 = .ok (.lload_n 0, 1) := by decide +kernel
