theorem dX5_init_5 : decode cX5_init 5 = .ok (.sipush 900, 3) := by decide +kernel
theorem dX5_init_8 : decode cX5_init 8 = .ok (.newarray .byte, 2) := by decide +kernel
theorem dX5_init_10 : decode cX5_init 10 = .ok (.putfield 9, 3) := by decide +kernel
theorem dX5_init_13 : decode cX5_init 13 = .ok (.aload_n 0, 1) := by decide +kernel
theorem dX5_init_14 : decode cX5_init 14 = .ok (.iconst 0, 1) := by decide +kernel
theorem dX5_init_15 : decode cX5_init 15 = .ok (.putfield 15, 3) := by decide +kernel
theorem dX5_init_18 : decode cX5_init 18 = .ok (.aload_n 0, 1) := by decide +kernel
theorem dX5_init_19 : decode cX5_init 19 = .ok (.iconst 0, 1) := by decide +kernel
theorem dX5_init_20 : decode cX5_init 20 = .ok (.putfield 19, 3) := by decide +kernel
theorem dX5_init_23 : decode cX5_init 23 = .ok (.aload_n 0, 1) := by decide +kernel
theorem dX5_init_24 : decode cX5_init 24 = .ok (.iconst 0, 1) := by decide +kernel
theorem dX5_init_25 : decode cX5_init 25 = .ok (.putfield 22, 3) := by decide +kernel
theorem dX5_init_28 : decode cX5_init 28 = .ok (.aload_n 0, 1) := by decide +kernel
theorem dX5_init_29 : decode cX5_init 29 = .ok (.iconst 0, 1) := by decide +kernel
theorem dX5_init_30 : decode cX5_init 30 = .ok (.putfield 25, 3) := by decide +kernel
theorem dX5_init_33 : decode cX5_init 33 = .ok (.aload_n 0, 1) := by decide +kernel
theorem dX5_init_34 : decode cX5_init 34 = .ok (.iconst 0, 1) := by decide +kernel
theorem dX5_init_35 : decode cX5_init 35 = .ok (.putfield 28, 3) := by decide +kernel
theorem dX5_init_38 : decode cX5_init 38 = .ok (.aload_n 0, 1) := by decide +kernel
theorem dX5_init_39 : decode cX5_init 39 = .ok (.iconst 0, 1) := by decide +kernel
theorem dX5_init_40 : decode cX5_init 40 = .ok (.putfield 31, 3) := by decide +kernel
theorem dX5_init_43 : decode cX5_init 43 = .ok (.return_, 1) := by decide +kernel
theorem dX5_addWord_0 : decode cX5_addWord 0 = .ok (.bipush 24, 2) := by decide +kernel
theorem dX5_addWord_2 : decode cX5_addWord 2 = .ok (.istore_n 2, 1) := by decide +kernel
theorem dX5_addWord_3 : decode cX5_addWord 3 = .ok (.iload_n 2, 1) := by decide +kernel
theorem dX5_addWord_4 : decode cX5_addWord 4 = .ok (.ifCond .lt 42, 3) := by decide +kernel
theorem dX5_addWord_7 : decode cX5_addWord 7 = .ok (.aload_n 0, 1) := by decide +kernel
theorem dX5_addWord_8 : decode cX5_addWord 8 = .ok (.getfield 15, 3) := by decide +kernel
theorem dX5_addWord_11 : decode cX5_addWord 11 = .ok (.sipush 900, 3) := by decide +kernel
theorem dX5_addWord_14 : decode cX5_addWord 14 = .ok (.if_icmp .ge 26, 3) := by decide +kernel
theorem dX5_addWord_17 : decode cX5_addWord 17 = .ok (.aload_n 0, 1) := by decide +kernel
theorem dX5_addWord_18 : decode cX5_addWord 18 = .ok (.getfield 9, 3) := by decide +kernel
theorem dX5_addWord_21 : decode cX5_addWord 21 = .ok (.aload_n 0, 1) := by decide +kernel
theorem dX5_addWord_22 : decode cX5_addWord 22 = .ok (.getfield 15, 3) := by decide +kernel
theorem dX5_addWord_25 : decode cX5_addWord 25 = .ok (.iload_n 1, 1) := by decide +kernel
theorem dX5_addWord_26 : decode cX5_addWord 26 = .ok (.iload_n 2, 1) := by decide +kernel
theorem dX5_addWord_27 : decode cX5_addWord 27 = .ok (.iushr, 1) := by decide +kernel
theorem dX5_addWord_28 : decode cX5_addWord 28 = .ok (.i2b, 1) := by decide +kernel
theorem dX5_addWord_29 : decode cX5_addWord 29 = .ok (.bastore, 1) := by decide +kernel
theorem dX5_addWord_30 : decode cX5_addWord 30 = .ok (.aload_n 0, 1) := by decide +kernel
theorem dX5_addWord_31 : decode cX5_addWord 31 = .ok (.dup, 1) := by decide +kernel
theorem dX5_addWord_32 : decode cX5_addWord 32 = .ok (.getfield 15, 3) := by decide +kernel
theorem dX5_addWord_35 : decode cX5_addWord 35 = .ok (.iconst 1, 1) := by decide +kernel
theorem dX5_addWord_36 : decode cX5_addWord 36 = .ok (.iadd, 1) := by decide +kernel
theorem dX5_addWord_37 : decode cX5_addWord 37 = .ok (.putfield 15, 3) := by decide +kernel
theorem dX5_addWord_40 : decode cX5_addWord 40 = .ok (.iinc 2 (-8), 3) := by decide +kernel
theorem dX5_addWord_43 : decode cX5_addWord 43 = .ok (.goto (-40), 3) := by decide +kernel
theorem dX5_addWord_46 : decode cX5_addWord 46 = .ok (.return_, 1) := by decide +kernel
theorem dX5_startReading_0 : decode cX5_startReading 0 = .ok (.aload_n 0, 1) := by decide +kernel
theorem dX5_startReading_1 : decode cX5_startReading 1 = .ok (.iload_n 1, 1) := by decide +kernel
theorem dX5_startReading_2 : decode cX5_startReading 2 = .ok (.sipush 900, 3) := by decide +kernel
theorem dX5_startReading_5 : decode cX5_startReading 5 = .ok (.invokestatic 34, 3) := by decide +kernel
theorem dX5_startReading_8 : decode cX5_startReading 8 = .ok (.putfield 19, 3) := by decide +kernel
theorem dX5_startReading_11 : decode cX5_startReading 11 = .ok (.aload_n 0, 1) := by decide +kernel
theorem dX5_startReading_12 : decode cX5_startReading 12 = .ok (.iconst 0, 1) := by decide +kernel
theorem dX5_startReading_13 : decode cX5_startReading 13 = .ok (.putfield 28, 3) := by decide +kernel
theorem dX5_startReading_16 : decode cX5_startReading 16 = .ok (.aload_n 0, 1) := by decide +kernel
theorem dX5_startReading_17 : decode cX5_startReading 17 = .ok (.invokevirtual 40, 3) := by decide +kernel
theorem dX5_startReading_20 : decode cX5_startReading 20 = .ok (.return_, 1) := by decide +kernel
theorem dX5_advance_0 : decode cX5_advance 0 = .ok (.aload_n 0, 1) := by decide +kernel
theorem dX5_advance_1 : decode cX5_advance 1 = .ok (.aload_n 0, 1) := by decide +kernel
theorem dX5_advance_2 : decode cX5_advance 2 = .ok (.getfield 28, 3) := by decide +kernel
theorem dX5_advance_5 : decode cX5_advance 5 = .ok (.putfield 25, 3) := by decide +kernel
theorem dX5_advance_8 : decode cX5_advance 8 = .ok (.aload_n 0, 1) := by decide +kernel
theorem dX5_advance_9 : decode cX5_advance 9 = .ok (.getfield 25, 3) := by decide +kernel
theorem dX5_advance_12 : decode cX5_advance 12 = .ok (.aload_n 0, 1) := by decide +kernel
theorem dX5_advance_13 : decode cX5_advance 13 = .ok (.getfield 19, 3) := by decide +kernel
theorem dX5_advance_16 : decode cX5_advance 16 = .ok (.if_icmp .ge 30, 3) := by decide +kernel
theorem dX5_advance_19 : decode cX5_advance 19 = .ok (.aload_n 0, 1) := by decide +kernel
theorem dX5_advance_20 : decode cX5_advance 20 = .ok (.getfield 9, 3) := by decide +kernel
theorem dX5_advance_23 : decode cX5_advance 23 = .ok (.aload_n 0, 1) := by decide +kernel
theorem dX5_advance_24 : decode cX5_advance 24 = .ok (.getfield 25, 3) := by decide +kernel
theorem dX5_advance_27 : decode cX5_advance 27 = .ok (.baload, 1) := by decide +kernel
theorem dX5_advance_28 : decode cX5_advance 28 = .ok (.bipush 32, 2) := by decide +kernel
theorem dX5_advance_30 : decode cX5_advance 30 = .ok (.if_icmp .ne 16, 3) := by decide +kernel
theorem dX5_advance_33 : decode cX5_advance 33 = .ok (.aload_n 0, 1) := by decide +kernel
theorem dX5_advance_34 : decode cX5_advance 34 = .ok (.dup, 1) := by decide +kernel
theorem dX5_advance_35 : decode cX5_advance 35 = .ok (.getfield 25, 3) := by decide +kernel
theorem dX5_advance_38 : decode cX5_advance 38 = .ok (.iconst 1, 1) := by decide +kernel
theorem dX5_advance_39 : decode cX5_advance 39 = .ok (.iadd, 1) := by decide +kernel
theorem dX5_advance_40 : decode cX5_advance 40 = .ok (.putfield 25, 3) := by decide +kernel
theorem dX5_advance_43 : decode cX5_advance 43 = .ok (.goto (-35), 3) := by decide +kernel
theorem dX5_advance_46 : decode cX5_advance 46 = .ok (.aload_n 0, 1) := by decide +kernel
theorem dX5_advance_47 : decode cX5_advance 47 = .ok (.aload_n 0, 1) := by decide +kernel
theorem dX5_advance_48 : decode cX5_advance 48 = .ok (.getfield 25, 3) := by decide +kernel
theorem dX5_advance_51 : decode cX5_advance 51 = .ok (.putfield 28, 3) := by decide +kernel
theorem dX5_advance_54 : decode cX5_advance 54 = .ok (.aload_n 0, 1) := by decide +kernel
theorem dX5_advance_55 : decode cX5_advance 55 = .ok (.iconst 0, 1) := by decide +kernel
theorem dX5_advance_56 : decode cX5_advance 56 = .ok (.putfield 31, 3) := by decide +kernel
theorem dX5_advance_59 : decode cX5_advance 59 = .ok (.aload_n 0, 1) := by decide +kernel
theorem dX5_advance_60 : decode cX5_advance 60 = .ok (.getfield 28, 3) := by decide +kernel
theorem dX5_advance_63 : decode cX5_advance 63 = .ok (.aload_n 0, 1) := by decide +kernel
theorem dX5_advance_64 : decode cX5_advance 64 = .ok (.getfield 19, 3) := by decide +kernel
theorem dX5_advance_67 : decode cX5_advance 67 = .ok (.if_icmp .ge 77, 3) := by decide +kernel
theorem dX5_advance_70 : decode cX5_advance 70 = .ok (.aload_n 0, 1) := by decide +kernel
theorem dX5_advance_71 : decode cX5_advance 71 = .ok (.getfield 9, 3) := by decide +kernel
theorem dX5_advance_74 : decode cX5_advance 74 = .ok (.aload_n 0, 1) := by decide +kernel
theorem dX5_advance_75 : decode cX5_advance 75 = .ok (.getfield 28, 3) := by decide +kernel
theorem dX5_advance_78 : decode cX5_advance 78 = .ok (.baload, 1) := by decide +kernel
theorem dX5_advance_79 : decode cX5_advance 79 = .ok (.bipush 48, 2) := by decide +kernel
theorem dX5_advance_81 : decode cX5_advance 81 = .ok (.if_icmp .lt 63, 3) := by decide +kernel
theorem dX5_advance_84 : decode cX5_advance 84 = .ok (.aload_n 0, 1) := by decide +kernel
theorem dX5_advance_85 : decode cX5_advance 85 = .ok (.getfield 9, 3) := by decide +kernel
theorem dX5_advance_88 : decode cX5_advance 88 = .ok (.aload_n 0, 1) := by decide +kernel
theorem dX5_advance_89 : decode cX5_advance 89 = .ok (.getfield 28, 3) := by decide +kernel
theorem dX5_advance_92 : decode cX5_advance 92 = .ok (.baload, 1) := by decide +kernel
theorem dX5_advance_93 : decode cX5_advance 93 = .ok (.bipush 57, 2) := by decide +kernel
theorem dX5_advance_95 : decode cX5_advance 95 = .ok (.if_icmp .gt 49, 3) := by decide +kernel
theorem dX5_advance_98 : decode cX5_advance 98 = .ok (.aload_n 0, 1) := by decide +kernel
theorem dX5_advance_99 : decode cX5_advance 99 = .ok (.getfield 31, 3) := by decide +kernel
theorem dX5_advance_102 : decode cX5_advance 102 = .ok (.ldc 43, 2) := by decide +kernel
theorem dX5_advance_104 : decode cX5_advance 104 = .ok (.if_icmp .ge 27, 3) := by decide +kernel
theorem dX5_advance_107 : decode cX5_advance 107 = .ok (.aload_n 0, 1) := by decide +kernel
theorem dX5_advance_108 : decode cX5_advance 108 = .ok (.bipush 10, 2) := by decide +kernel
theorem dX5_advance_110 : decode cX5_advance 110 = .ok (.aload_n 0, 1) := by decide +kernel
theorem dX5_advance_111 : decode cX5_advance 111 = .ok (.getfield 31, 3) := by decide +kernel
theorem dX5_advance_114 : decode cX5_advance 114 = .ok (.imul, 1) := by decide +kernel
theorem dX5_advance_115 : decode cX5_advance 115 = .ok (.aload_n 0, 1) := by decide +kernel
theorem dX5_advance_116 : decode cX5_advance 116 = .ok (.getfield 9, 3) := by decide +kernel
theorem dX5_advance_119 : decode cX5_advance 119 = .ok (.aload_n 0, 1) := by decide +kernel
theorem dX5_advance_120 : decode cX5_advance 120 = .ok (.getfield 28, 3) := by decide +kernel
theorem dX5_advance_123 : decode cX5_advance 123 = .ok (.baload, 1) := by decide +kernel
theorem dX5_advance_124 : decode cX5_advance 124 = .ok (.bipush 48, 2) := by decide +kernel
theorem dX5_advance_126 : decode cX5_advance 126 = .ok (.isub, 1) := by decide +kernel
theorem dX5_advance_127 : decode cX5_advance 127 = .ok (.iadd, 1) := by decide +kernel
theorem dX5_advance_128 : decode cX5_advance 128 = .ok (.putfield 31, 3) := by decide +kernel
theorem dX5_advance_131 : decode cX5_advance 131 = .ok (.aload_n 0, 1) := by decide +kernel
theorem dX5_advance_132 : decode cX5_advance 132 = .ok (.dup, 1) := by decide +kernel
theorem dX5_advance_133 : decode cX5_advance 133 = .ok (.getfield 28, 3) := by decide +kernel
theorem dX5_advance_136 : decode cX5_advance 136 = .ok (.iconst 1, 1) := by decide +kernel
theorem dX5_advance_137 : decode cX5_advance 137 = .ok (.iadd, 1) := by decide +kernel
theorem dX5_advance_138 : decode cX5_advance 138 = .ok (.putfield 28, 3) := by decide +kernel
theorem dX5_advance_141 : decode cX5_advance 141 = .ok (.goto (-82), 3) := by decide +kernel
theorem dX5_advance_144 : decode cX5_advance 144 = .ok (.aload_n 0, 1) := by decide +kernel
theorem dX5_advance_145 : decode cX5_advance 145 = .ok (.getfield 28, 3) := by decide +kernel
theorem dX5_advance_148 : decode cX5_advance 148 = .ok (.aload_n 0, 1) := by decide +kernel
theorem dX5_advance_149 : decode cX5_advance 149 = .ok (.getfield 25, 3) := by decide +kernel
theorem dX5_advance_152 : decode cX5_advance 152 = .ok (.if_icmp .le 9, 3) := by decide +kernel
theorem dX5_advance_155 : decode cX5_advance 155 = .ok (.aload_n 0, 1) := by decide +kernel
theorem dX5_advance_156 : decode cX5_advance 156 = .ok (.iconst 1, 1) := by decide +kernel
theorem dX5_advance_157 : decode cX5_advance 157 = .ok (.putfield 22, 3) := by decide +kernel
theorem dX5_advance_160 : decode cX5_advance 160 = .ok (.return_, 1) := by decide +kernel
theorem dX5_advance_161 : decode cX5_advance 161 = .ok (.aload_n 0, 1) := by decide +kernel
theorem dX5_advance_162 : decode cX5_advance 162 = .ok (.getfield 28, 3) := by decide +kernel
theorem dX5_advance_165 : decode cX5_advance 165 = .ok (.aload_n 0, 1) := by decide +kernel
theorem dX5_advance_166 : decode cX5_advance 166 = .ok (.getfield 19, 3) := by decide +kernel
theorem dX5_advance_169 : decode cX5_advance 169 = .ok (.if_icmp .ge 44, 3) := by decide +kernel
theorem dX5_advance_172 : decode cX5_advance 172 = .ok (.aload_n 0, 1) := by decide +kernel
theorem dX5_advance_173 : decode cX5_advance 173 = .ok (.getfield 9, 3) := by decide +kernel
theorem dX5_advance_176 : decode cX5_advance 176 = .ok (.aload_n 0, 1) := by decide +kernel
theorem dX5_advance_177 : decode cX5_advance 177 = .ok (.getfield 28, 3) := by decide +kernel
theorem dX5_advance_180 : decode cX5_advance 180 = .ok (.baload, 1) := by decide +kernel
theorem dX5_advance_181 : decode cX5_advance 181 = .ok (.bipush 97, 2) := by decide +kernel
theorem dX5_advance_183 : decode cX5_advance 183 = .ok (.if_icmp .lt 30, 3) := by decide +kernel
theorem dX5_advance_186 : decode cX5_advance 186 = .ok (.aload_n 0, 1) := by decide +kernel
theorem dX5_advance_187 : decode cX5_advance 187 = .ok (.getfield 9, 3) := by decide +kernel
theorem dX5_advance_190 : decode cX5_advance 190 = .ok (.aload_n 0, 1) := by decide +kernel
theorem dX5_advance_191 : decode cX5_advance 191 = .ok (.getfield 28, 3) := by decide +kernel
theorem dX5_advance_194 : decode cX5_advance 194 = .ok (.baload, 1) := by decide +kernel
theorem dX5_advance_195 : decode cX5_advance 195 = .ok (.bipush 122, 2) := by decide +kernel
theorem dX5_advance_197 : decode cX5_advance 197 = .ok (.if_icmp .gt 16, 3) := by decide +kernel
theorem dX5_advance_200 : decode cX5_advance 200 = .ok (.aload_n 0, 1) := by decide +kernel
theorem dX5_advance_201 : decode cX5_advance 201 = .ok (.dup, 1) := by decide +kernel
theorem dX5_advance_202 : decode cX5_advance 202 = .ok (.getfield 28, 3) := by decide +kernel
theorem dX5_advance_205 : decode cX5_advance 205 = .ok (.iconst 1, 1) := by decide +kernel
theorem dX5_advance_206 : decode cX5_advance 206 = .ok (.iadd, 1) := by decide +kernel
theorem dX5_advance_207 : decode cX5_advance 207 = .ok (.putfield 28, 3) := by decide +kernel
theorem dX5_advance_210 : decode cX5_advance 210 = .ok (.goto (-49), 3) := by decide +kernel
theorem dX5_advance_213 : decode cX5_advance 213 = .ok (.aload_n 0, 1) := by decide +kernel
theorem dX5_advance_214 : decode cX5_advance 214 = .ok (.getfield 28, 3) := by decide +kernel
theorem dX5_advance_217 : decode cX5_advance 217 = .ok (.aload_n 0, 1) := by decide +kernel
theorem dX5_advance_218 : decode cX5_advance 218 = .ok (.getfield 25, 3) := by decide +kernel
theorem dX5_advance_221 : decode cX5_advance 221 = .ok (.if_icmp .le 11, 3) := by decide +kernel
theorem dX5_advance_224 : decode cX5_advance 224 = .ok (.aload_n 0, 1) := by decide +kernel
theorem dX5_advance_225 : decode cX5_advance 225 = .ok (.iconst 2, 1) := by decide +kernel
theorem dX5_advance_226 : decode cX5_advance 226 = .ok (.putfield 22, 3) := by decide +kernel
theorem dX5_advance_229 : decode cX5_advance 229 = .ok (.goto 37, 3) := by decide +kernel
theorem dX5_advance_232 : decode cX5_advance 232 = .ok (.aload_n 0, 1) := by decide +kernel
theorem dX5_advance_233 : decode cX5_advance 233 = .ok (.getfield 25, 3) := by decide +kernel
theorem dX5_advance_236 : decode cX5_advance 236 = .ok (.aload_n 0, 1) := by decide +kernel
theorem dX5_advance_237 : decode cX5_advance 237 = .ok (.getfield 19, 3) := by decide +kernel
theorem dX5_advance_240 : decode cX5_advance 240 = .ok (.if_icmp .ge 21, 3) := by decide +kernel
theorem dX5_advance_243 : decode cX5_advance 243 = .ok (.aload_n 0, 1) := by decide +kernel
theorem dX5_advance_244 : decode cX5_advance 244 = .ok (.iconst 3, 1) := by decide +kernel
theorem dX5_advance_245 : decode cX5_advance 245 = .ok (.putfield 22, 3) := by decide +kernel
theorem dX5_advance_248 : decode cX5_advance 248 = .ok (.aload_n 0, 1) := by decide +kernel
theorem dX5_advance_249 : decode cX5_advance 249 = .ok (.aload_n 0, 1) := by decide +kernel
theorem dX5_advance_250 : decode cX5_advance 250 = .ok (.getfield 25, 3) := by decide +kernel
theorem dX5_advance_253 : decode cX5_advance 253 = .ok (.iconst 1, 1) := by decide +kernel
theorem dX5_advance_254 : decode cX5_advance 254 = .ok (.iadd, 1) := by decide +kernel
theorem dX5_advance_255 : decode cX5_advance 255 = .ok (.putfield 28, 3) := by decide +kernel
theorem dX5_advance_258 : decode cX5_advance 258 = .ok (.goto 8, 3) := by decide +kernel
theorem dX5_advance_261 : decode cX5_advance 261 = .ok (.aload_n 0, 1) := by decide +kernel
theorem dX5_advance_262 : decode cX5_advance 262 = .ok (.iconst 0, 1) := by decide +kernel
theorem dX5_advance_263 : decode cX5_advance 263 = .ok (.putfield 22, 3) := by decide +kernel
theorem dX5_advance_266 : decode cX5_advance 266 = .ok (.return_, 1) := by decide +kernel
theorem dX5_isWord_0 : decode cX5_isWord 0 = .ok (.aload_n 0, 1) := by decide +kernel
theorem dX5_isWord_1 : decode cX5_isWord 1 = .ok (.getfield 22, 3) := by decide +kernel
theorem dX5_isWord_4 : decode cX5_isWord 4 = .ok (.iconst 2, 1) := by decide +kernel
theorem dX5_isWord_5 : decode cX5_isWord 5 = .ok (.if_icmp .ne 19, 3) := by decide +kernel
theorem dX5_isWord_8 : decode cX5_isWord 8 = .ok (.aload_n 0, 1) := by decide +kernel
theorem dX5_isWord_9 : decode cX5_isWord 9 = .ok (.getfield 28, 3) := by decide +kernel
theorem dX5_isWord_12 : decode cX5_isWord 12 = .ok (.aload_n 0, 1) := by decide +kernel
theorem dX5_isWord_13 : decode cX5_isWord 13 = .ok (.getfield 25, 3) := by decide +kernel
theorem dX5_isWord_16 : decode cX5_isWord 16 = .ok (.isub, 1) := by decide +kernel
theorem dX5_isWord_17 : decode cX5_isWord 17 = .ok (.aload_n 1, 1) := by decide +kernel
theorem dX5_isWord_18 : decode cX5_isWord 18 = .ok (.invokevirtual 44, 3) := by decide +kernel
theorem dX5_isWord_21 : decode cX5_isWord 21 = .ok (.if_icmp .eq 5, 3) := by decide +kernel
theorem dX5_isWord_24 : decode cX5_isWord 24 = .ok (.iconst 0, 1) := by decide +kernel
theorem dX5_isWord_25 : decode cX5_isWord 25 = .ok (.ireturn, 1) := by decide +kernel
theorem dX5_isWord_26 : decode cX5_isWord 26 = .ok (.iconst 0, 1) := by decide +kernel
theorem dX5_isWord_27 : decode cX5_isWord 27 = .ok (.istore_n 2, 1) := by decide +kernel
theorem dX5_isWord_28 : decode cX5_isWord 28 = .ok (.iload_n 2, 1) := by decide +kernel
theorem dX5_isWord_29 : decode cX5_isWord 29 = .ok (.aload_n 1, 1) := by decide +kernel
theorem dX5_isWord_30 : decode cX5_isWord 30 = .ok (.invokevirtual 44, 3) := by decide +kernel
theorem dX5_isWord_33 : decode cX5_isWord 33 = .ok (.if_icmp .ge 30, 3) := by decide +kernel
theorem dX5_isWord_36 : decode cX5_isWord 36 = .ok (.aload_n 0, 1) := by decide +kernel
theorem dX5_isWord_37 : decode cX5_isWord 37 = .ok (.getfield 9, 3) := by decide +kernel
theorem dX5_isWord_40 : decode cX5_isWord 40 = .ok (.aload_n 0, 1) := by decide +kernel
theorem dX5_isWord_41 : decode cX5_isWord 41 = .ok (.getfield 25, 3) := by decide +kernel
theorem dX5_isWord_44 : decode cX5_isWord 44 = .ok (.iload_n 2, 1) := by decide +kernel
theorem dX5_isWord_45 : decode cX5_isWord 45 = .ok (.iadd, 1) := by decide +kernel
theorem dX5_isWord_46 : decode cX5_isWord 46 = .ok (.baload, 1) := by decide +kernel
theorem dX5_isWord_47 : decode cX5_isWord 47 = .ok (.aload_n 1, 1) := by decide +kernel
theorem dX5_isWord_48 : decode cX5_isWord 48 = .ok (.iload_n 2, 1) := by decide +kernel
theorem dX5_isWord_49 : decode cX5_isWord 49 = .ok (.invokevirtual 50, 3) := by decide +kernel
theorem dX5_isWord_52 : decode cX5_isWord 52 = .ok (.if_icmp .eq 5, 3) := by decide +kernel
theorem dX5_isWord_55 : decode cX5_isWord 55 = .ok (.iconst 0, 1) := by decide +kernel
theorem dX5_isWord_56 : decode cX5_isWord 56 = .ok (.ireturn, 1) := by decide +kernel
theorem dX5_isWord_57 : decode cX5_isWord 57 = .ok (.iinc 2 1, 3) := by decide +kernel
theorem dX5_isWord_60 : decode cX5_isWord 60 = .ok (.goto (-32), 3) := by decide +kernel
theorem dX5_isWord_63 : decode cX5_isWord 63 = .ok (.iconst 1, 1) := by decide +kernel
theorem dX5_isWord_64 : decode cX5_isWord 64 = .ok (.ireturn, 1) := by decide +kernel
theorem dX5_isMark_0 : decode cX5_isMark 0 = .ok (.aload_n 0, 1) := by decide +kernel
theorem dX5_isMark_1 : decode cX5_isMark 1 = .ok (.getfield 22, 3) := by decide +kernel
theorem dX5_isMark_4 : decode cX5_isMark 4 = .ok (.iconst 3, 1) := by decide +kernel
theorem dX5_isMark_5 : decode cX5_isMark 5 = .ok (.if_icmp .ne 20, 3) := by decide +kernel
theorem dX5_isMark_8 : decode cX5_isMark 8 = .ok (.aload_n 0, 1) := by decide +kernel
theorem dX5_isMark_9 : decode cX5_isMark 9 = .ok (.getfield 9, 3) := by decide +kernel
theorem dX5_isMark_12 : decode cX5_isMark 12 = .ok (.aload_n 0, 1) := by decide +kernel
theorem dX5_isMark_13 : decode cX5_isMark 13 = .ok (.getfield 25, 3) := by decide +kernel
theorem dX5_isMark_16 : decode cX5_isMark 16 = .ok (.baload, 1) := by decide +kernel
theorem dX5_isMark_17 : decode cX5_isMark 17 = .ok (.iload_n 1, 1) := by decide +kernel
theorem dX5_isMark_18 : decode cX5_isMark 18 = .ok (.if_icmp .ne 7, 3) := by decide +kernel
theorem dX5_isMark_21 : decode cX5_isMark 21 = .ok (.iconst 1, 1) := by decide +kernel
theorem dX5_isMark_22 : decode cX5_isMark 22 = .ok (.goto 4, 3) := by decide +kernel
theorem dX5_isMark_25 : decode cX5_isMark 25 = .ok (.iconst 0, 1) := by decide +kernel
theorem dX5_isMark_26 : decode cX5_isMark 26 = .ok (.ireturn, 1) := by decide +kernel
theorem dX6_init_0 : decode cX6_init 0 = .ok (.aload_n 0, 1) := by decide +kernel
theorem dX6_init_1 : decode cX6_init 1 = .ok (.invokespecial 3, 3) := by decide +kernel
theorem dX6_init_4 : decode cX6_init 4 = .ok (.aload_n 0, 1) := by decide +kernel
theorem dX6_init_5 : decode cX6_init 5 = .ok (.iconst 0, 1) := by decide +kernel
theorem dX6_init_6 : decode cX6_init 6 = .ok (.putfield 9, 3) := by decide +kernel
theorem dX6_init_9 : decode cX6_init 9 = .ok (.aload_n 0, 1) := by decide +kernel
theorem dX6_init_10 : decode cX6_init 10 = .ok (.iconst 0, 1) := by decide +kernel
theorem dX6_init_11 : decode cX6_init 11 = .ok (.putfield 15, 3) := by decide +kernel
theorem dX6_init_14 : decode cX6_init 14 = .ok (.aload_n 0, 1) := by decide +kernel
theorem dX6_init_15 : decode cX6_init 15 = .ok (.bipush 32, 2) := by decide +kernel
theorem dX6_init_17 : decode cX6_init 17 = .ok (.newarray .int, 2) := by decide +kernel
theorem dX6_init_19 : decode cX6_init 19 = .ok (.putfield 18, 3) := by decide +kernel
theorem dX6_init_22 : decode cX6_init 22 = .ok (.aload_n 0, 1) := by decide +kernel
theorem dX6_init_23 : decode cX6_init 23 = .ok (.bipush 32, 2) := by decide +kernel
theorem dX6_init_25 : decode cX6_init 25 = .ok (.newarray .int, 2) := by decide +kernel
theorem dX6_init_27 : decode cX6_init 27 = .ok (.putfield 22, 3) := by decide +kernel
theorem dX6_init_30 : decode cX6_init 30 = .ok (.aload_n 0, 1) := by decide +kernel
theorem dX6_init_31 : decode cX6_init 31 = .ok (.bipush 32, 2) := by decide +kernel
theorem dX6_init_33 : decode cX6_init 33 = .ok (.newarray .int, 2) := by decide +kernel
theorem dX6_init_35 : decode cX6_init 35 = .ok (.putfield 25, 3) := by decide +kernel
theorem dX6_init_38 : decode cX6_init 38 = .ok (.aload_n 0, 1) := by decide +kernel
theorem dX6_init_39 : decode cX6_init 39 = .ok (.bipush 32, 2) := by decide +kernel
theorem dX6_init_41 : decode cX6_init 41 = .ok (.newarray .int, 2) := by decide +kernel
theorem dX6_init_43 : decode cX6_init 43 = .ok (.putfield 28, 3) := by decide +kernel
theorem dX6_init_46 : decode cX6_init 46 = .ok (.aload_n 0, 1) := by decide +kernel
theorem dX6_init_47 : decode cX6_init 47 = .ok (.bipush 32, 2) := by decide +kernel
theorem dX6_init_49 : decode cX6_init 49 = .ok (.newarray .int, 2) := by decide +kernel
theorem dX6_init_51 : decode cX6_init 51 = .ok (.putfield 31, 3) := by decide +kernel
theorem dX6_init_54 : decode cX6_init 54 = .ok (.aload_n 0, 1) := by decide +kernel
theorem dX6_init_55 : decode cX6_init 55 = .ok (.bipush 32, 2) := by decide +kernel
theorem dX6_init_57 : decode cX6_init 57 = .ok (.newarray .int, 2) := by decide +kernel
theorem dX6_init_59 : decode cX6_init 59 = .ok (.putfield 34, 3) := by decide +kernel
theorem dX6_init_62 : decode cX6_init 62 = .ok (.aload_n 0, 1) := by decide +kernel
theorem dX6_init_63 : decode cX6_init 63 = .ok (.bipush 32, 2) := by decide +kernel
theorem dX6_init_65 : decode cX6_init 65 = .ok (.newarray .int, 2) := by decide +kernel
theorem dX6_init_67 : decode cX6_init 67 = .ok (.putfield 37, 3) := by decide +kernel
theorem dX6_init_70 : decode cX6_init 70 = .ok (.aload_n 0, 1) := by decide +kernel
theorem dX6_init_71 : decode cX6_init 71 = .ok (.bipush 8, 2) := by decide +kernel
theorem dX6_init_73 : decode cX6_init 73 = .ok (.newarray .int, 2) := by decide +kernel
theorem dX6_init_75 : decode cX6_init 75 = .ok (.putfield 40, 3) := by decide +kernel
theorem dX6_init_78 : decode cX6_init 78 = .ok (.aload_n 0, 1) := by decide +kernel
theorem dX6_init_79 : decode cX6_init 79 = .ok (.bipush 32, 2) := by decide +kernel
theorem dX6_init_81 : decode cX6_init 81 = .ok (.newarray .int, 2) := by decide +kernel
theorem dX6_init_83 : decode cX6_init 83 = .ok (.putfield 43, 3) := by decide +kernel
theorem dX6_init_86 : decode cX6_init 86 = .ok (.return_, 1) := by decide +kernel
theorem dX6_copyFrom_0 : decode cX6_copyFrom 0 = .ok (.aload_n 0, 1) := by decide +kernel
theorem dX6_copyFrom_1 : decode cX6_copyFrom 1 = .ok (.aload_n 1, 1) := by decide +kernel
theorem dX6_copyFrom_2 : decode cX6_copyFrom 2 = .ok (.getfield 9, 3) := by decide +kernel
theorem dX6_copyFrom_5 : decode cX6_copyFrom 5 = .ok (.putfield 9, 3) := by decide +kernel
theorem dX6_copyFrom_8 : decode cX6_copyFrom 8 = .ok (.aload_n 0, 1) := by decide +kernel
theorem dX6_copyFrom_9 : decode cX6_copyFrom 9 = .ok (.aload_n 1, 1) := by decide +kernel
theorem dX6_copyFrom_10 : decode cX6_copyFrom 10 = .ok (.getfield 15, 3) := by decide +kernel
theorem dX6_copyFrom_13 : decode cX6_copyFrom 13 = .ok (.putfield 15, 3) := by decide +kernel
theorem dX6_copyFrom_16 : decode cX6_copyFrom 16 = .ok (.aload_n 1, 1) := by decide +kernel
theorem dX6_copyFrom_17 : decode cX6_copyFrom 17 = .ok (.getfield 18, 3) := by decide +kernel
theorem dX6_copyFrom_20 : decode cX6_copyFrom 20 = .ok (.iconst 0, 1) := by decide +kernel
theorem dX6_copyFrom_21 : decode cX6_copyFrom 21 = .ok (.aload_n 0, 1) := by decide +kernel
theorem dX6_copyFrom_22 : decode cX6_copyFrom 22 = .ok (.getfield 18, 3) := by decide +kernel
theorem dX6_copyFrom_25 : decode cX6_copyFrom 25 = .ok (.iconst 0, 1) := by decide +kernel
theorem dX6_copyFrom_26 : decode cX6_copyFrom 26 = .ok (.bipush 32, 2) := by decide +kernel
theorem dX6_copyFrom_28 : decode cX6_copyFrom 28 = .ok (.invokestatic 46, 3) := by decide +kernel
theorem dX6_copyFrom_31 : decode cX6_copyFrom 31 = .ok (.aload_n 1, 1) := by decide +kernel
theorem dX6_copyFrom_32 : decode cX6_copyFrom 32 = .ok (.getfield 22, 3) := by decide +kernel
theorem dX6_copyFrom_35 : decode cX6_copyFrom 35 = .ok (.iconst 0, 1) := by decide +kernel
theorem dX6_copyFrom_36 : decode cX6_copyFrom 36 = .ok (.aload_n 0, 1) := by decide +kernel
theorem dX6_copyFrom_37 : decode cX6_copyFrom 37 = .ok (.getfield 22, 3) := by decide +kernel
theorem dX6_copyFrom_40 : decode cX6_copyFrom 40 = .ok (.iconst 0, 1) := by decide +kernel
theorem dX6_copyFrom_41 : decode cX6_copyFrom 41 = .ok (.bipush 32, 2) := by decide +kernel
theorem dX6_copyFrom_43 : decode cX6_copyFrom 43 = .ok (.invokestatic 46, 3) := by decide +kernel
theorem dX6_copyFrom_46 : decode cX6_copyFrom 46 = .ok (.aload_n 1, 1) := by decide +kernel
theorem dX6_copyFrom_47 : decode cX6_copyFrom 47 = .ok (.getfield 25, 3) := by decide +kernel
theorem dX6_copyFrom_50 : decode cX6_copyFrom 50 = .ok (.iconst 0, 1) := by decide +kernel
theorem dX6_copyFrom_51 : decode cX6_copyFrom 51 = .ok (.aload_n 0, 1) := by decide +kernel
theorem dX6_copyFrom_52 : decode cX6_copyFrom 52 = .ok (.getfield 25, 3) := by decide +kernel
theorem dX6_copyFrom_55 : decode cX6_copyFrom 55 = .ok (.iconst 0, 1) := by decide +kernel
theorem dX6_copyFrom_56 : decode cX6_copyFrom 56 = .ok (.bipush 32, 2) := by decide +kernel
theorem dX6_copyFrom_58 : decode cX6_copyFrom 58 = .ok (.invokestatic 46, 3) := by decide +kernel
theorem dX6_copyFrom_61 : decode cX6_copyFrom 61 = .ok (.aload_n 1, 1) := by decide +kernel
theorem dX6_copyFrom_62 : decode cX6_copyFrom 62 = .ok (.getfield 28, 3) := by decide +kernel
theorem dX6_copyFrom_65 : decode cX6_copyFrom 65 = .ok (.iconst 0, 1) := by decide +kernel
theorem dX6_copyFrom_66 : decode cX6_copyFrom 66 = .ok (.aload_n 0, 1) := by decide +kernel
theorem dX6_copyFrom_67 : decode cX6_copyFrom 67 = .ok (.getfield 28, 3) := by decide +kernel
theorem dX6_copyFrom_70 : decode cX6_copyFrom 70 = .ok (.iconst 0, 1) := by decide +kernel
theorem dX6_copyFrom_71 : decode cX6_copyFrom 71 = .ok (.bipush 32, 2) := by decide +kernel
theorem dX6_copyFrom_73 : decode cX6_copyFrom 73 = .ok (.invokestatic 46, 3) := by decide +kernel
theorem dX6_copyFrom_76 : decode cX6_copyFrom 76 = .ok (.aload_n 1, 1) := by decide +kernel
theorem dX6_copyFrom_77 : decode cX6_copyFrom 77 = .ok (.getfield 31, 3) := by decide +kernel
theorem dX6_copyFrom_80 : decode cX6_copyFrom 80 = .ok (.iconst 0, 1) := by decide +kernel
theorem dX6_copyFrom_81 : decode cX6_copyFrom 81 = .ok (.aload_n 0, 1) := by decide +kernel
theorem dX6_copyFrom_82 : decode cX6_copyFrom 82 = .ok (.getfield 31, 3) := by decide +kernel
theorem dX6_copyFrom_85 : decode cX6_copyFrom 85 = .ok (.iconst 0, 1) := by decide +kernel
theorem dX6_copyFrom_86 : decode cX6_copyFrom 86 = .ok (.bipush 32, 2) := by decide +kernel
theorem dX6_copyFrom_88 : decode cX6_copyFrom 88 = .ok (.invokestatic 46, 3) := by decide +kernel
theorem dX6_copyFrom_91 : decode cX6_copyFrom 91 = .ok (.aload_n 1, 1) := by decide +kernel
theorem dX6_copyFrom_92 : decode cX6_copyFrom 92 = .ok (.getfield 34, 3) := by decide +kernel
theorem dX6_copyFrom_95 : decode cX6_copyFrom 95 = .ok (.iconst 0, 1) := by decide +kernel
theorem dX6_copyFrom_96 : decode cX6_copyFrom 96 = .ok (.aload_n 0, 1) := by decide +kernel
theorem dX6_copyFrom_97 : decode cX6_copyFrom 97 = .ok (.getfield 34, 3) := by decide +kernel
theorem dX6_copyFrom_100 : decode cX6_copyFrom 100 = .ok (.iconst 0, 1) := by decide +kernel
theorem dX6_copyFrom_101 : decode cX6_copyFrom 101 = .ok (.bipush 32, 2) := by decide +kernel
theorem dX6_copyFrom_103 : decode cX6_copyFrom 103 = .ok (.invokestatic 46, 3) := by decide +kernel
theorem dX6_copyFrom_106 : decode cX6_copyFrom 106 = .ok (.aload_n 1, 1) := by decide +kernel
theorem dX6_copyFrom_107 : decode cX6_copyFrom 107 = .ok (.getfield 37, 3) := by decide +kernel
theorem dX6_copyFrom_110 : decode cX6_copyFrom 110 = .ok (.iconst 0, 1) := by decide +kernel
theorem dX6_copyFrom_111 : decode cX6_copyFrom 111 = .ok (.aload_n 0, 1) := by decide +kernel
theorem dX6_copyFrom_112 : decode cX6_copyFrom 112 = .ok (.getfield 37, 3) := by decide +kernel
theorem dX6_copyFrom_115 : decode cX6_copyFrom 115 = .ok (.iconst 0, 1) := by decide +kernel
theorem dX6_copyFrom_116 : decode cX6_copyFrom 116 = .ok (.bipush 32, 2) := by decide +kernel
theorem dX6_copyFrom_118 : decode cX6_copyFrom 118 = .ok (.invokestatic 46, 3) := by decide +kernel
theorem dX6_copyFrom_121 : decode cX6_copyFrom 121 = .ok (.aload_n 1, 1) := by decide +kernel
theorem dX6_copyFrom_122 : decode cX6_copyFrom 122 = .ok (.getfield 40, 3) := by decide +kernel
theorem dX6_copyFrom_125 : decode cX6_copyFrom 125 = .ok (.iconst 0, 1) := by decide +kernel
theorem dX6_copyFrom_126 : decode cX6_copyFrom 126 = .ok (.aload_n 0, 1) := by decide +kernel
theorem dX6_copyFrom_127 : decode cX6_copyFrom 127 = .ok (.getfield 40, 3) := by decide +kernel
theorem dX6_copyFrom_130 : decode cX6_copyFrom 130 = .ok (.iconst 0, 1) := by decide +kernel
theorem dX6_copyFrom_131 : decode cX6_copyFrom 131 = .ok (.bipush 8, 2) := by decide +kernel
theorem dX6_copyFrom_133 : decode cX6_copyFrom 133 = .ok (.invokestatic 46, 3) := by decide +kernel
theorem dX6_copyFrom_136 : decode cX6_copyFrom 136 = .ok (.return_, 1) := by decide +kernel
theorem dX6_add_0 : decode cX6_add 0 = .ok (.aload_n 0, 1) := by decide +kernel
theorem dX6_add_1 : decode cX6_add 1 = .ok (.getfield 9, 3) := by decide +kernel
theorem dX6_add_4 : decode cX6_add 4 = .ok (.bipush 32, 2) := by decide +kernel
theorem dX6_add_6 : decode cX6_add 6 = .ok (.if_icmp .lt 4, 3) := by decide +kernel
theorem dX6_add_9 : decode cX6_add 9 = .ok (.return_, 1) := by decide +kernel
theorem dX6_add_10 : decode cX6_add 10 = .ok (.aload_n 0, 1) := by decide +kernel
theorem dX6_add_11 : decode cX6_add 11 = .ok (.getfield 18, 3) := by decide +kernel
theorem dX6_add_14 : decode cX6_add 14 = .ok (.aload_n 0, 1) := by decide +kernel
theorem dX6_add_15 : decode cX6_add 15 = .ok (.getfield 9, 3) := by decide +kernel
theorem dX6_add_18 : decode cX6_add 18 = .ok (.iconst 0, 1) := by decide +kernel
theorem dX6_add_19 : decode cX6_add 19 = .ok (.iastore, 1) := by decide +kernel
theorem dX6_add_20 : decode cX6_add 20 = .ok (.aload_n 0, 1) := by decide +kernel
theorem dX6_add_21 : decode cX6_add 21 = .ok (.getfield 22, 3) := by decide +kernel
theorem dX6_add_24 : decode cX6_add 24 = .ok (.aload_n 0, 1) := by decide +kernel
theorem dX6_add_25 : decode cX6_add 25 = .ok (.getfield 9, 3) := by decide +kernel
theorem dX6_add_28 : decode cX6_add 28 = .ok (.iload_n 1, 1) := by decide +kernel
theorem dX6_add_29 : decode cX6_add 29 = .ok (.iastore, 1) := by decide +kernel
theorem dX6_add_30 : decode cX6_add 30 = .ok (.aload_n 0, 1) := by decide +kernel
theorem dX6_add_31 : decode cX6_add 31 = .ok (.getfield 25, 3) := by decide +kernel
theorem dX6_add_34 : decode cX6_add 34 = .ok (.aload_n 0, 1) := by decide +kernel
theorem dX6_add_35 : decode cX6_add 35 = .ok (.getfield 9, 3) := by decide +kernel
theorem dX6_add_38 : decode cX6_add 38 = .ok (.iload_n 2, 1) := by decide +kernel
theorem dX6_add_39 : decode cX6_add 39 = .ok (.iastore, 1) := by decide +kernel
theorem dX6_add_40 : decode cX6_add 40 = .ok (.aload_n 0, 1) := by decide +kernel
theorem dX6_add_41 : decode cX6_add 41 = .ok (.getfield 28, 3) := by decide +kernel
theorem dX6_add_44 : decode cX6_add 44 = .ok (.aload_n 0, 1) := by decide +kernel
theorem dX6_add_45 : decode cX6_add 45 = .ok (.getfield 9, 3) := by decide +kernel
theorem dX6_add_48 : decode cX6_add 48 = .ok (.iload_n 3, 1) := by decide +kernel
theorem dX6_add_49 : decode cX6_add 49 = .ok (.iastore, 1) := by decide +kernel
theorem dX6_add_50 : decode cX6_add 50 = .ok (.aload_n 0, 1) := by decide +kernel
theorem dX6_add_51 : decode cX6_add 51 = .ok (.getfield 31, 3) := by decide +kernel
theorem dX6_add_54 : decode cX6_add 54 = .ok (.aload_n 0, 1) := by decide +kernel
theorem dX6_add_55 : decode cX6_add 55 = .ok (.getfield 9, 3) := by decide +kernel
theorem dX6_add_58 : decode cX6_add 58 = .ok (.iload 4, 2) := by decide +kernel
theorem dX6_add_60 : decode cX6_add 60 = .ok (.iastore, 1) := by decide +kernel
theorem dX6_add_61 : decode cX6_add 61 = .ok (.aload_n 0, 1) := by decide +kernel
theorem dX6_add_62 : decode cX6_add 62 = .ok (.getfield 34, 3) := by decide +kernel
theorem dX6_add_65 : decode cX6_add 65 = .ok (.aload_n 0, 1) := by decide +kernel
theorem dX6_add_66 : decode cX6_add 66 = .ok (.getfield 9, 3) := by decide +kernel
theorem dX6_add_69 : decode cX6_add 69 = .ok (.iconst (-1), 1) := by decide +kernel
theorem dX6_add_70 : decode cX6_add 70 = .ok (.iastore, 1) := by decide +kernel
theorem dX6_add_71 : decode cX6_add 71 = .ok (.aload_n 0, 1) := by decide +kernel
theorem dX6_add_72 : decode cX6_add 72 = .ok (.getfield 37, 3) := by decide +kernel
theorem dX6_add_75 : decode cX6_add 75 = .ok (.aload_n 0, 1) := by decide +kernel
theorem dX6_add_76 : decode cX6_add 76 = .ok (.getfield 9, 3) := by decide +kernel
theorem dX6_add_79 : decode cX6_add 79 = .ok (.iconst (-1), 1) := by decide +kernel
theorem dX6_add_80 : decode cX6_add 80 = .ok (.iastore, 1) := by decide +kernel
theorem dX6_add_81 : decode cX6_add 81 = .ok (.aload_n 0, 1) := by decide +kernel
theorem dX6_add_82 : decode cX6_add 82 = .ok (.dup, 1) := by decide +kernel
theorem dX6_add_83 : decode cX6_add 83 = .ok (.getfield 9, 3) := by decide +kernel
theorem dX6_add_86 : decode cX6_add 86 = .ok (.iconst 1, 1) := by decide +kernel
theorem dX6_add_87 : decode cX6_add 87 = .ok (.iadd, 1) := by decide +kernel
theorem dX6_add_88 : decode cX6_add 88 = .ok (.putfield 9, 3) := by decide +kernel
theorem dX6_add_91 : decode cX6_add 91 = .ok (.return_, 1) := by decide +kernel
theorem dX6_addFence_0 : decode cX6_addFence 0 = .ok (.aload_n 0, 1) := by decide +kernel
theorem dX6_addFence_1 : decode cX6_addFence 1 = .ok (.getfield 15, 3) := by decide +kernel
theorem dX6_addFence_4 : decode cX6_addFence 4 = .ok (.bipush 8, 2) := by decide +kernel
theorem dX6_addFence_6 : decode cX6_addFence 6 = .ok (.if_icmp .ge 26, 3) := by decide +kernel
theorem dX6_addFence_9 : decode cX6_addFence 9 = .ok (.aload_n 0, 1) := by decide +kernel
theorem dX6_addFence_10 : decode cX6_addFence 10 = .ok (.getfield 40, 3) := by decide +kernel
theorem dX6_addFence_13 : decode cX6_addFence 13 = .ok (.aload_n 0, 1) := by decide +kernel
theorem dX6_addFence_14 : decode cX6_addFence 14 = .ok (.getfield 15, 3) := by decide +kernel
theorem dX6_addFence_17 : decode cX6_addFence 17 = .ok (.aload_n 0, 1) := by decide +kernel
theorem dX6_addFence_18 : decode cX6_addFence 18 = .ok (.getfield 9, 3) := by decide +kernel
theorem dX6_addFence_21 : decode cX6_addFence 21 = .ok (.iastore, 1) := by decide +kernel
theorem dX6_addFence_22 : decode cX6_addFence 22 = .ok (.aload_n 0, 1) := by decide +kernel
theorem dX6_addFence_23 : decode cX6_addFence 23 = .ok (.dup, 1) := by decide +kernel
theorem dX6_addFence_24 : decode cX6_addFence 24 = .ok (.getfield 15, 3) := by decide +kernel
theorem dX6_addFence_27 : decode cX6_addFence 27 = .ok (.iconst 1, 1) := by decide +kernel
theorem dX6_addFence_28 : decode cX6_addFence 28 = .ok (.iadd, 1) := by decide +kernel
theorem dX6_addFence_29 : decode cX6_addFence 29 = .ok (.putfield 15, 3) := by decide +kernel
theorem dX6_addFence_32 : decode cX6_addFence 32 = .ok (.return_, 1) := by decide +kernel
theorem dX6_startAgainOn_0 : decode cX6_startAgainOn 0 = .ok (.iconst 0, 1) := by decide +kernel
theorem dX6_startAgainOn_1 : decode cX6_startAgainOn 1 = .ok (.istore_n 2, 1) := by decide +kernel
theorem dX6_startAgainOn_2 : decode cX6_startAgainOn 2 = .ok (.iload_n 2, 1) := by decide +kernel
theorem dX6_startAgainOn_3 : decode cX6_startAgainOn 3 = .ok (.aload_n 0, 1) := by decide +kernel
theorem dX6_startAgainOn_4 : decode cX6_startAgainOn 4 = .ok (.getfield 9, 3) := by decide +kernel
theorem dX6_startAgainOn_7 : decode cX6_startAgainOn 7 = .ok (.if_icmp .ge 44, 3) := by decide +kernel
theorem dX6_startAgainOn_10 : decode cX6_startAgainOn 10 = .ok (.aload_n 0, 1) := by decide +kernel
theorem dX6_startAgainOn_11 : decode cX6_startAgainOn 11 = .ok (.getfield 18, 3) := by decide +kernel
theorem dX6_startAgainOn_14 : decode cX6_startAgainOn 14 = .ok (.iload_n 2, 1) := by decide +kernel
theorem dX6_startAgainOn_15 : decode cX6_startAgainOn 15 = .ok (.iaload, 1) := by decide +kernel
theorem dX6_startAgainOn_16 : decode cX6_startAgainOn 16 = .ok (.iconst 5, 1) := by decide +kernel
theorem dX6_startAgainOn_17 : decode cX6_startAgainOn 17 = .ok (.if_icmp .eq 10, 3) := by decide +kernel
theorem dX6_startAgainOn_20 : decode cX6_startAgainOn 20 = .ok (.aload_n 0, 1) := by decide +kernel
theorem dX6_startAgainOn_21 : decode cX6_startAgainOn 21 = .ok (.getfield 18, 3) := by decide +kernel
theorem dX6_startAgainOn_24 : decode cX6_startAgainOn 24 = .ok (.iload_n 2, 1) := by decide +kernel
theorem dX6_startAgainOn_25 : decode cX6_startAgainOn 25 = .ok (.iconst 0, 1) := by decide +kernel
theorem dX6_startAgainOn_26 : decode cX6_startAgainOn 26 = .ok (.iastore, 1) := by decide +kernel
theorem dX6_startAgainOn_27 : decode cX6_startAgainOn 27 = .ok (.iload_n 1, 1) := by decide +kernel
theorem dX6_startAgainOn_28 : decode cX6_startAgainOn 28 = .ok (.ifCond .le 17, 3) := by decide +kernel
theorem dX6_startAgainOn_31 : decode cX6_startAgainOn 31 = .ok (.aload_n 0, 1) := by decide +kernel
theorem dX6_startAgainOn_32 : decode cX6_startAgainOn 32 = .ok (.getfield 28, 3) := by decide +kernel
theorem dX6_startAgainOn_35 : decode cX6_startAgainOn 35 = .ok (.iload_n 2, 1) := by decide +kernel
theorem dX6_startAgainOn_36 : decode cX6_startAgainOn 36 = .ok (.aload_n 0, 1) := by decide +kernel
theorem dX6_startAgainOn_37 : decode cX6_startAgainOn 37 = .ok (.getfield 28, 3) := by decide +kernel
theorem dX6_startAgainOn_40 : decode cX6_startAgainOn 40 = .ok (.iload_n 2, 1) := by decide +kernel
theorem dX6_startAgainOn_41 : decode cX6_startAgainOn 41 = .ok (.iaload, 1) := by decide +kernel
theorem dX6_startAgainOn_42 : decode cX6_startAgainOn 42 = .ok (.iload_n 1, 1) := by decide +kernel
theorem dX6_startAgainOn_43 : decode cX6_startAgainOn 43 = .ok (.irem, 1) := by decide +kernel
theorem dX6_startAgainOn_44 : decode cX6_startAgainOn 44 = .ok (.iastore, 1) := by decide +kernel
theorem dX6_startAgainOn_45 : decode cX6_startAgainOn 45 = .ok (.iinc 2 1, 3) := by decide +kernel
theorem dX6_startAgainOn_48 : decode cX6_startAgainOn 48 = .ok (.goto (-46), 3) := by decide +kernel
theorem dX6_startAgainOn_51 : decode cX6_startAgainOn 51 = .ok (.return_, 1) := by decide +kernel
theorem dX6_unfinishedBits_0 : decode cX6_unfinishedBits 0 = .ok (.iconst 0, 1) := by decide +kernel
theorem dX6_unfinishedBits_1 : decode cX6_unfinishedBits 1 = .ok (.istore_n 1, 1) := by decide +kernel
theorem dX6_unfinishedBits_2 : decode cX6_unfinishedBits 2 = .ok (.iconst 0, 1) := by decide +kernel
theorem dX6_unfinishedBits_3 : decode cX6_unfinishedBits 3 = .ok (.istore_n 2, 1) := by decide +kernel
theorem dX6_unfinishedBits_4 : decode cX6_unfinishedBits 4 = .ok (.iload_n 2, 1) := by decide +kernel
theorem dX6_unfinishedBits_5 : decode cX6_unfinishedBits 5 = .ok (.aload_n 0, 1) := by decide +kernel
theorem dX6_unfinishedBits_6 : decode cX6_unfinishedBits 6 = .ok (.getfield 9, 3) := by decide +kernel
theorem dX6_unfinishedBits_9 : decode cX6_unfinishedBits 9 = .ok (.if_icmp .ge 35, 3) := by decide +kernel
theorem dX6_unfinishedBits_12 : decode cX6_unfinishedBits 12 = .ok (.aload_n 0, 1) := by decide +kernel
theorem dX6_unfinishedBits_13 : decode cX6_unfinishedBits 13 = .ok (.getfield 18, 3) := by decide +kernel
theorem dX6_unfinishedBits_16 : decode cX6_unfinishedBits 16 = .ok (.iload_n 2, 1) := by decide +kernel
theorem dX6_unfinishedBits_17 : decode cX6_unfinishedBits 17 = .ok (.iaload, 1) := by decide +kernel
theorem dX6_unfinishedBits_18 : decode cX6_unfinishedBits 18 = .ok (.iconst 4, 1) := by decide +kernel
theorem dX6_unfinishedBits_19 : decode cX6_unfinishedBits 19 = .ok (.if_icmp .eq 19, 3) := by decide +kernel
theorem dX6_unfinishedBits_22 : decode cX6_unfinishedBits 22 = .ok (.aload_n 0, 1) := by decide +kernel
theorem dX6_unfinishedBits_23 : decode cX6_unfinishedBits 23 = .ok (.getfield 18, 3) := by decide +kernel
theorem dX6_unfinishedBits_26 : decode cX6_unfinishedBits 26 = .ok (.iload_n 2, 1) := by decide +kernel
theorem dX6_unfinishedBits_27 : decode cX6_unfinishedBits 27 = .ok (.iaload, 1) := by decide +kernel
theorem dX6_unfinishedBits_28 : decode cX6_unfinishedBits 28 = .ok (.iconst 5, 1) := by decide +kernel
theorem dX6_unfinishedBits_29 : decode cX6_unfinishedBits 29 = .ok (.if_icmp .eq 9, 3) := by decide +kernel
theorem dX6_unfinishedBits_32 : decode cX6_unfinishedBits 32 = .ok (.iload_n 1, 1) := by decide +kernel
theorem dX6_unfinishedBits_33 : decode cX6_unfinishedBits 33 = .ok (.iconst 1, 1) := by decide +kernel
theorem dX6_unfinishedBits_34 : decode cX6_unfinishedBits 34 = .ok (.iload_n 2, 1) := by decide +kernel
theorem dX6_unfinishedBits_35 : decode cX6_unfinishedBits 35 = .ok (.ishl, 1) := by decide +kernel
theorem dX6_unfinishedBits_36 : decode cX6_unfinishedBits 36 = .ok (.ior, 1) := by decide +kernel
theorem dX6_unfinishedBits_37 : decode cX6_unfinishedBits 37 = .ok (.istore_n 1, 1) := by decide +kernel
theorem dX6_unfinishedBits_38 : decode cX6_unfinishedBits 38 = .ok (.iinc 2 1, 3) := by decide +kernel
theorem dX6_unfinishedBits_41 : decode cX6_unfinishedBits 41 = .ok (.goto (-37), 3) := by decide +kernel
theorem dX6_unfinishedBits_44 : decode cX6_unfinishedBits 44 = .ok (.iload_n 1, 1) := by decide +kernel
theorem dX6_unfinishedBits_45 : decode cX6_unfinishedBits 45 = .ok (.ireturn, 1) := by decide +kernel
theorem dX6_finishedTotal_0 : decode cX6_finishedTotal 0 = .ok (.aload_n 0, 1) := by decide +kernel
theorem dX6_finishedTotal_1 : decode cX6_finishedTotal 1 = .ok (.getfield 9, 3) := by decide +kernel
theorem dX6_finishedTotal_4 : decode cX6_finishedTotal 4 = .ok (.aload_n 0, 1) := by decide +kernel
theorem dX6_finishedTotal_5 : decode cX6_finishedTotal 5 = .ok (.invokevirtual 52, 3) := by decide +kernel
theorem dX6_finishedTotal_8 : decode cX6_finishedTotal 8 = .ok (.invokestatic 56, 3) := by decide +kernel
theorem dX6_finishedTotal_11 : decode cX6_finishedTotal 11 = .ok (.isub, 1) := by decide +kernel
theorem dX6_finishedTotal_12 : decode cX6_finishedTotal 12 = .ok (.ireturn, 1) := by decide +kernel
theorem dX6_opens_0 : decode cX6_opens 0 = .ok (.aload_n 0, 1) := by decide +kernel
theorem dX6_opens_1 : decode cX6_opens 1 = .ok (.getfield 40, 3) := by decide +kernel
theorem dX6_opens_4 : decode cX6_opens 4 = .ok (.iload_n 1, 1) := by decide +kernel
theorem dX6_opens_5 : decode cX6_opens 5 = .ok (.iaload, 1) := by decide +kernel
theorem dX6_opens_6 : decode cX6_opens 6 = .ok (.istore_n 3, 1) := by decide +kernel
theorem dX6_opens_7 : decode cX6_opens 7 = .ok (.iload_n 3, 1) := by decide +kernel
theorem dX6_opens_8 : decode cX6_opens 8 = .ok (.bipush 32, 2) := by decide +kernel
theorem dX6_opens_10 : decode cX6_opens 10 = .ok (.if_icmp .ge 11, 3) := by decide +kernel
theorem dX6_opens_13 : decode cX6_opens 13 = .ok (.iconst 1, 1) := by decide +kernel
theorem dX6_opens_14 : decode cX6_opens 14 = .ok (.iload_n 3, 1) := by decide +kernel
theorem dX6_opens_15 : decode cX6_opens 15 = .ok (.ishl, 1) := by decide +kernel
theorem dX6_opens_16 : decode cX6_opens 16 = .ok (.iconst 1, 1) := by decide +kernel
theorem dX6_opens_17 : decode cX6_opens 17 = .ok (.isub, 1) := by decide +kernel
theorem dX6_opens_18 : decode cX6_opens 18 = .ok (.goto 4, 3) := by decide +kernel
theorem dX6_opens_21 : decode cX6_opens 21 = .ok (.iconst (-1), 1) := by decide +kernel
theorem dX6_opens_22 : decode cX6_opens 22 = .ok (.istore 4, 2) := by decide +kernel
theorem dX6_opens_24 : decode cX6_opens 24 = .ok (.iload_n 2, 1) := by decide +kernel
theorem dX6_opens_25 : decode cX6_opens 25 = .ok (.iload 4, 2) := by decide +kernel
theorem dX6_opens_27 : decode cX6_opens 27 = .ok (.iand, 1) := by decide +kernel
theorem dX6_opens_28 : decode cX6_opens 28 = .ok (.ifCond .ne 7, 3) := by decide +kernel
theorem dX6_opens_31 : decode cX6_opens 31 = .ok (.iconst 1, 1) := by decide +kernel
theorem dX6_opens_32 : decode cX6_opens 32 = .ok (.goto 4, 3) := by decide +kernel
theorem dX6_opens_35 : decode cX6_opens 35 = .ok (.iconst 0, 1) := by decide +kernel
theorem dX6_opens_36 : decode cX6_opens 36 = .ok (.ireturn, 1) := by decide +kernel
theorem dX6_counterOf_0 : decode cX6_counterOf 0 = .ok (.aload_n 0, 1) := by decide +kernel
theorem dX6_counterOf_1 : decode cX6_counterOf 1 = .ok (.getfield 31, 3) := by decide +kernel
theorem dX6_counterOf_4 : decode cX6_counterOf 4 = .ok (.iload_n 1, 1) := by decide +kernel
theorem dX6_counterOf_5 : decode cX6_counterOf 5 = .ok (.iaload, 1) := by decide +kernel
theorem dX6_counterOf_6 : decode cX6_counterOf 6 = .ok (.iload_n 2, 1) := by decide +kernel
theorem dX6_counterOf_7 : decode cX6_counterOf 7 = .ok (.iand, 1) := by decide +kernel
theorem dX6_counterOf_8 : decode cX6_counterOf 8 = .ok (.invokestatic 56, 3) := by decide +kernel
theorem dX6_counterOf_11 : decode cX6_counterOf 11 = .ok (.istore_n 3, 1) := by decide +kernel
theorem dX6_counterOf_12 : decode cX6_counterOf 12 = .ok (.iconst 0, 1) := by decide +kernel
theorem dX6_counterOf_13 : decode cX6_counterOf 13 = .ok (.istore 4, 2) := by decide +kernel
theorem dX6_counterOf_15 : decode cX6_counterOf 15 = .ok (.iload 4, 2) := by decide +kernel
theorem dX6_counterOf_17 : decode cX6_counterOf 17 = .ok (.aload_n 0, 1) := by decide +kernel
theorem dX6_counterOf_18 : decode cX6_counterOf 18 = .ok (.getfield 15, 3) := by decide +kernel
theorem dX6_counterOf_21 : decode cX6_counterOf 21 = .ok (.if_icmp .ge 33, 3) := by decide +kernel
theorem dX6_counterOf_24 : decode cX6_counterOf 24 = .ok (.aload_n 0, 1) := by decide +kernel
theorem dX6_counterOf_25 : decode cX6_counterOf 25 = .ok (.getfield 40, 3) := by decide +kernel
theorem dX6_counterOf_28 : decode cX6_counterOf 28 = .ok (.iload 4, 2) := by decide +kernel
theorem dX6_counterOf_30 : decode cX6_counterOf 30 = .ok (.iaload, 1) := by decide +kernel
theorem dX6_counterOf_31 : decode cX6_counterOf 31 = .ok (.iload_n 1, 1) := by decide +kernel
theorem dX6_counterOf_32 : decode cX6_counterOf 32 = .ok (.if_icmp .gt 16, 3) := by decide +kernel
theorem dX6_counterOf_35 : decode cX6_counterOf 35 = .ok (.aload_n 0, 1) := by decide +kernel
theorem dX6_counterOf_36 : decode cX6_counterOf 36 = .ok (.iload 4, 2) := by decide +kernel
theorem dX6_counterOf_38 : decode cX6_counterOf 38 = .ok (.iload_n 2, 1) := by decide +kernel
theorem dX6_counterOf_39 : decode cX6_counterOf 39 = .ok (.invokevirtual 62, 3) := by decide +kernel
theorem dX6_counterOf_42 : decode cX6_counterOf 42 = .ok (.ifCond .ne 6, 3) := by decide +kernel
theorem dX6_counterOf_45 : decode cX6_counterOf 45 = .ok (.iinc 3 1, 3) := by decide +kernel
theorem dX6_counterOf_48 : decode cX6_counterOf 48 = .ok (.iinc 4 1, 3) := by decide +kernel
theorem dX6_counterOf_51 : decode cX6_counterOf 51 = .ok (.goto (-36), 3) := by decide +kernel
theorem dX6_counterOf_54 : decode cX6_counterOf 54 = .ok (.iload_n 3, 1) := by decide +kernel
theorem dX6_counterOf_55 : decode cX6_counterOf 55 = .ok (.ireturn, 1) := by decide +kernel
theorem dX6_longestChain_0 : decode cX6_longestChain 0 = .ok (.aload_n 0, 1) := by decide +kernel
theorem dX6_longestChain_1 : decode cX6_longestChain 1 = .ok (.invokevirtual 52, 3) := by decide +kernel
theorem dX6_longestChain_4 : decode cX6_longestChain 4 = .ok (.istore_n 1, 1) := by decide +kernel
theorem dX6_longestChain_5 : decode cX6_longestChain 5 = .ok (.iconst 0, 1) := by decide +kernel
theorem dX6_longestChain_6 : decode cX6_longestChain 6 = .ok (.istore_n 2, 1) := by decide +kernel
theorem dX6_longestChain_7 : decode cX6_longestChain 7 = .ok (.iconst 0, 1) := by decide +kernel
theorem dX6_longestChain_8 : decode cX6_longestChain 8 = .ok (.istore_n 3, 1) := by decide +kernel
theorem dX6_longestChain_9 : decode cX6_longestChain 9 = .ok (.iload_n 3, 1) := by decide +kernel
theorem dX6_longestChain_10 : decode cX6_longestChain 10 = .ok (.aload_n 0, 1) := by decide +kernel
theorem dX6_longestChain_11 : decode cX6_longestChain 11 = .ok (.getfield 9, 3) := by decide +kernel
theorem dX6_longestChain_14 : decode cX6_longestChain 14 = .ok (.if_icmp .ge 53, 3) := by decide +kernel
theorem dX6_longestChain_17 : decode cX6_longestChain 17 = .ok (.aload_n 0, 1) := by decide +kernel
theorem dX6_longestChain_18 : decode cX6_longestChain 18 = .ok (.getfield 43, 3) := by decide +kernel
theorem dX6_longestChain_21 : decode cX6_longestChain 21 = .ok (.iload_n 3, 1) := by decide +kernel
theorem dX6_longestChain_22 : decode cX6_longestChain 22 = .ok (.iconst 0, 1) := by decide +kernel
theorem dX6_longestChain_23 : decode cX6_longestChain 23 = .ok (.iastore, 1) := by decide +kernel
theorem dX6_longestChain_24 : decode cX6_longestChain 24 = .ok (.iload_n 1, 1) := by decide +kernel
theorem dX6_longestChain_25 : decode cX6_longestChain 25 = .ok (.iload_n 3, 1) := by decide +kernel
theorem dX6_longestChain_26 : decode cX6_longestChain 26 = .ok (.invokestatic 66, 3) := by decide +kernel
theorem dX6_longestChain_29 : decode cX6_longestChain 29 = .ok (.ifCond .eq 32, 3) := by decide +kernel
theorem dX6_longestChain_32 : decode cX6_longestChain 32 = .ok (.aload_n 0, 1) := by decide +kernel
theorem dX6_longestChain_33 : decode cX6_longestChain 33 = .ok (.getfield 43, 3) := by decide +kernel
theorem dX6_longestChain_36 : decode cX6_longestChain 36 = .ok (.iload_n 3, 1) := by decide +kernel
theorem dX6_longestChain_37 : decode cX6_longestChain 37 = .ok (.aload_n 0, 1) := by decide +kernel
theorem dX6_longestChain_38 : decode cX6_longestChain 38 = .ok (.getfield 22, 3) := by decide +kernel
theorem dX6_longestChain_41 : decode cX6_longestChain 41 = .ok (.iload_n 3, 1) := by decide +kernel
theorem dX6_longestChain_42 : decode cX6_longestChain 42 = .ok (.iaload, 1) := by decide +kernel
theorem dX6_longestChain_43 : decode cX6_longestChain 43 = .ok (.aload_n 0, 1) := by decide +kernel
theorem dX6_longestChain_44 : decode cX6_longestChain 44 = .ok (.iload_n 3, 1) := by decide +kernel
theorem dX6_longestChain_45 : decode cX6_longestChain 45 = .ok (.invokevirtual 69, 3) := by decide +kernel
theorem dX6_longestChain_48 : decode cX6_longestChain 48 = .ok (.iadd, 1) := by decide +kernel
theorem dX6_longestChain_49 : decode cX6_longestChain 49 = .ok (.iastore, 1) := by decide +kernel
theorem dX6_longestChain_50 : decode cX6_longestChain 50 = .ok (.iload_n 2, 1) := by decide +kernel
theorem dX6_longestChain_51 : decode cX6_longestChain 51 = .ok (.aload_n 0, 1) := by decide +kernel
theorem dX6_longestChain_52 : decode cX6_longestChain 52 = .ok (.getfield 43, 3) := by decide +kernel
theorem dX6_longestChain_55 : decode cX6_longestChain 55 = .ok (.iload_n 3, 1) := by decide +kernel
theorem dX6_longestChain_56 : decode cX6_longestChain 56 = .ok (.iaload, 1) := by decide +kernel
theorem dX6_longestChain_57 : decode cX6_longestChain 57 = .ok (.invokestatic 72, 3) := by decide +kernel
theorem dX6_longestChain_60 : decode cX6_longestChain 60 = .ok (.istore_n 2, 1) := by decide +kernel
theorem dX6_longestChain_61 : decode cX6_longestChain 61 = .ok (.iinc 3 1, 3) := by decide +kernel
theorem dX6_longestChain_64 : decode cX6_longestChain 64 = .ok (.goto (-55), 3) := by decide +kernel
theorem dX6_longestChain_67 : decode cX6_longestChain 67 = .ok (.iload_n 2, 1) := by decide +kernel
theorem dX6_longestChain_68 : decode cX6_longestChain 68 = .ok (.ireturn, 1) := by decide +kernel
theorem dX6_longestChainBefore_0 : decode cX6_longestChainBefore 0 = .ok (.iconst 0, 1) := by decide +kernel
theorem dX6_longestChainBefore_1 : decode cX6_longestChainBefore 1 = .ok (.istore_n 2, 1) := by decide +kernel
theorem dX6_longestChainBefore_2 : decode cX6_longestChainBefore 2 = .ok (.iconst 0, 1) := by decide +kernel
theorem dX6_longestChainBefore_3 : decode cX6_longestChainBefore 3 = .ok (.istore_n 3, 1) := by decide +kernel
theorem dX6_longestChainBefore_4 : decode cX6_longestChainBefore 4 = .ok (.iload_n 3, 1) := by decide +kernel
theorem dX6_longestChainBefore_5 : decode cX6_longestChainBefore 5 = .ok (.aload_n 0, 1) := by decide +kernel
theorem dX6_longestChainBefore_6 : decode cX6_longestChainBefore 6 = .ok (.getfield 15, 3) := by decide +kernel
theorem dX6_longestChainBefore_9 : decode cX6_longestChainBefore 9 = .ok (.if_icmp .ge 26, 3) := by decide +kernel
theorem dX6_longestChainBefore_12 : decode cX6_longestChainBefore 12 = .ok (.aload_n 0, 1) := by decide +kernel
theorem dX6_longestChainBefore_13 : decode cX6_longestChainBefore 13 = .ok (.getfield 40, 3) := by decide +kernel
theorem dX6_longestChainBefore_16 : decode cX6_longestChainBefore 16 = .ok (.iload_n 3, 1) := by decide +kernel
theorem dX6_longestChainBefore_17 : decode cX6_longestChainBefore 17 = .ok (.iaload, 1) := by decide +kernel
theorem dX6_longestChainBefore_18 : decode cX6_longestChainBefore 18 = .ok (.iload_n 1, 1) := by decide +kernel
theorem dX6_longestChainBefore_19 : decode cX6_longestChainBefore 19 = .ok (.if_icmp .gt 10, 3) := by decide +kernel
theorem dX6_longestChainBefore_22 : decode cX6_longestChainBefore 22 = .ok (.aload_n 0, 1) := by decide +kernel
theorem dX6_longestChainBefore_23 : decode cX6_longestChainBefore 23 = .ok (.getfield 40, 3) := by decide +kernel
theorem dX6_longestChainBefore_26 : decode cX6_longestChainBefore 26 = .ok (.iload_n 3, 1) := by decide +kernel
theorem dX6_longestChainBefore_27 : decode cX6_longestChainBefore 27 = .ok (.iaload, 1) := by decide +kernel
theorem dX6_longestChainBefore_28 : decode cX6_longestChainBefore 28 = .ok (.istore_n 2, 1) := by decide +kernel
theorem dX6_longestChainBefore_29 : decode cX6_longestChainBefore 29 = .ok (.iinc 3 1, 3) := by decide +kernel
theorem dX6_longestChainBefore_32 : decode cX6_longestChainBefore 32 = .ok (.goto (-28), 3) := by decide +kernel
theorem dX6_longestChainBefore_35 : decode cX6_longestChainBefore 35 = .ok (.iconst 0, 1) := by decide +kernel
theorem dX6_longestChainBefore_36 : decode cX6_longestChainBefore 36 = .ok (.istore_n 3, 1) := by decide +kernel
theorem dX6_longestChainBefore_37 : decode cX6_longestChainBefore 37 = .ok (.iconst 0, 1) := by decide +kernel
theorem dX6_longestChainBefore_38 : decode cX6_longestChainBefore 38 = .ok (.istore 4, 2) := by decide +kernel
theorem dX6_longestChainBefore_40 : decode cX6_longestChainBefore 40 = .ok (.iload 4, 2) := by decide +kernel
theorem dX6_longestChainBefore_42 : decode cX6_longestChainBefore 42 = .ok (.iload_n 1, 1) := by decide +kernel
theorem dX6_longestChainBefore_43 : decode cX6_longestChainBefore 43 = .ok (.if_icmp .ge 41, 3) := by decide +kernel
theorem dX6_longestChainBefore_46 : decode cX6_longestChainBefore 46 = .ok (.iload 4, 2) := by decide +kernel
theorem dX6_longestChainBefore_48 : decode cX6_longestChainBefore 48 = .ok (.iload_n 2, 1) := by decide +kernel
theorem dX6_longestChainBefore_49 : decode cX6_longestChainBefore 49 = .ok (.if_icmp .lt 17, 3) := by decide +kernel
theorem dX6_longestChainBefore_52 : decode cX6_longestChainBefore 52 = .ok (.aload_n 0, 1) := by decide +kernel
theorem dX6_longestChainBefore_53 : decode cX6_longestChainBefore 53 = .ok (.getfield 31, 3) := by decide +kernel
theorem dX6_longestChainBefore_56 : decode cX6_longestChainBefore 56 = .ok (.iload_n 1, 1) := by decide +kernel
theorem dX6_longestChainBefore_57 : decode cX6_longestChainBefore 57 = .ok (.iaload, 1) := by decide +kernel
theorem dX6_longestChainBefore_58 : decode cX6_longestChainBefore 58 = .ok (.iload 4, 2) := by decide +kernel
theorem dX6_longestChainBefore_60 : decode cX6_longestChainBefore 60 = .ok (.invokestatic 66, 3) := by decide +kernel
theorem dX6_longestChainBefore_63 : decode cX6_longestChainBefore 63 = .ok (.ifCond .eq 15, 3) := by decide +kernel
theorem dX6_longestChainBefore_66 : decode cX6_longestChainBefore 66 = .ok (.iload_n 3, 1) := by decide +kernel
theorem dX6_longestChainBefore_67 : decode cX6_longestChainBefore 67 = .ok (.aload_n 0, 1) := by decide +kernel
theorem dX6_longestChainBefore_68 : decode cX6_longestChainBefore 68 = .ok (.getfield 43, 3) := by decide +kernel
theorem dX6_longestChainBefore_71 : decode cX6_longestChainBefore 71 = .ok (.iload 4, 2) := by decide +kernel
theorem dX6_longestChainBefore_73 : decode cX6_longestChainBefore 73 = .ok (.iaload, 1) := by decide +kernel
theorem dX6_longestChainBefore_74 : decode cX6_longestChainBefore 74 = .ok (.invokestatic 72, 3) := by decide +kernel
theorem dX6_longestChainBefore_77 : decode cX6_longestChainBefore 77 = .ok (.istore_n 3, 1) := by decide +kernel
theorem dX6_longestChainBefore_78 : decode cX6_longestChainBefore 78 = .ok (.iinc 4 1, 3) := by decide +kernel
theorem dX6_longestChainBefore_81 : decode cX6_longestChainBefore 81 = .ok (.goto (-41), 3) := by decide +kernel
theorem dX6_longestChainBefore_84 : decode cX6_longestChainBefore 84 = .ok (.iload_n 3, 1) := by decide +kernel
theorem dX6_longestChainBefore_85 : decode cX6_longestChainBefore 85 = .ok (.ireturn, 1) := by decide +kernel
theorem dX6_readyAllFree_0 : decode cX6_readyAllFree 0 = .ok (.aload_n 0, 1) := by decide +kernel
theorem dX6_readyAllFree_1 : decode cX6_readyAllFree 1 = .ok (.invokevirtual 52, 3) := by decide +kernel
theorem dX6_readyAllFree_4 : decode cX6_readyAllFree 4 = .ok (.istore_n 1, 1) := by decide +kernel
theorem dX6_readyAllFree_5 : decode cX6_readyAllFree 5 = .ok (.iconst 0, 1) := by decide +kernel
theorem dX6_readyAllFree_6 : decode cX6_readyAllFree 6 = .ok (.istore_n 2, 1) := by decide +kernel
theorem dX6_readyAllFree_7 : decode cX6_readyAllFree 7 = .ok (.iload_n 2, 1) := by decide +kernel
theorem dX6_readyAllFree_8 : decode cX6_readyAllFree 8 = .ok (.aload_n 0, 1) := by decide +kernel
theorem dX6_readyAllFree_9 : decode cX6_readyAllFree 9 = .ok (.getfield 9, 3) := by decide +kernel
theorem dX6_readyAllFree_12 : decode cX6_readyAllFree 12 = .ok (.if_icmp .ge 34, 3) := by decide +kernel
theorem dX6_readyAllFree_15 : decode cX6_readyAllFree 15 = .ok (.aload_n 0, 1) := by decide +kernel
theorem dX6_readyAllFree_16 : decode cX6_readyAllFree 16 = .ok (.getfield 18, 3) := by decide +kernel
theorem dX6_readyAllFree_19 : decode cX6_readyAllFree 19 = .ok (.iload_n 2, 1) := by decide +kernel
theorem dX6_readyAllFree_20 : decode cX6_readyAllFree 20 = .ok (.iaload, 1) := by decide +kernel
theorem dX6_readyAllFree_21 : decode cX6_readyAllFree 21 = .ok (.ifCond .ne 19, 3) := by decide +kernel
theorem dX6_readyAllFree_24 : decode cX6_readyAllFree 24 = .ok (.aload_n 0, 1) := by decide +kernel
theorem dX6_readyAllFree_25 : decode cX6_readyAllFree 25 = .ok (.iload_n 2, 1) := by decide +kernel
theorem dX6_readyAllFree_26 : decode cX6_readyAllFree 26 = .ok (.iload_n 1, 1) := by decide +kernel
theorem dX6_readyAllFree_27 : decode cX6_readyAllFree 27 = .ok (.invokevirtual 78, 3) := by decide +kernel
theorem dX6_readyAllFree_30 : decode cX6_readyAllFree 30 = .ok (.ifCond .ne 10, 3) := by decide +kernel
theorem dX6_readyAllFree_33 : decode cX6_readyAllFree 33 = .ok (.aload_n 0, 1) := by decide +kernel
theorem dX6_readyAllFree_34 : decode cX6_readyAllFree 34 = .ok (.getfield 18, 3) := by decide +kernel
theorem dX6_readyAllFree_37 : decode cX6_readyAllFree 37 = .ok (.iload_n 2, 1) := by decide +kernel
theorem dX6_readyAllFree_38 : decode cX6_readyAllFree 38 = .ok (.iconst 1, 1) := by decide +kernel
theorem dX6_readyAllFree_39 : decode cX6_readyAllFree 39 = .ok (.iastore, 1) := by decide +kernel
theorem dX6_readyAllFree_40 : decode cX6_readyAllFree 40 = .ok (.iinc 2 1, 3) := by decide +kernel
theorem dX6_readyAllFree_43 : decode cX6_readyAllFree 43 = .ok (.goto (-36), 3) := by decide +kernel
theorem dX6_readyAllFree_46 : decode cX6_readyAllFree 46 = .ok (.return_, 1) := by decide +kernel
theorem dX6_firstReady_0 : decode cX6_firstReady 0 = .ok (.iconst (-1), 1) := by decide +kernel
theorem dX6_firstReady_1 : decode cX6_firstReady 1 = .ok (.istore_n 1, 1) := by decide +kernel
theorem dX6_firstReady_2 : decode cX6_firstReady 2 = .ok (.iconst 0, 1) := by decide +kernel
theorem dX6_firstReady_3 : decode cX6_firstReady 3 = .ok (.istore_n 2, 1) := by decide +kernel
theorem dX6_firstReady_4 : decode cX6_firstReady 4 = .ok (.iload_n 2, 1) := by decide +kernel
theorem dX6_firstReady_5 : decode cX6_firstReady 5 = .ok (.aload_n 0, 1) := by decide +kernel
theorem dX6_firstReady_6 : decode cX6_firstReady 6 = .ok (.getfield 9, 3) := by decide +kernel
theorem dX6_firstReady_9 : decode cX6_firstReady 9 = .ok (.if_icmp .ge 40, 3) := by decide +kernel
theorem dX6_firstReady_12 : decode cX6_firstReady 12 = .ok (.aload_n 0, 1) := by decide +kernel
theorem dX6_firstReady_13 : decode cX6_firstReady 13 = .ok (.getfield 18, 3) := by decide +kernel
theorem dX6_firstReady_16 : decode cX6_firstReady 16 = .ok (.iload_n 2, 1) := by decide +kernel
theorem dX6_firstReady_17 : decode cX6_firstReady 17 = .ok (.iaload, 1) := by decide +kernel
theorem dX6_firstReady_18 : decode cX6_firstReady 18 = .ok (.iconst 1, 1) := by decide +kernel
theorem dX6_firstReady_19 : decode cX6_firstReady 19 = .ok (.if_icmp .ne 24, 3) := by decide +kernel
theorem dX6_firstReady_22 : decode cX6_firstReady 22 = .ok (.iload_n 1, 1) := by decide +kernel
theorem dX6_firstReady_23 : decode cX6_firstReady 23 = .ok (.ifCond .lt 18, 3) := by decide +kernel
theorem dX6_firstReady_26 : decode cX6_firstReady 26 = .ok (.aload_n 0, 1) := by decide +kernel
theorem dX6_firstReady_27 : decode cX6_firstReady 27 = .ok (.getfield 25, 3) := by decide +kernel
theorem dX6_firstReady_30 : decode cX6_firstReady 30 = .ok (.iload_n 2, 1) := by decide +kernel
theorem dX6_firstReady_31 : decode cX6_firstReady 31 = .ok (.iaload, 1) := by decide +kernel
theorem dX6_firstReady_32 : decode cX6_firstReady 32 = .ok (.aload_n 0, 1) := by decide +kernel
theorem dX6_firstReady_33 : decode cX6_firstReady 33 = .ok (.getfield 25, 3) := by decide +kernel
theorem dX6_firstReady_36 : decode cX6_firstReady 36 = .ok (.iload_n 1, 1) := by decide +kernel
theorem dX6_firstReady_37 : decode cX6_firstReady 37 = .ok (.iaload, 1) := by decide +kernel
theorem dX6_firstReady_38 : decode cX6_firstReady 38 = .ok (.if_icmp .le 5, 3) := by decide +kernel
theorem dX6_firstReady_41 : decode cX6_firstReady 41 = .ok (.iload_n 2, 1) := by decide +kernel
theorem dX6_firstReady_42 : decode cX6_firstReady 42 = .ok (.istore_n 1, 1) := by decide +kernel
theorem dX6_firstReady_43 : decode cX6_firstReady 43 = .ok (.iinc 2 1, 3) := by decide +kernel
theorem dX6_firstReady_46 : decode cX6_firstReady 46 = .ok (.goto (-42), 3) := by decide +kernel
theorem dX6_firstReady_49 : decode cX6_firstReady 49 = .ok (.iload_n 1, 1) := by decide +kernel
theorem dX6_firstReady_50 : decode cX6_firstReady 50 = .ok (.ireturn, 1) := by decide +kernel
theorem dX7_init_0 : decode cX7_init 0 = .ok (.aload_n 0, 1) := by decide +kernel
theorem dX7_init_1 : decode cX7_init 1 = .ok (.invokespecial 1, 3) := by decide +kernel
theorem dX7_init_4 : decode cX7_init 4 = .ok (.aload_n 0, 1) := by decide +kernel
theorem dX7_init_5 : decode cX7_init 5 = .ok (.new 7, 3) := by decide +kernel
theorem dX7_init_8 : decode cX7_init 8 = .ok (.dup, 1) := by decide +kernel
theorem dX7_init_9 : decode cX7_init 9 = .ok (.invokespecial 9, 3) := by decide +kernel
theorem dX7_init_12 : decode cX7_init 12 = .ok (.putfield 10, 3) := by decide +kernel
theorem dX7_init_15 : decode cX7_init 15 = .ok (.aload_n 0, 1) := by decide +kernel
theorem dX7_init_16 : decode cX7_init 16 = .ok (.new 16, 3) := by decide +kernel
theorem dX7_init_19 : decode cX7_init 19 = .ok (.dup, 1) := by decide +kernel
theorem dX7_init_20 : decode cX7_init 20 = .ok (.invokespecial 18, 3) := by decide +kernel
theorem dX7_init_23 : decode cX7_init 23 = .ok (.putfield 19, 3) := by decide +kernel
theorem dX7_init_26 : decode cX7_init 26 = .ok (.aload_n 0, 1) := by decide +kernel
theorem dX7_init_27 : decode cX7_init 27 = .ok (.new 16, 3) := by decide +kernel
theorem dX7_init_30 : decode cX7_init 30 = .ok (.dup, 1) := by decide +kernel
theorem dX7_init_31 : decode cX7_init 31 = .ok (.invokespecial 18, 3) := by decide +kernel
theorem dX7_init_34 : decode cX7_init 34 = .ok (.putfield 23, 3) := by decide +kernel
theorem dX7_init_37 : decode cX7_init 37 = .ok (.aload_n 0, 1) := by decide +kernel
theorem dX7_init_38 : decode cX7_init 38 = .ok (.new 26, 3) := by decide +kernel
theorem dX7_init_41 : decode cX7_init 41 = .ok (.dup, 1) := by decide +kernel
theorem dX7_init_42 : decode cX7_init 42 = .ok (.invokespecial 28, 3) := by decide +kernel
theorem dX7_init_45 : decode cX7_init 45 = .ok (.putfield 29, 3) := by decide +kernel
theorem dX7_init_48 : decode cX7_init 48 = .ok (.aload_n 0, 1) := by decide +kernel
theorem dX7_init_49 : decode cX7_init 49 = .ok (.iconst (-1), 1) := by decide +kernel
theorem dX7_init_50 : decode cX7_init 50 = .ok (.putfield 33, 3) := by decide +kernel
theorem dX7_init_53 : decode cX7_init 53 = .ok (.return_, 1) := by decide +kernel
theorem dX7_append_0 : decode cX7_append 0 = .ok (.aload_n 0, 1) := by decide +kernel
theorem dX7_append_1 : decode cX7_append 1 = .ok (.getfield 10, 3) := by decide +kernel
theorem dX7_append_4 : decode cX7_append 4 = .ok (.getfield 37, 3) := by decide +kernel
theorem dX7_append_7 : decode cX7_append 7 = .ok (.astore 6, 2) := by decide +kernel
theorem dX7_append_9 : decode cX7_append 9 = .ok (.aload 6, 2) := by decide +kernel
theorem dX7_append_11 : decode cX7_append 11 = .ok (.getfield 41, 3) := by decide +kernel
theorem dX7_append_14 : decode cX7_append 14 = .ok (.sipush 880, 3) := by decide +kernel
theorem dX7_append_17 : decode cX7_append 17 = .ok (.if_icmp .le 5, 3) := by decide +kernel
theorem dX7_append_20 : decode cX7_append 20 = .ok (.iconst (-1), 1) := by decide +kernel
theorem dX7_append_21 : decode cX7_append 21 = .ok (.ireturn, 1) := by decide +kernel
theorem dX7_append_22 : decode cX7_append 22 = .ok (.aload 6, 2) := by decide +kernel
theorem dX7_append_24 : decode cX7_append 24 = .ok (.iload_n 1, 1) := by decide +kernel
theorem dX7_append_25 : decode cX7_append 25 = .ok (.invokevirtual 46, 3) := by decide +kernel
theorem dX7_append_28 : decode cX7_append 28 = .ok (.aload 6, 2) := by decide +kernel
theorem dX7_append_30 : decode cX7_append 30 = .ok (.iload_n 2, 1) := by decide +kernel
theorem dX7_append_31 : decode cX7_append 31 = .ok (.invokevirtual 46, 3) := by decide +kernel
theorem dX7_append_34 : decode cX7_append 34 = .ok (.aload 6, 2) := by decide +kernel
theorem dX7_append_36 : decode cX7_append 36 = .ok (.iload_n 3, 1) := by decide +kernel
theorem dX7_append_37 : decode cX7_append 37 = .ok (.invokevirtual 46, 3) := by decide +kernel
theorem dX7_append_40 : decode cX7_append 40 = .ok (.aload 6, 2) := by decide +kernel
theorem dX7_append_42 : decode cX7_append 42 = .ok (.iload 4, 2) := by decide +kernel
theorem dX7_append_44 : decode cX7_append 44 = .ok (.invokevirtual 46, 3) := by decide +kernel
theorem dX7_append_47 : decode cX7_append 47 = .ok (.aload 6, 2) := by decide +kernel
theorem dX7_append_49 : decode cX7_append 49 = .ok (.iload 5, 2) := by decide +kernel
theorem dX7_append_51 : decode cX7_append 51 = .ok (.invokevirtual 46, 3) := by decide +kernel
theorem dX7_append_54 : decode cX7_append 54 = .ok (.aload 6, 2) := by decide +kernel
theorem dX7_append_56 : decode cX7_append 56 = .ok (.getfield 41, 3) := by decide +kernel
theorem dX7_append_59 : decode cX7_append 59 = .ok (.ireturn, 1) := by decide +kernel
theorem dX7_load_0 : decode cX7_load 0 = .ok (.iload_n 1, 1) := by decide +kernel
theorem dX7_load_1 : decode cX7_load 1 = .ok (.ifCond .lt 17, 3) := by decide +kernel
theorem dX7_load_4 : decode cX7_load 4 = .ok (.iload_n 1, 1) := by decide +kernel
theorem dX7_load_5 : decode cX7_load 5 = .ok (.aload_n 0, 1) := by decide +kernel
theorem dX7_load_6 : decode cX7_load 6 = .ok (.getfield 10, 3) := by decide +kernel
theorem dX7_load_9 : decode cX7_load 9 = .ok (.getfield 37, 3) := by decide +kernel
theorem dX7_load_12 : decode cX7_load 12 = .ok (.getfield 41, 3) := by decide +kernel
theorem dX7_load_15 : decode cX7_load 15 = .ok (.if_icmp .le 13, 3) := by decide +kernel
theorem dX7_load_18 : decode cX7_load 18 = .ok (.new 50, 3) := by decide +kernel
theorem dX7_load_21 : decode cX7_load 21 = .ok (.dup, 1) := by decide +kernel
theorem dX7_load_22 : decode cX7_load 22 = .ok (.ldc 52, 2) := by decide +kernel
theorem dX7_load_24 : decode cX7_load 24 = .ok (.invokespecial 54, 3) := by decide +kernel
theorem dX7_load_27 : decode cX7_load 27 = .ok (.athrow, 1) := by decide +kernel
theorem dX7_load_28 : decode cX7_load 28 = .ok (.aload_n 0, 1) := by decide +kernel
theorem dX7_load_29 : decode cX7_load 29 = .ok (.getfield 10, 3) := by decide +kernel
theorem dX7_load_32 : decode cX7_load 32 = .ok (.iload_n 1, 1) := by decide +kernel
theorem dX7_load_33 : decode cX7_load 33 = .ok (.aload_n 0, 1) := by decide +kernel
theorem dX7_load_34 : decode cX7_load 34 = .ok (.getfield 23, 3) := by decide +kernel
theorem dX7_load_37 : decode cX7_load 37 = .ok (.invokevirtual 57, 3) := by decide +kernel
theorem dX7_load_40 : decode cX7_load 40 = .ok (.istore_n 2, 1) := by decide +kernel
theorem dX7_load_41 : decode cX7_load 41 = .ok (.aload_n 0, 1) := by decide +kernel
theorem dX7_load_42 : decode cX7_load 42 = .ok (.getfield 10, 3) := by decide +kernel
theorem dX7_load_45 : decode cX7_load 45 = .ok (.getfield 37, 3) := by decide +kernel
theorem dX7_load_48 : decode cX7_load 48 = .ok (.iconst 0, 1) := by decide +kernel
theorem dX7_load_49 : decode cX7_load 49 = .ok (.putfield 41, 3) := by decide +kernel
theorem dX7_load_52 : decode cX7_load 52 = .ok (.iload_n 2, 1) := by decide +kernel
theorem dX7_load_53 : decode cX7_load 53 = .ok (.ifCond .ne 22, 3) := by decide +kernel
theorem dX7_load_56 : decode cX7_load 56 = .ok (.aload_n 0, 1) := by decide +kernel
theorem dX7_load_57 : decode cX7_load 57 = .ok (.aload_n 0, 1) := by decide +kernel
theorem dX7_load_58 : decode cX7_load 58 = .ok (.getfield 10, 3) := by decide +kernel
theorem dX7_load_61 : decode cX7_load 61 = .ok (.getfield 61, 3) := by decide +kernel
theorem dX7_load_64 : decode cX7_load 64 = .ok (.putfield 33, 3) := by decide +kernel
theorem dX7_load_67 : decode cX7_load 67 = .ok (.aload_n 0, 1) := by decide +kernel
theorem dX7_load_68 : decode cX7_load 68 = .ok (.getfield 10, 3) := by decide +kernel
theorem dX7_load_71 : decode cX7_load 71 = .ok (.getfield 64, 3) := by decide +kernel
theorem dX7_load_74 : decode cX7_load 74 = .ok (.ireturn, 1) := by decide +kernel
theorem dX7_load_75 : decode cX7_load 75 = .ok (.aload_n 0, 1) := by decide +kernel
theorem dX7_load_76 : decode cX7_load 76 = .ok (.iconst (-1), 1) := by decide +kernel
theorem dX7_load_77 : decode cX7_load 77 = .ok (.putfield 33, 3) := by decide +kernel
theorem dX7_load_80 : decode cX7_load 80 = .ok (.aload_n 0, 1) := by decide +kernel
theorem dX7_load_81 : decode cX7_load 81 = .ok (.getfield 29, 3) := by decide +kernel
theorem dX7_load_84 : decode cX7_load 84 = .ok (.aload_n 0, 1) := by decide +kernel
theorem dX7_load_85 : decode cX7_load 85 = .ok (.getfield 19, 3) := by decide +kernel
theorem dX7_load_88 : decode cX7_load 88 = .ok (.invokevirtual 67, 3) := by decide +kernel
theorem dX7_load_91 : decode cX7_load 91 = .ok (.aload_n 0, 1) := by decide +kernel
theorem dX7_load_92 : decode cX7_load 92 = .ok (.getfield 19, 3) := by decide +kernel
theorem dX7_load_95 : decode cX7_load 95 = .ok (.aload_n 0, 1) := by decide +kernel
theorem dX7_load_96 : decode cX7_load 96 = .ok (.getfield 23, 3) := by decide +kernel
theorem dX7_load_99 : decode cX7_load 99 = .ok (.invokevirtual 71, 3) := by decide +kernel
theorem dX7_load_102 : decode cX7_load 102 = .ok (.aload_n 0, 1) := by decide +kernel
theorem dX7_load_103 : decode cX7_load 103 = .ok (.getfield 19, 3) := by decide +kernel
theorem dX7_load_106 : decode cX7_load 106 = .ok (.getfield 74, 3) := by decide +kernel
theorem dX7_load_109 : decode cX7_load 109 = .ok (.getfield 78, 3) := by decide +kernel
theorem dX7_load_112 : decode cX7_load 112 = .ok (.ireturn, 1) := by decide +kernel
theorem dX7_errorOffset_0 : decode cX7_errorOffset 0 = .ok (.aload_n 0, 1) := by decide +kernel
theorem dX7_errorOffset_1 : decode cX7_errorOffset 1 = .ok (.getfield 33, 3) := by decide +kernel
theorem dX7_errorOffset_4 : decode cX7_errorOffset 4 = .ok (.ireturn, 1) := by decide +kernel
theorem dX7_coreCount_0 : decode cX7_coreCount 0 = .ok (.aload_n 0, 1) := by decide +kernel
theorem dX7_coreCount_1 : decode cX7_coreCount 1 = .ok (.getfield 19, 3) := by decide +kernel
theorem dX7_coreCount_4 : decode cX7_coreCount 4 = .ok (.getfield 83, 3) := by decide +kernel
theorem dX7_coreCount_7 : decode cX7_coreCount 7 = .ok (.getfield 87, 3) := by decide +kernel
theorem dX7_coreCount_10 : decode cX7_coreCount 10 = .ok (.ireturn, 1) := by decide +kernel
theorem dX7_taskCount_0 : decode cX7_taskCount 0 = .ok (.aload_n 0, 1) := by decide +kernel
theorem dX7_taskCount_1 : decode cX7_taskCount 1 = .ok (.getfield 19, 3) := by decide +kernel
theorem dX7_taskCount_4 : decode cX7_taskCount 4 = .ok (.getfield 74, 3) := by decide +kernel
theorem dX7_taskCount_7 : decode cX7_taskCount 7 = .ok (.getfield 78, 3) := by decide +kernel
theorem dX7_taskCount_10 : decode cX7_taskCount 10 = .ok (.ireturn, 1) := by decide +kernel
theorem dX7_fenceCount_0 : decode cX7_fenceCount 0 = .ok (.aload_n 0, 1) := by decide +kernel
theorem dX7_fenceCount_1 : decode cX7_fenceCount 1 = .ok (.getfield 19, 3) := by decide +kernel
theorem dX7_fenceCount_4 : decode cX7_fenceCount 4 = .ok (.getfield 74, 3) := by decide +kernel
theorem dX7_fenceCount_7 : decode cX7_fenceCount 7 = .ok (.getfield 90, 3) := by decide +kernel
theorem dX7_fenceCount_10 : decode cX7_fenceCount 10 = .ok (.ireturn, 1) := by decide +kernel
theorem dX7_clock_0 : decode cX7_clock 0 = .ok (.aload_n 0, 1) := by decide +kernel
theorem dX7_clock_1 : decode cX7_clock 1 = .ok (.getfield 19, 3) := by decide +kernel
theorem dX7_clock_4 : decode cX7_clock 4 = .ok (.getfield 93, 3) := by decide +kernel
theorem dX7_clock_7 : decode cX7_clock 7 = .ok (.ireturn, 1) := by decide +kernel
theorem dX7_state_0 : decode cX7_state 0 = .ok (.aload_n 0, 1) := by decide +kernel
theorem dX7_state_1 : decode cX7_state 1 = .ok (.iload_n 1, 1) := by decide +kernel
theorem dX7_state_2 : decode cX7_state 2 = .ok (.invokevirtual 96, 3) := by decide +kernel
theorem dX7_state_5 : decode cX7_state 5 = .ok (.aload_n 0, 1) := by decide +kernel
theorem dX7_state_6 : decode cX7_state 6 = .ok (.getfield 19, 3) := by decide +kernel
theorem dX7_state_9 : decode cX7_state 9 = .ok (.getfield 74, 3) := by decide +kernel
theorem dX7_state_12 : decode cX7_state 12 = .ok (.getfield 99, 3) := by decide +kernel
theorem dX7_state_15 : decode cX7_state 15 = .ok (.iload_n 1, 1) := by decide +kernel
theorem dX7_state_16 : decode cX7_state 16 = .ok (.iaload, 1) := by decide +kernel
theorem dX7_state_17 : decode cX7_state 17 = .ok (.ireturn, 1) := by decide +kernel
theorem dX7_counter_0 : decode cX7_counter 0 = .ok (.aload_n 0, 1) := by decide +kernel
theorem dX7_counter_1 : decode cX7_counter 1 = .ok (.iload_n 1, 1) := by decide +kernel
theorem dX7_counter_2 : decode cX7_counter 2 = .ok (.invokevirtual 96, 3) := by decide +kernel
theorem dX7_counter_5 : decode cX7_counter 5 = .ok (.aload_n 0, 1) := by decide +kernel
theorem dX7_counter_6 : decode cX7_counter 6 = .ok (.getfield 19, 3) := by decide +kernel
theorem dX7_counter_9 : decode cX7_counter 9 = .ok (.getfield 74, 3) := by decide +kernel
theorem dX7_counter_12 : decode cX7_counter 12 = .ok (.iload_n 1, 1) := by decide +kernel
theorem dX7_counter_13 : decode cX7_counter 13 = .ok (.aload_n 0, 1) := by decide +kernel
theorem dX7_counter_14 : decode cX7_counter 14 = .ok (.getfield 19, 3) := by decide +kernel
theorem dX7_counter_17 : decode cX7_counter 17 = .ok (.getfield 74, 3) := by decide +kernel
theorem dX7_counter_20 : decode cX7_counter 20 = .ok (.invokevirtual 103, 3) := by decide +kernel
theorem dX7_counter_23 : decode cX7_counter 23 = .ok (.invokevirtual 107, 3) := by decide +kernel
theorem dX7_counter_26 : decode cX7_counter 26 = .ok (.ireturn, 1) := by decide +kernel
theorem dX7_priority_0 : decode cX7_priority 0 = .ok (.aload_n 0, 1) := by decide +kernel
theorem dX7_priority_1 : decode cX7_priority 1 = .ok (.iload_n 1, 1) := by decide +kernel
theorem dX7_priority_2 : decode cX7_priority 2 = .ok (.invokevirtual 96, 3) := by decide +kernel
theorem dX7_priority_5 : decode cX7_priority 5 = .ok (.aload_n 0, 1) := by decide +kernel
theorem dX7_priority_6 : decode cX7_priority 6 = .ok (.getfield 19, 3) := by decide +kernel
theorem dX7_priority_9 : decode cX7_priority 9 = .ok (.getfield 74, 3) := by decide +kernel
theorem dX7_priority_12 : decode cX7_priority 12 = .ok (.getfield 111, 3) := by decide +kernel
theorem dX7_priority_15 : decode cX7_priority 15 = .ok (.iload_n 1, 1) := by decide +kernel
theorem dX7_priority_16 : decode cX7_priority 16 = .ok (.iaload, 1) := by decide +kernel
theorem dX7_priority_17 : decode cX7_priority 17 = .ok (.ireturn, 1) := by decide +kernel
theorem dX7_coreOf_0 : decode cX7_coreOf 0 = .ok (.aload_n 0, 1) := by decide +kernel
theorem dX7_coreOf_1 : decode cX7_coreOf 1 = .ok (.iload_n 1, 1) := by decide +kernel
theorem dX7_coreOf_2 : decode cX7_coreOf 2 = .ok (.invokevirtual 96, 3) := by decide +kernel
theorem dX7_coreOf_5 : decode cX7_coreOf 5 = .ok (.aload_n 0, 1) := by decide +kernel
theorem dX7_coreOf_6 : decode cX7_coreOf 6 = .ok (.getfield 19, 3) := by decide +kernel
theorem dX7_coreOf_9 : decode cX7_coreOf 9 = .ok (.getfield 74, 3) := by decide +kernel
theorem dX7_coreOf_12 : decode cX7_coreOf 12 = .ok (.getfield 114, 3) := by decide +kernel
theorem dX7_coreOf_15 : decode cX7_coreOf 15 = .ok (.iload_n 1, 1) := by decide +kernel
theorem dX7_coreOf_16 : decode cX7_coreOf 16 = .ok (.iaload, 1) := by decide +kernel
theorem dX7_coreOf_17 : decode cX7_coreOf 17 = .ok (.ireturn, 1) := by decide +kernel
theorem dX7_doneAt_0 : decode cX7_doneAt 0 = .ok (.aload_n 0, 1) := by decide +kernel
theorem dX7_doneAt_1 : decode cX7_doneAt 1 = .ok (.iload_n 1, 1) := by decide +kernel
theorem dX7_doneAt_2 : decode cX7_doneAt 2 = .ok (.invokevirtual 96, 3) := by decide +kernel
theorem dX7_doneAt_5 : decode cX7_doneAt 5 = .ok (.aload_n 0, 1) := by decide +kernel
theorem dX7_doneAt_6 : decode cX7_doneAt 6 = .ok (.getfield 19, 3) := by decide +kernel
theorem dX7_doneAt_9 : decode cX7_doneAt 9 = .ok (.getfield 74, 3) := by decide +kernel
theorem dX7_doneAt_12 : decode cX7_doneAt 12 = .ok (.getfield 117, 3) := by decide +kernel
theorem dX7_doneAt_15 : decode cX7_doneAt 15 = .ok (.iload_n 1, 1) := by decide +kernel
theorem dX7_doneAt_16 : decode cX7_doneAt 16 = .ok (.iaload, 1) := by decide +kernel
theorem dX7_doneAt_17 : decode cX7_doneAt 17 = .ok (.ireturn, 1) := by decide +kernel
theorem dX7_isOpen_0 : decode cX7_isOpen 0 = .ok (.iload_n 1, 1) := by decide +kernel
theorem dX7_isOpen_1 : decode cX7_isOpen 1 = .ok (.ifCond .lt 17, 3) := by decide +kernel
theorem dX7_isOpen_4 : decode cX7_isOpen 4 = .ok (.iload_n 1, 1) := by decide +kernel
theorem dX7_isOpen_5 : decode cX7_isOpen 5 = .ok (.aload_n 0, 1) := by decide +kernel
theorem dX7_isOpen_6 : decode cX7_isOpen 6 = .ok (.getfield 19, 3) := by decide +kernel
theorem dX7_isOpen_9 : decode cX7_isOpen 9 = .ok (.getfield 74, 3) := by decide +kernel
theorem dX7_isOpen_12 : decode cX7_isOpen 12 = .ok (.getfield 90, 3) := by decide +kernel
theorem dX7_isOpen_15 : decode cX7_isOpen 15 = .ok (.if_icmp .lt 13, 3) := by decide +kernel
theorem dX7_isOpen_18 : decode cX7_isOpen 18 = .ok (.new 120, 3) := by decide +kernel
theorem dX7_isOpen_21 : decode cX7_isOpen 21 = .ok (.dup, 1) := by decide +kernel
theorem dX7_isOpen_22 : decode cX7_isOpen 22 = .ok (.ldc 122, 2) := by decide +kernel
theorem dX7_isOpen_24 : decode cX7_isOpen 24 = .ok (.invokespecial 124, 3) := by decide +kernel
theorem dX7_isOpen_27 : decode cX7_isOpen 27 = .ok (.athrow, 1) := by decide +kernel
theorem dX7_isOpen_28 : decode cX7_isOpen 28 = .ok (.aload_n 0, 1) := by decide +kernel
theorem dX7_isOpen_29 : decode cX7_isOpen 29 = .ok (.getfield 19, 3) := by decide +kernel
theorem dX7_isOpen_32 : decode cX7_isOpen 32 = .ok (.getfield 74, 3) := by decide +kernel
theorem dX7_isOpen_35 : decode cX7_isOpen 35 = .ok (.iload_n 1, 1) := by decide +kernel
theorem dX7_isOpen_36 : decode cX7_isOpen 36 = .ok (.aload_n 0, 1) := by decide +kernel
theorem dX7_isOpen_37 : decode cX7_isOpen 37 = .ok (.getfield 19, 3) := by decide +kernel
theorem dX7_isOpen_40 : decode cX7_isOpen 40 = .ok (.getfield 74, 3) := by decide +kernel
theorem dX7_isOpen_43 : decode cX7_isOpen 43 = .ok (.invokevirtual 103, 3) := by decide +kernel
theorem dX7_isOpen_46 : decode cX7_isOpen 46 = .ok (.invokevirtual 125, 3) := by decide +kernel
theorem dX7_isOpen_49 : decode cX7_isOpen 49 = .ok (.ireturn, 1) := by decide +kernel
theorem dX7_queueLength_0 : decode cX7_queueLength 0 = .ok (.aload_n 0, 1) := by decide +kernel
theorem dX7_queueLength_1 : decode cX7_queueLength 1 = .ok (.iload_n 1, 1) := by decide +kernel
theorem dX7_queueLength_2 : decode cX7_queueLength 2 = .ok (.invokevirtual 129, 3) := by decide +kernel
theorem dX7_queueLength_5 : decode cX7_queueLength 5 = .ok (.aload_n 0, 1) := by decide +kernel
theorem dX7_queueLength_6 : decode cX7_queueLength 6 = .ok (.getfield 19, 3) := by decide +kernel
theorem dX7_queueLength_9 : decode cX7_queueLength 9 = .ok (.getfield 83, 3) := by decide +kernel
theorem dX7_queueLength_12 : decode cX7_queueLength 12 = .ok (.getfield 132, 3) := by decide +kernel
theorem dX7_queueLength_15 : decode cX7_queueLength 15 = .ok (.iload_n 1, 1) := by decide +kernel
theorem dX7_queueLength_16 : decode cX7_queueLength 16 = .ok (.iaload, 1) := by decide +kernel
theorem dX7_queueLength_17 : decode cX7_queueLength 17 = .ok (.ireturn, 1) := by decide +kernel
theorem dX7_queued_0 : decode cX7_queued 0 = .ok (.aload_n 0, 1) := by decide +kernel
theorem dX7_queued_1 : decode cX7_queued 1 = .ok (.iload_n 1, 1) := by decide +kernel
theorem dX7_queued_2 : decode cX7_queued 2 = .ok (.invokevirtual 129, 3) := by decide +kernel
theorem dX7_queued_5 : decode cX7_queued 5 = .ok (.iload_n 2, 1) := by decide +kernel
theorem dX7_queued_6 : decode cX7_queued 6 = .ok (.ifCond .lt 19, 3) := by decide +kernel
theorem dX7_queued_9 : decode cX7_queued 9 = .ok (.iload_n 2, 1) := by decide +kernel
theorem dX7_queued_10 : decode cX7_queued 10 = .ok (.aload_n 0, 1) := by decide +kernel
theorem dX7_queued_11 : decode cX7_queued 11 = .ok (.getfield 19, 3) := by decide +kernel
theorem dX7_queued_14 : decode cX7_queued 14 = .ok (.getfield 83, 3) := by decide +kernel
theorem dX7_queued_17 : decode cX7_queued 17 = .ok (.getfield 132, 3) := by decide +kernel
theorem dX7_queued_20 : decode cX7_queued 20 = .ok (.iload_n 1, 1) := by decide +kernel
theorem dX7_queued_21 : decode cX7_queued 21 = .ok (.iaload, 1) := by decide +kernel
theorem dX7_queued_22 : decode cX7_queued 22 = .ok (.if_icmp .lt 13, 3) := by decide +kernel
theorem dX7_queued_25 : decode cX7_queued 25 = .ok (.new 120, 3) := by decide +kernel
theorem dX7_queued_28 : decode cX7_queued 28 = .ok (.dup, 1) := by decide +kernel
theorem dX7_queued_29 : decode cX7_queued 29 = .ok (.ldc 135, 2) := by decide +kernel
theorem dX7_queued_31 : decode cX7_queued 31 = .ok (.invokespecial 124, 3) := by decide +kernel
theorem dX7_queued_34 : decode cX7_queued 34 = .ok (.athrow, 1) := by decide +kernel
theorem dX7_queued_35 : decode cX7_queued 35 = .ok (.aload_n 0, 1) := by decide +kernel
theorem dX7_queued_36 : decode cX7_queued 36 = .ok (.getfield 19, 3) := by decide +kernel
theorem dX7_queued_39 : decode cX7_queued 39 = .ok (.getfield 83, 3) := by decide +kernel
theorem dX7_queued_42 : decode cX7_queued 42 = .ok (.getfield 137, 3) := by decide +kernel
theorem dX7_queued_45 : decode cX7_queued 45 = .ok (.iload_n 1, 1) := by decide +kernel
theorem dX7_queued_46 : decode cX7_queued 46 = .ok (.bipush 8, 2) := by decide +kernel
theorem dX7_queued_48 : decode cX7_queued 48 = .ok (.imul, 1) := by decide +kernel
theorem dX7_queued_49 : decode cX7_queued 49 = .ok (.iload_n 2, 1) := by decide +kernel
theorem dX7_queued_50 : decode cX7_queued 50 = .ok (.iadd, 1) := by decide +kernel
theorem dX7_queued_51 : decode cX7_queued 51 = .ok (.iaload, 1) := by decide +kernel
theorem dX7_queued_52 : decode cX7_queued 52 = .ok (.ireturn, 1) := by decide +kernel
theorem dX7_running_0 : decode cX7_running 0 = .ok (.aload_n 0, 1) := by decide +kernel
theorem dX7_running_1 : decode cX7_running 1 = .ok (.iload_n 1, 1) := by decide +kernel
theorem dX7_running_2 : decode cX7_running 2 = .ok (.invokevirtual 129, 3) := by decide +kernel
theorem dX7_running_5 : decode cX7_running 5 = .ok (.aload_n 0, 1) := by decide +kernel
theorem dX7_running_6 : decode cX7_running 6 = .ok (.getfield 19, 3) := by decide +kernel
theorem dX7_running_9 : decode cX7_running 9 = .ok (.getfield 83, 3) := by decide +kernel
theorem dX7_running_12 : decode cX7_running 12 = .ok (.getfield 140, 3) := by decide +kernel
theorem dX7_running_15 : decode cX7_running 15 = .ok (.iload_n 1, 1) := by decide +kernel
theorem dX7_running_16 : decode cX7_running 16 = .ok (.iaload, 1) := by decide +kernel
theorem dX7_running_17 : decode cX7_running 17 = .ok (.ireturn, 1) := by decide +kernel
theorem dX7_remaining_0 : decode cX7_remaining 0 = .ok (.aload_n 0, 1) := by decide +kernel
theorem dX7_remaining_1 : decode cX7_remaining 1 = .ok (.iload_n 1, 1) := by decide +kernel
theorem dX7_remaining_2 : decode cX7_remaining 2 = .ok (.invokevirtual 129, 3) := by decide +kernel
theorem dX7_remaining_5 : decode cX7_remaining 5 = .ok (.aload_n 0, 1) := by decide +kernel
theorem dX7_remaining_6 : decode cX7_remaining 6 = .ok (.getfield 19, 3) := by decide +kernel
theorem dX7_remaining_9 : decode cX7_remaining 9 = .ok (.getfield 83, 3) := by decide +kernel
theorem dX7_remaining_12 : decode cX7_remaining 12 = .ok (.getfield 143, 3) := by decide +kernel
theorem dX7_remaining_15 : decode cX7_remaining 15 = .ok (.iload_n 1, 1) := by decide +kernel
theorem dX7_remaining_16 : decode cX7_remaining 16 = .ok (.iaload, 1) := by decide +kernel
theorem dX7_remaining_17 : decode cX7_remaining 17 = .ok (.ireturn, 1) := by decide +kernel
theorem dX7_busy_0 : decode cX7_busy 0 = .ok (.aload_n 0, 1) := by decide +kernel
theorem dX7_busy_1 : decode cX7_busy 1 = .ok (.iload_n 1, 1) := by decide +kernel
theorem dX7_busy_2 : decode cX7_busy 2 = .ok (.invokevirtual 129, 3) := by decide +kernel
theorem dX7_busy_5 : decode cX7_busy 5 = .ok (.aload_n 0, 1) := by decide +kernel
theorem dX7_busy_6 : decode cX7_busy 6 = .ok (.getfield 19, 3) := by decide +kernel
theorem dX7_busy_9 : decode cX7_busy 9 = .ok (.getfield 83, 3) := by decide +kernel
theorem dX7_busy_12 : decode cX7_busy 12 = .ok (.getfield 146, 3) := by decide +kernel
theorem dX7_busy_15 : decode cX7_busy 15 = .ok (.iload_n 1, 1) := by decide +kernel
theorem dX7_busy_16 : decode cX7_busy 16 = .ok (.iaload, 1) := by decide +kernel
theorem dX7_busy_17 : decode cX7_busy 17 = .ok (.ireturn, 1) := by decide +kernel
theorem dX7_steals_0 : decode cX7_steals 0 = .ok (.aload_n 0, 1) := by decide +kernel
theorem dX7_steals_1 : decode cX7_steals 1 = .ok (.iload_n 1, 1) := by decide +kernel
theorem dX7_steals_2 : decode cX7_steals 2 = .ok (.invokevirtual 129, 3) := by decide +kernel
theorem dX7_steals_5 : decode cX7_steals 5 = .ok (.aload_n 0, 1) := by decide +kernel
theorem dX7_steals_6 : decode cX7_steals 6 = .ok (.getfield 19, 3) := by decide +kernel
theorem dX7_steals_9 : decode cX7_steals 9 = .ok (.getfield 83, 3) := by decide +kernel
theorem dX7_steals_12 : decode cX7_steals 12 = .ok (.getfield 149, 3) := by decide +kernel
theorem dX7_steals_15 : decode cX7_steals 15 = .ok (.iload_n 1, 1) := by decide +kernel
theorem dX7_steals_16 : decode cX7_steals 16 = .ok (.iaload, 1) := by decide +kernel
theorem dX7_steals_17 : decode cX7_steals 17 = .ok (.ireturn, 1) := by decide +kernel
theorem dX7_isPaused_0 : decode cX7_isPaused 0 = .ok (.aload_n 0, 1) := by decide +kernel
theorem dX7_isPaused_1 : decode cX7_isPaused 1 = .ok (.iload_n 1, 1) := by decide +kernel
theorem dX7_isPaused_2 : decode cX7_isPaused 2 = .ok (.invokevirtual 129, 3) := by decide +kernel
theorem dX7_isPaused_5 : decode cX7_isPaused 5 = .ok (.aload_n 0, 1) := by decide +kernel
theorem dX7_isPaused_6 : decode cX7_isPaused 6 = .ok (.getfield 19, 3) := by decide +kernel
theorem dX7_isPaused_9 : decode cX7_isPaused 9 = .ok (.getfield 83, 3) := by decide +kernel
theorem dX7_isPaused_12 : decode cX7_isPaused 12 = .ok (.getfield 152, 3) := by decide +kernel
theorem dX7_isPaused_15 : decode cX7_isPaused 15 = .ok (.iload_n 1, 1) := by decide +kernel
theorem dX7_isPaused_16 : decode cX7_isPaused 16 = .ok (.baload, 1) := by decide +kernel
theorem dX7_isPaused_17 : decode cX7_isPaused 17 = .ok (.ireturn, 1) := by decide +kernel
theorem dX7_finished_0 : decode cX7_finished 0 = .ok (.aload_n 0, 1) := by decide +kernel
theorem dX7_finished_1 : decode cX7_finished 1 = .ok (.getfield 19, 3) := by decide +kernel
theorem dX7_finished_4 : decode cX7_finished 4 = .ok (.getfield 74, 3) := by decide +kernel
theorem dX7_finished_7 : decode cX7_finished 7 = .ok (.invokevirtual 156, 3) := by decide +kernel
theorem dX7_finished_10 : decode cX7_finished 10 = .ok (.ireturn, 1) := by decide +kernel
theorem dX7_criticalPath_0 : decode cX7_criticalPath 0 = .ok (.aload_n 0, 1) := by decide +kernel
theorem dX7_criticalPath_1 : decode cX7_criticalPath 1 = .ok (.getfield 19, 3) := by decide +kernel
theorem dX7_criticalPath_4 : decode cX7_criticalPath 4 = .ok (.getfield 74, 3) := by decide +kernel
theorem dX7_criticalPath_7 : decode cX7_criticalPath 7 = .ok (.invokevirtual 159, 3) := by decide +kernel
theorem dX7_criticalPath_10 : decode cX7_criticalPath 10 = .ok (.ireturn, 1) := by decide +kernel
theorem dX7_finishTime_0 : decode cX7_finishTime 0 = .ok (.iload_n 1, 1) := by decide +kernel
theorem dX7_finishTime_1 : decode cX7_finishTime 1 = .ok (.invokestatic 162, 3) := by decide +kernel
theorem dX7_finishTime_4 : decode cX7_finishTime 4 = .ok (.aload_n 0, 1) := by decide +kernel
theorem dX7_finishTime_5 : decode cX7_finishTime 5 = .ok (.getfield 23, 3) := by decide +kernel
theorem dX7_finishTime_8 : decode cX7_finishTime 8 = .ok (.aload_n 0, 1) := by decide +kernel
theorem dX7_finishTime_9 : decode cX7_finishTime 9 = .ok (.getfield 19, 3) := by decide +kernel
theorem dX7_finishTime_12 : decode cX7_finishTime 12 = .ok (.invokevirtual 71, 3) := by decide +kernel
theorem dX7_finishTime_15 : decode cX7_finishTime 15 = .ok (.aload_n 0, 1) := by decide +kernel
theorem dX7_finishTime_16 : decode cX7_finishTime 16 = .ok (.getfield 23, 3) := by decide +kernel
theorem dX7_finishTime_19 : decode cX7_finishTime 19 = .ok (.iload_n 1, 1) := by decide +kernel
theorem dX7_finishTime_20 : decode cX7_finishTime 20 = .ok (.invokevirtual 165, 3) := by decide +kernel
theorem dX7_finishTime_23 : decode cX7_finishTime 23 = .ok (.ireturn, 1) := by decide +kernel
theorem dX7_timeOn_0 : decode cX7_timeOn 0 = .ok (.iload_n 1, 1) := by decide +kernel
theorem dX7_timeOn_1 : decode cX7_timeOn 1 = .ok (.iconst 1, 1) := by decide +kernel
theorem dX7_timeOn_2 : decode cX7_timeOn 2 = .ok (.if_icmp .lt 8, 3) := by decide +kernel
theorem dX7_timeOn_5 : decode cX7_timeOn 5 = .ok (.iload_n 1, 1) := by decide +kernel
theorem dX7_timeOn_6 : decode cX7_timeOn 6 = .ok (.iconst 4, 1) := by decide +kernel
theorem dX7_timeOn_7 : decode cX7_timeOn 7 = .ok (.if_icmp .le 13, 3) := by decide +kernel
theorem dX7_timeOn_10 : decode cX7_timeOn 10 = .ok (.new 50, 3) := by decide +kernel
theorem dX7_timeOn_13 : decode cX7_timeOn 13 = .ok (.dup, 1) := by decide +kernel
theorem dX7_timeOn_14 : decode cX7_timeOn 14 = .ok (.ldc 169, 2) := by decide +kernel
theorem dX7_timeOn_16 : decode cX7_timeOn 16 = .ok (.invokespecial 54, 3) := by decide +kernel
theorem dX7_timeOn_19 : decode cX7_timeOn 19 = .ok (.athrow, 1) := by decide +kernel
theorem dX7_timeOn_20 : decode cX7_timeOn 20 = .ok (.iload_n 2, 1) := by decide +kernel
theorem dX7_timeOn_21 : decode cX7_timeOn 21 = .ok (.invokestatic 162, 3) := by decide +kernel
theorem dX7_timeOn_24 : decode cX7_timeOn 24 = .ok (.aload_n 0, 1) := by decide +kernel
theorem dX7_timeOn_25 : decode cX7_timeOn 25 = .ok (.invokevirtual 171, 3) := by decide +kernel
theorem dX7_timeOn_28 : decode cX7_timeOn 28 = .ok (.aload_n 0, 1) := by decide +kernel
theorem dX7_timeOn_29 : decode cX7_timeOn 29 = .ok (.getfield 23, 3) := by decide +kernel
theorem dX7_timeOn_32 : decode cX7_timeOn 32 = .ok (.aload_n 0, 1) := by decide +kernel
theorem dX7_timeOn_33 : decode cX7_timeOn 33 = .ok (.getfield 19, 3) := by decide +kernel
theorem dX7_timeOn_36 : decode cX7_timeOn 36 = .ok (.invokevirtual 71, 3) := by decide +kernel
theorem dX7_timeOn_39 : decode cX7_timeOn 39 = .ok (.aload_n 0, 1) := by decide +kernel
theorem dX7_timeOn_40 : decode cX7_timeOn 40 = .ok (.getfield 23, 3) := by decide +kernel
theorem dX7_timeOn_43 : decode cX7_timeOn 43 = .ok (.iload_n 1, 1) := by decide +kernel
theorem dX7_timeOn_44 : decode cX7_timeOn 44 = .ok (.invokevirtual 174, 3) := by decide +kernel
theorem dX7_timeOn_47 : decode cX7_timeOn 47 = .ok (.aload_n 0, 1) := by decide +kernel
theorem dX7_timeOn_48 : decode cX7_timeOn 48 = .ok (.getfield 23, 3) := by decide +kernel
theorem dX7_timeOn_51 : decode cX7_timeOn 51 = .ok (.iload_n 2, 1) := by decide +kernel
theorem dX7_timeOn_52 : decode cX7_timeOn 52 = .ok (.invokevirtual 165, 3) := by decide +kernel
theorem dX7_timeOn_55 : decode cX7_timeOn 55 = .ok (.ireturn, 1) := by decide +kernel
theorem dX7_run_0 : decode cX7_run 0 = .ok (.iload_n 1, 1) := by decide +kernel
theorem dX7_run_1 : decode cX7_run 1 = .ok (.iconst 1, 1) := by decide +kernel
theorem dX7_run_2 : decode cX7_run 2 = .ok (.if_icmp .lt 10, 3) := by decide +kernel
theorem dX7_run_5 : decode cX7_run 5 = .ok (.iload_n 1, 1) := by decide +kernel
theorem dX7_run_6 : decode cX7_run 6 = .ok (.sipush 200, 3) := by decide +kernel
theorem dX7_run_9 : decode cX7_run 9 = .ok (.if_icmp .le 13, 3) := by decide +kernel
theorem dX7_run_12 : decode cX7_run 12 = .ok (.new 50, 3) := by decide +kernel
theorem dX7_run_15 : decode cX7_run 15 = .ok (.dup, 1) := by decide +kernel
theorem dX7_run_16 : decode cX7_run 16 = .ok (.ldc 177, 2) := by decide +kernel
theorem dX7_run_18 : decode cX7_run 18 = .ok (.invokespecial 54, 3) := by decide +kernel
theorem dX7_run_21 : decode cX7_run 21 = .ok (.athrow, 1) := by decide +kernel
theorem dX7_run_22 : decode cX7_run 22 = .ok (.aload_n 0, 1) := by decide +kernel
theorem dX7_run_23 : decode cX7_run 23 = .ok (.invokevirtual 171, 3) := by decide +kernel
theorem dX7_run_26 : decode cX7_run 26 = .ok (.aload_n 0, 1) := by decide +kernel
theorem dX7_run_27 : decode cX7_run 27 = .ok (.getfield 19, 3) := by decide +kernel
theorem dX7_run_30 : decode cX7_run 30 = .ok (.getfield 93, 3) := by decide +kernel
theorem dX7_run_33 : decode cX7_run 33 = .ok (.ldc 179, 2) := by decide +kernel
theorem dX7_run_35 : decode cX7_run 35 = .ok (.iload_n 1, 1) := by decide +kernel
theorem dX7_run_36 : decode cX7_run 36 = .ok (.isub, 1) := by decide +kernel
theorem dX7_run_37 : decode cX7_run 37 = .ok (.if_icmp .le 13, 3) := by decide +kernel
theorem dX7_run_40 : decode cX7_run 40 = .ok (.new 180, 3) := by decide +kernel
theorem dX7_run_43 : decode cX7_run 43 = .ok (.dup, 1) := by decide +kernel
theorem dX7_run_44 : decode cX7_run 44 = .ok (.ldc 182, 2) := by decide +kernel
theorem dX7_run_46 : decode cX7_run 46 = .ok (.invokespecial 184, 3) := by decide +kernel
theorem dX7_run_49 : decode cX7_run 49 = .ok (.athrow, 1) := by decide +kernel
theorem dX7_run_50 : decode cX7_run 50 = .ok (.aload_n 0, 1) := by decide +kernel
theorem dX7_run_51 : decode cX7_run 51 = .ok (.getfield 29, 3) := by decide +kernel
theorem dX7_run_54 : decode cX7_run 54 = .ok (.aload_n 0, 1) := by decide +kernel
theorem dX7_run_55 : decode cX7_run 55 = .ok (.getfield 19, 3) := by decide +kernel
theorem dX7_run_58 : decode cX7_run 58 = .ok (.invokevirtual 67, 3) := by decide +kernel
theorem dX7_run_61 : decode cX7_run 61 = .ok (.iconst 0, 1) := by decide +kernel
theorem dX7_run_62 : decode cX7_run 62 = .ok (.istore_n 2, 1) := by decide +kernel
theorem dX7_run_63 : decode cX7_run 63 = .ok (.iconst 0, 1) := by decide +kernel
theorem dX7_run_64 : decode cX7_run 64 = .ok (.istore_n 3, 1) := by decide +kernel
theorem dX7_run_65 : decode cX7_run 65 = .ok (.iload_n 3, 1) := by decide +kernel
theorem dX7_run_66 : decode cX7_run 66 = .ok (.iload_n 1, 1) := by decide +kernel
theorem dX7_run_67 : decode cX7_run 67 = .ok (.if_icmp .ge 19, 3) := by decide +kernel
theorem dX7_run_70 : decode cX7_run 70 = .ok (.iload_n 2, 1) := by decide +kernel
theorem dX7_run_71 : decode cX7_run 71 = .ok (.aload_n 0, 1) := by decide +kernel
theorem dX7_run_72 : decode cX7_run 72 = .ok (.getfield 19, 3) := by decide +kernel
theorem dX7_run_75 : decode cX7_run 75 = .ok (.invokevirtual 185, 3) := by decide +kernel
theorem dX7_run_78 : decode cX7_run 78 = .ok (.iadd, 1) := by decide +kernel
theorem dX7_run_79 : decode cX7_run 79 = .ok (.istore_n 2, 1) := by decide +kernel
theorem dX7_run_80 : decode cX7_run 80 = .ok (.iinc 3 1, 3) := by decide +kernel
theorem dX7_run_83 : decode cX7_run 83 = .ok (.goto (-18), 3) := by decide +kernel
theorem dX7_run_86 : decode cX7_run 86 = .ok (.iload_n 2, 1) := by decide +kernel
theorem dX7_run_87 : decode cX7_run 87 = .ok (.ireturn, 1) := by decide +kernel
theorem dX7_submit_0 : decode cX7_submit 0 = .ok (.aload_n 0, 1) := by decide +kernel
theorem dX7_submit_1 : decode cX7_submit 1 = .ok (.iload_n 3, 1) := by decide +kernel
theorem dX7_submit_2 : decode cX7_submit 2 = .ok (.invokevirtual 129, 3) := by decide +kernel
theorem dX7_submit_5 : decode cX7_submit 5 = .ok (.iload_n 1, 1) := by decide +kernel
theorem dX7_submit_6 : decode cX7_submit 6 = .ok (.iconst 1, 1) := by decide +kernel
theorem dX7_submit_7 : decode cX7_submit 7 = .ok (.if_icmp .lt 9, 3) := by decide +kernel
theorem dX7_submit_10 : decode cX7_submit 10 = .ok (.iload_n 1, 1) := by decide +kernel
theorem dX7_submit_11 : decode cX7_submit 11 = .ok (.bipush 99, 2) := by decide +kernel
theorem dX7_submit_13 : decode cX7_submit 13 = .ok (.if_icmp .le 13, 3) := by decide +kernel
theorem dX7_submit_16 : decode cX7_submit 16 = .ok (.new 50, 3) := by decide +kernel
theorem dX7_submit_19 : decode cX7_submit 19 = .ok (.dup, 1) := by decide +kernel
theorem dX7_submit_20 : decode cX7_submit 20 = .ok (.ldc 188, 2) := by decide +kernel
theorem dX7_submit_22 : decode cX7_submit 22 = .ok (.invokespecial 54, 3) := by decide +kernel
theorem dX7_submit_25 : decode cX7_submit 25 = .ok (.athrow, 1) := by decide +kernel
theorem dX7_submit_26 : decode cX7_submit 26 = .ok (.iload_n 2, 1) := by decide +kernel
theorem dX7_submit_27 : decode cX7_submit 27 = .ok (.invokestatic 190, 3) := by decide +kernel
theorem dX7_submit_30 : decode cX7_submit 30 = .ok (.aload_n 0, 1) := by decide +kernel
theorem dX7_submit_31 : decode cX7_submit 31 = .ok (.getfield 19, 3) := by decide +kernel
theorem dX7_submit_34 : decode cX7_submit 34 = .ok (.getfield 74, 3) := by decide +kernel
theorem dX7_submit_37 : decode cX7_submit 37 = .ok (.getfield 78, 3) := by decide +kernel
theorem dX7_submit_40 : decode cX7_submit 40 = .ok (.bipush 32, 2) := by decide +kernel
theorem dX7_submit_42 : decode cX7_submit 42 = .ok (.if_icmp .lt 13, 3) := by decide +kernel
theorem dX7_submit_45 : decode cX7_submit 45 = .ok (.new 180, 3) := by decide +kernel
theorem dX7_submit_48 : decode cX7_submit 48 = .ok (.dup, 1) := by decide +kernel
theorem dX7_submit_49 : decode cX7_submit 49 = .ok (.ldc 193, 2) := by decide +kernel
theorem dX7_submit_51 : decode cX7_submit 51 = .ok (.invokespecial 184, 3) := by decide +kernel
theorem dX7_submit_54 : decode cX7_submit 54 = .ok (.athrow, 1) := by decide +kernel
theorem dX7_submit_55 : decode cX7_submit 55 = .ok (.aload_n 0, 1) := by decide +kernel
theorem dX7_submit_56 : decode cX7_submit 56 = .ok (.getfield 29, 3) := by decide +kernel
theorem dX7_submit_59 : decode cX7_submit 59 = .ok (.aload_n 0, 1) := by decide +kernel
theorem dX7_submit_60 : decode cX7_submit 60 = .ok (.getfield 19, 3) := by decide +kernel
theorem dX7_submit_63 : decode cX7_submit 63 = .ok (.invokevirtual 67, 3) := by decide +kernel
theorem dX7_submit_66 : decode cX7_submit 66 = .ok (.aload_n 0, 1) := by decide +kernel
theorem dX7_submit_67 : decode cX7_submit 67 = .ok (.getfield 19, 3) := by decide +kernel
theorem dX7_submit_70 : decode cX7_submit 70 = .ok (.getfield 74, 3) := by decide +kernel
theorem dX7_submit_73 : decode cX7_submit 73 = .ok (.iload_n 1, 1) := by decide +kernel
theorem dX7_submit_74 : decode cX7_submit 74 = .ok (.iload_n 2, 1) := by decide +kernel
theorem dX7_submit_75 : decode cX7_submit 75 = .ok (.iload_n 3, 1) := by decide +kernel
theorem dX7_submit_76 : decode cX7_submit 76 = .ok (.iconst 0, 1) := by decide +kernel
theorem dX7_submit_77 : decode cX7_submit 77 = .ok (.invokevirtual 195, 3) := by decide +kernel
theorem dX7_submit_80 : decode cX7_submit 80 = .ok (.aload_n 0, 1) := by decide +kernel
theorem dX7_submit_81 : decode cX7_submit 81 = .ok (.getfield 19, 3) := by decide +kernel
theorem dX7_submit_84 : decode cX7_submit 84 = .ok (.getfield 74, 3) := by decide +kernel
theorem dX7_submit_87 : decode cX7_submit 87 = .ok (.getfield 78, 3) := by decide +kernel
theorem dX7_submit_90 : decode cX7_submit 90 = .ok (.iconst 1, 1) := by decide +kernel
theorem dX7_submit_91 : decode cX7_submit 91 = .ok (.isub, 1) := by decide +kernel
theorem dX7_submit_92 : decode cX7_submit 92 = .ok (.ireturn, 1) := by decide +kernel
theorem dX7_depend_0 : decode cX7_depend 0 = .ok (.aload_n 0, 1) := by decide +kernel
theorem dX7_depend_1 : decode cX7_depend 1 = .ok (.iload_n 1, 1) := by decide +kernel
theorem dX7_depend_2 : decode cX7_depend 2 = .ok (.invokevirtual 96, 3) := by decide +kernel
theorem dX7_depend_5 : decode cX7_depend 5 = .ok (.iload_n 2, 1) := by decide +kernel
theorem dX7_depend_6 : decode cX7_depend 6 = .ok (.ifCond .ge 13, 3) := by decide +kernel
theorem dX7_depend_9 : decode cX7_depend 9 = .ok (.new 120, 3) := by decide +kernel
theorem dX7_depend_12 : decode cX7_depend 12 = .ok (.dup, 1) := by decide +kernel
theorem dX7_depend_13 : decode cX7_depend 13 = .ok (.ldc 199, 2) := by decide +kernel
theorem dX7_depend_15 : decode cX7_depend 15 = .ok (.invokespecial 124, 3) := by decide +kernel
theorem dX7_depend_18 : decode cX7_depend 18 = .ok (.athrow, 1) := by decide +kernel
theorem dX7_depend_19 : decode cX7_depend 19 = .ok (.aload_n 0, 1) := by decide +kernel
theorem dX7_depend_20 : decode cX7_depend 20 = .ok (.getfield 19, 3) := by decide +kernel
theorem dX7_depend_23 : decode cX7_depend 23 = .ok (.getfield 74, 3) := by decide +kernel
theorem dX7_depend_26 : decode cX7_depend 26 = .ok (.astore_n 3, 1) := by decide +kernel
theorem dX7_depend_27 : decode cX7_depend 27 = .ok (.iload_n 2, 1) := by decide +kernel
theorem dX7_depend_28 : decode cX7_depend 28 = .ok (.iload_n 1, 1) := by decide +kernel
theorem dX7_depend_29 : decode cX7_depend 29 = .ok (.if_icmp .ge 16, 3) := by decide +kernel
theorem dX7_depend_32 : decode cX7_depend 32 = .ok (.aload_n 3, 1) := by decide +kernel
theorem dX7_depend_33 : decode cX7_depend 33 = .ok (.getfield 201, 3) := by decide +kernel
theorem dX7_depend_36 : decode cX7_depend 36 = .ok (.iload_n 1, 1) := by decide +kernel
theorem dX7_depend_37 : decode cX7_depend 37 = .ok (.iaload, 1) := by decide +kernel
theorem dX7_depend_38 : decode cX7_depend 38 = .ok (.iload_n 2, 1) := by decide +kernel
theorem dX7_depend_39 : decode cX7_depend 39 = .ok (.invokestatic 204, 3) := by decide +kernel
theorem dX7_depend_42 : decode cX7_depend 42 = .ok (.ifCond .eq 13, 3) := by decide +kernel
theorem dX7_depend_45 : decode cX7_depend 45 = .ok (.new 50, 3) := by decide +kernel
theorem dX7_depend_48 : decode cX7_depend 48 = .ok (.dup, 1) := by decide +kernel
theorem dX7_depend_49 : decode cX7_depend 49 = .ok (.ldc 207, 2) := by decide +kernel
theorem dX7_depend_51 : decode cX7_depend 51 = .ok (.invokespecial 54, 3) := by decide +kernel
theorem dX7_depend_54 : decode cX7_depend 54 = .ok (.athrow, 1) := by decide +kernel
theorem dX7_depend_55 : decode cX7_depend 55 = .ok (.aload_n 3, 1) := by decide +kernel
theorem dX7_depend_56 : decode cX7_depend 56 = .ok (.getfield 99, 3) := by decide +kernel
theorem dX7_depend_59 : decode cX7_depend 59 = .ok (.iload_n 1, 1) := by decide +kernel
theorem dX7_depend_60 : decode cX7_depend 60 = .ok (.iaload, 1) := by decide +kernel
theorem dX7_depend_61 : decode cX7_depend 61 = .ok (.ifCond .eq 13, 3) := by decide +kernel
theorem dX7_depend_64 : decode cX7_depend 64 = .ok (.new 180, 3) := by decide +kernel
theorem dX7_depend_67 : decode cX7_depend 67 = .ok (.dup, 1) := by decide +kernel
theorem dX7_depend_68 : decode cX7_depend 68 = .ok (.ldc 209, 2) := by decide +kernel
theorem dX7_depend_70 : decode cX7_depend 70 = .ok (.invokespecial 184, 3) := by decide +kernel
theorem dX7_depend_73 : decode cX7_depend 73 = .ok (.athrow, 1) := by decide +kernel
theorem dX7_depend_74 : decode cX7_depend 74 = .ok (.aload_n 0, 1) := by decide +kernel
theorem dX7_depend_75 : decode cX7_depend 75 = .ok (.getfield 29, 3) := by decide +kernel
theorem dX7_depend_78 : decode cX7_depend 78 = .ok (.aload_n 0, 1) := by decide +kernel
theorem dX7_depend_79 : decode cX7_depend 79 = .ok (.getfield 19, 3) := by decide +kernel
theorem dX7_depend_82 : decode cX7_depend 82 = .ok (.invokevirtual 67, 3) := by decide +kernel
theorem dX7_depend_85 : decode cX7_depend 85 = .ok (.aload_n 3, 1) := by decide +kernel
theorem dX7_depend_86 : decode cX7_depend 86 = .ok (.getfield 201, 3) := by decide +kernel
theorem dX7_depend_89 : decode cX7_depend 89 = .ok (.iload_n 1, 1) := by decide +kernel
theorem dX7_depend_90 : decode cX7_depend 90 = .ok (.dup2, 1) := by decide +kernel
theorem dX7_depend_91 : decode cX7_depend 91 = .ok (.iaload, 1) := by decide +kernel
theorem dX7_depend_92 : decode cX7_depend 92 = .ok (.iconst 1, 1) := by decide +kernel
theorem dX7_depend_93 : decode cX7_depend 93 = .ok (.iload_n 2, 1) := by decide +kernel
theorem dX7_depend_94 : decode cX7_depend 94 = .ok (.ishl, 1) := by decide +kernel
theorem dX7_depend_95 : decode cX7_depend 95 = .ok (.ior, 1) := by decide +kernel
theorem dX7_depend_96 : decode cX7_depend 96 = .ok (.iastore, 1) := by decide +kernel
theorem dX7_depend_97 : decode cX7_depend 97 = .ok (.aload_n 3, 1) := by decide +kernel
theorem dX7_depend_98 : decode cX7_depend 98 = .ok (.iload_n 1, 1) := by decide +kernel
theorem dX7_depend_99 : decode cX7_depend 99 = .ok (.aload_n 3, 1) := by decide +kernel
theorem dX7_depend_100 : decode cX7_depend 100 = .ok (.invokevirtual 103, 3) := by decide +kernel
theorem dX7_depend_103 : decode cX7_depend 103 = .ok (.invokevirtual 107, 3) := by decide +kernel
theorem dX7_depend_106 : decode cX7_depend 106 = .ok (.ireturn, 1) := by decide +kernel
theorem dX7_cancel_0 : decode cX7_cancel 0 = .ok (.aload_n 0, 1) := by decide +kernel
theorem dX7_cancel_1 : decode cX7_cancel 1 = .ok (.iload_n 1, 1) := by decide +kernel
theorem dX7_cancel_2 : decode cX7_cancel 2 = .ok (.invokevirtual 96, 3) := by decide +kernel
theorem dX7_cancel_5 : decode cX7_cancel 5 = .ok (.aload_n 0, 1) := by decide +kernel
theorem dX7_cancel_6 : decode cX7_cancel 6 = .ok (.getfield 19, 3) := by decide +kernel
theorem dX7_cancel_9 : decode cX7_cancel 9 = .ok (.getfield 74, 3) := by decide +kernel
theorem dX7_cancel_12 : decode cX7_cancel 12 = .ok (.getfield 99, 3) := by decide +kernel
theorem dX7_cancel_15 : decode cX7_cancel 15 = .ok (.iload_n 1, 1) := by decide +kernel
theorem dX7_cancel_16 : decode cX7_cancel 16 = .ok (.iaload, 1) := by decide +kernel
theorem dX7_cancel_17 : decode cX7_cancel 17 = .ok (.istore_n 2, 1) := by decide +kernel
theorem dX7_cancel_18 : decode cX7_cancel 18 = .ok (.iload_n 2, 1) := by decide +kernel
theorem dX7_cancel_19 : decode cX7_cancel 19 = .ok (.ifCond .eq 23, 3) := by decide +kernel
theorem dX7_cancel_22 : decode cX7_cancel 22 = .ok (.iload_n 2, 1) := by decide +kernel
theorem dX7_cancel_23 : decode cX7_cancel 23 = .ok (.iconst 1, 1) := by decide +kernel
theorem dX7_cancel_24 : decode cX7_cancel 24 = .ok (.if_icmp .eq 18, 3) := by decide +kernel
theorem dX7_cancel_27 : decode cX7_cancel 27 = .ok (.iload_n 2, 1) := by decide +kernel
theorem dX7_cancel_28 : decode cX7_cancel 28 = .ok (.iconst 2, 1) := by decide +kernel
theorem dX7_cancel_29 : decode cX7_cancel 29 = .ok (.if_icmp .eq 13, 3) := by decide +kernel
theorem dX7_cancel_32 : decode cX7_cancel 32 = .ok (.new 180, 3) := by decide +kernel
theorem dX7_cancel_35 : decode cX7_cancel 35 = .ok (.dup, 1) := by decide +kernel
theorem dX7_cancel_36 : decode cX7_cancel 36 = .ok (.ldc 211, 2) := by decide +kernel
theorem dX7_cancel_38 : decode cX7_cancel 38 = .ok (.invokespecial 184, 3) := by decide +kernel
theorem dX7_cancel_41 : decode cX7_cancel 41 = .ok (.athrow, 1) := by decide +kernel
theorem dX7_cancel_42 : decode cX7_cancel 42 = .ok (.aload_n 0, 1) := by decide +kernel
theorem dX7_cancel_43 : decode cX7_cancel 43 = .ok (.getfield 29, 3) := by decide +kernel
theorem dX7_cancel_46 : decode cX7_cancel 46 = .ok (.aload_n 0, 1) := by decide +kernel
theorem dX7_cancel_47 : decode cX7_cancel 47 = .ok (.getfield 19, 3) := by decide +kernel
theorem dX7_cancel_50 : decode cX7_cancel 50 = .ok (.invokevirtual 67, 3) := by decide +kernel
theorem dX7_cancel_53 : decode cX7_cancel 53 = .ok (.aload_n 0, 1) := by decide +kernel
theorem dX7_cancel_54 : decode cX7_cancel 54 = .ok (.getfield 19, 3) := by decide +kernel
theorem dX7_cancel_57 : decode cX7_cancel 57 = .ok (.getfield 83, 3) := by decide +kernel
theorem dX7_cancel_60 : decode cX7_cancel 60 = .ok (.iload_n 1, 1) := by decide +kernel
theorem dX7_cancel_61 : decode cX7_cancel 61 = .ok (.invokevirtual 213, 3) := by decide +kernel
theorem dX7_cancel_64 : decode cX7_cancel 64 = .ok (.aload_n 0, 1) := by decide +kernel
theorem dX7_cancel_65 : decode cX7_cancel 65 = .ok (.getfield 19, 3) := by decide +kernel
theorem dX7_cancel_68 : decode cX7_cancel 68 = .ok (.getfield 74, 3) := by decide +kernel
theorem dX7_cancel_71 : decode cX7_cancel 71 = .ok (.getfield 99, 3) := by decide +kernel
theorem dX7_cancel_74 : decode cX7_cancel 74 = .ok (.iload_n 1, 1) := by decide +kernel
theorem dX7_cancel_75 : decode cX7_cancel 75 = .ok (.iconst 5, 1) := by decide +kernel
theorem dX7_cancel_76 : decode cX7_cancel 76 = .ok (.iastore, 1) := by decide +kernel
theorem dX7_cancel_77 : decode cX7_cancel 77 = .ok (.iload_n 2, 1) := by decide +kernel
theorem dX7_cancel_78 : decode cX7_cancel 78 = .ok (.ireturn, 1) := by decide +kernel
theorem dX7_setPriority_0 : decode cX7_setPriority 0 = .ok (.aload_n 0, 1) := by decide +kernel
theorem dX7_setPriority_1 : decode cX7_setPriority 1 = .ok (.iload_n 1, 1) := by decide +kernel
theorem dX7_setPriority_2 : decode cX7_setPriority 2 = .ok (.invokevirtual 96, 3) := by decide +kernel
theorem dX7_setPriority_5 : decode cX7_setPriority 5 = .ok (.iload_n 2, 1) := by decide +kernel
theorem dX7_setPriority_6 : decode cX7_setPriority 6 = .ok (.invokestatic 190, 3) := by decide +kernel
theorem dX7_setPriority_9 : decode cX7_setPriority 9 = .ok (.aload_n 0, 1) := by decide +kernel
theorem dX7_setPriority_10 : decode cX7_setPriority 10 = .ok (.getfield 29, 3) := by decide +kernel
theorem dX7_setPriority_13 : decode cX7_setPriority 13 = .ok (.aload_n 0, 1) := by decide +kernel
theorem dX7_setPriority_14 : decode cX7_setPriority 14 = .ok (.getfield 19, 3) := by decide +kernel
theorem dX7_setPriority_17 : decode cX7_setPriority 17 = .ok (.invokevirtual 67, 3) := by decide +kernel
theorem dX7_setPriority_20 : decode cX7_setPriority 20 = .ok (.aload_n 0, 1) := by decide +kernel
theorem dX7_setPriority_21 : decode cX7_setPriority 21 = .ok (.getfield 19, 3) := by decide +kernel
theorem dX7_setPriority_24 : decode cX7_setPriority 24 = .ok (.getfield 74, 3) := by decide +kernel
theorem dX7_setPriority_27 : decode cX7_setPriority 27 = .ok (.getfield 111, 3) := by decide +kernel
theorem dX7_setPriority_30 : decode cX7_setPriority 30 = .ok (.iload_n 1, 1) := by decide +kernel
theorem dX7_setPriority_31 : decode cX7_setPriority 31 = .ok (.iaload, 1) := by decide +kernel
theorem dX7_setPriority_32 : decode cX7_setPriority 32 = .ok (.istore_n 3, 1) := by decide +kernel
theorem dX7_setPriority_33 : decode cX7_setPriority 33 = .ok (.aload_n 0, 1) := by decide +kernel
theorem dX7_setPriority_34 : decode cX7_setPriority 34 = .ok (.getfield 19, 3) := by decide +kernel
theorem dX7_setPriority_37 : decode cX7_setPriority 37 = .ok (.getfield 74, 3) := by decide +kernel
theorem dX7_setPriority_40 : decode cX7_setPriority 40 = .ok (.getfield 111, 3) := by decide +kernel
theorem dX7_setPriority_43 : decode cX7_setPriority 43 = .ok (.iload_n 1, 1) := by decide +kernel
theorem dX7_setPriority_44 : decode cX7_setPriority 44 = .ok (.iload_n 2, 1) := by decide +kernel
theorem dX7_setPriority_45 : decode cX7_setPriority 45 = .ok (.iastore, 1) := by decide +kernel
theorem dX7_setPriority_46 : decode cX7_setPriority 46 = .ok (.iload_n 3, 1) := by decide +kernel
theorem dX7_setPriority_47 : decode cX7_setPriority 47 = .ok (.ireturn, 1) := by decide +kernel
theorem dX7_pause_0 : decode cX7_pause 0 = .ok (.aload_n 0, 1) := by decide +kernel
theorem dX7_pause_1 : decode cX7_pause 1 = .ok (.iload_n 1, 1) := by decide +kernel
theorem dX7_pause_2 : decode cX7_pause 2 = .ok (.invokevirtual 129, 3) := by decide +kernel
theorem dX7_pause_5 : decode cX7_pause 5 = .ok (.aload_n 0, 1) := by decide +kernel
theorem dX7_pause_6 : decode cX7_pause 6 = .ok (.getfield 29, 3) := by decide +kernel
theorem dX7_pause_9 : decode cX7_pause 9 = .ok (.aload_n 0, 1) := by decide +kernel
theorem dX7_pause_10 : decode cX7_pause 10 = .ok (.getfield 19, 3) := by decide +kernel
theorem dX7_pause_13 : decode cX7_pause 13 = .ok (.invokevirtual 67, 3) := by decide +kernel
theorem dX7_pause_16 : decode cX7_pause 16 = .ok (.aload_n 0, 1) := by decide +kernel
theorem dX7_pause_17 : decode cX7_pause 17 = .ok (.getfield 19, 3) := by decide +kernel
theorem dX7_pause_20 : decode cX7_pause 20 = .ok (.getfield 83, 3) := by decide +kernel
theorem dX7_pause_23 : decode cX7_pause 23 = .ok (.getfield 152, 3) := by decide +kernel
theorem dX7_pause_26 : decode cX7_pause 26 = .ok (.iload_n 1, 1) := by decide +kernel
theorem dX7_pause_27 : decode cX7_pause 27 = .ok (.baload, 1) := by decide +kernel
theorem dX7_pause_28 : decode cX7_pause 28 = .ok (.istore_n 3, 1) := by decide +kernel
theorem dX7_pause_29 : decode cX7_pause 29 = .ok (.aload_n 0, 1) := by decide +kernel
theorem dX7_pause_30 : decode cX7_pause 30 = .ok (.getfield 19, 3) := by decide +kernel
theorem dX7_pause_33 : decode cX7_pause 33 = .ok (.getfield 83, 3) := by decide +kernel
theorem dX7_pause_36 : decode cX7_pause 36 = .ok (.getfield 152, 3) := by decide +kernel
theorem dX7_pause_39 : decode cX7_pause 39 = .ok (.iload_n 1, 1) := by decide +kernel
theorem dX7_pause_40 : decode cX7_pause 40 = .ok (.iload_n 2, 1) := by decide +kernel
theorem dX7_pause_41 : decode cX7_pause 41 = .ok (.bastore, 1) := by decide +kernel
theorem dX7_pause_42 : decode cX7_pause 42 = .ok (.iload_n 3, 1) := by decide +kernel
theorem dX7_pause_43 : decode cX7_pause 43 = .ok (.ireturn, 1) := by decide +kernel
theorem dX7_undo_0 : decode cX7_undo 0 = .ok (.aload_n 0, 1) := by decide +kernel
theorem dX7_undo_1 : decode cX7_undo 1 = .ok (.getfield 29, 3) := by decide +kernel
theorem dX7_undo_4 : decode cX7_undo 4 = .ok (.aload_n 0, 1) := by decide +kernel
theorem dX7_undo_5 : decode cX7_undo 5 = .ok (.getfield 19, 3) := by decide +kernel
theorem dX7_undo_8 : decode cX7_undo 8 = .ok (.invokevirtual 216, 3) := by decide +kernel
theorem dX7_undo_11 : decode cX7_undo 11 = .ok (.ireturn, 1) := by decide +kernel
theorem dX7_checksum_0 : decode cX7_checksum 0 = .ok (.aload_n 0, 1) := by decide +kernel
theorem dX7_checksum_1 : decode cX7_checksum 1 = .ok (.getfield 19, 3) := by decide +kernel
theorem dX7_checksum_4 : decode cX7_checksum 4 = .ok (.getfield 74, 3) := by decide +kernel
theorem dX7_checksum_7 : decode cX7_checksum 7 = .ok (.astore_n 1, 1) := by decide +kernel
theorem dX7_checksum_8 : decode cX7_checksum 8 = .ok (.aload_n 0, 1) := by decide +kernel
theorem dX7_checksum_9 : decode cX7_checksum 9 = .ok (.getfield 19, 3) := by decide +kernel
theorem dX7_checksum_12 : decode cX7_checksum 12 = .ok (.getfield 83, 3) := by decide +kernel
theorem dX7_checksum_15 : decode cX7_checksum 15 = .ok (.astore_n 2, 1) := by decide +kernel
theorem dX7_checksum_16 : decode cX7_checksum 16 = .ok (.ldc2_w 220, 3) := by decide +kernel
theorem dX7_checksum_19 : decode cX7_checksum 19 = .ok (.aload_n 0, 1) := by decide +kernel
theorem dX7_checksum_20 : decode cX7_checksum 20 = .ok (.getfield 19, 3) := by decide +kernel
theorem dX7_checksum_23 : decode cX7_checksum 23 = .ok (.getfield 93, 3) := by decide +kernel
theorem dX7_checksum_26 : decode cX7_checksum 26 = .ok (.i2l, 1) := by decide +kernel
theorem dX7_checksum_27 : decode cX7_checksum 27 = .ok (.lmul, 1) := by decide +kernel
theorem dX7_checksum_28 : decode cX7_checksum 28 = .ok (.aload_n 1, 1) := by decide +kernel
theorem dX7_checksum_29 : decode cX7_checksum 29 = .ok (.invokevirtual 156, 3) := by decide +kernel
theorem dX7_checksum_32 : decode cX7_checksum 32 = .ok (.i2l, 1) := by decide +kernel
theorem dX7_checksum_33 : decode cX7_checksum 33 = .ok (.ladd, 1) := by decide +kernel
theorem dX7_checksum_34 : decode cX7_checksum 34 = .ok (.lstore_n 3, 1) := by decide +kernel
theorem dX7_checksum_35 : decode cX7_checksum 35 = .ok (.aload_n 1, 1) := by decide +kernel
theorem dX7_checksum_36 : decode cX7_checksum 36 = .ok (.invokevirtual 103, 3) := by decide +kernel
theorem dX7_checksum_39 : decode cX7_checksum 39 = .ok (.istore 5, 2) := by decide +kernel
theorem dX7_checksum_41 : decode cX7_checksum 41 = .ok (.iconst 0, 1) := by decide +kernel
theorem dX7_checksum_42 : decode cX7_checksum 42 = .ok (.istore 6, 2) := by decide +kernel
theorem dX7_checksum_44 : decode cX7_checksum 44 = .ok (.iload 6, 2) := by decide +kernel
theorem dX7_checksum_46 : decode cX7_checksum 46 = .ok (.aload_n 1, 1) := by decide +kernel
theorem dX7_checksum_47 : decode cX7_checksum 47 = .ok (.getfield 78, 3) := by decide +kernel
theorem dX7_checksum_50 : decode cX7_checksum 50 = .ok (.if_icmp .ge 55, 3) := by decide +kernel
theorem dX7_checksum_53 : decode cX7_checksum 53 = .ok (.ldc2_w 220, 3) := by decide +kernel
theorem dX7_checksum_56 : decode cX7_checksum 56 = .ok (.lload_n 3, 1) := by decide +kernel
theorem dX7_checksum_57 : decode cX7_checksum 57 = .ok (.lmul, 1) := by decide +kernel
theorem dX7_checksum_58 : decode cX7_checksum 58 = .ok (.aload_n 1, 1) := by decide +kernel
theorem dX7_checksum_59 : decode cX7_checksum 59 = .ok (.getfield 99, 3) := by decide +kernel
theorem dX7_checksum_62 : decode cX7_checksum 62 = .ok (.iload 6, 2) := by decide +kernel
theorem dX7_checksum_64 : decode cX7_checksum 64 = .ok (.iaload, 1) := by decide +kernel
theorem dX7_checksum_65 : decode cX7_checksum 65 = .ok (.i2l, 1) := by decide +kernel
theorem dX7_checksum_66 : decode cX7_checksum 66 = .ok (.ladd, 1) := by decide +kernel
theorem dX7_checksum_67 : decode cX7_checksum 67 = .ok (.lstore_n 3, 1) := by decide +kernel
theorem dX7_checksum_68 : decode cX7_checksum 68 = .ok (.ldc2_w 220, 3) := by decide +kernel
theorem dX7_checksum_71 : decode cX7_checksum 71 = .ok (.lload_n 3, 1) := by decide +kernel
theorem dX7_checksum_72 : decode cX7_checksum 72 = .ok (.lmul, 1) := by decide +kernel
theorem dX7_checksum_73 : decode cX7_checksum 73 = .ok (.aload_n 1, 1) := by decide +kernel
theorem dX7_checksum_74 : decode cX7_checksum 74 = .ok (.getfield 111, 3) := by decide +kernel
theorem dX7_checksum_77 : decode cX7_checksum 77 = .ok (.iload 6, 2) := by decide +kernel
theorem dX7_checksum_79 : decode cX7_checksum 79 = .ok (.iaload, 1) := by decide +kernel
theorem dX7_checksum_80 : decode cX7_checksum 80 = .ok (.i2l, 1) := by decide +kernel
theorem dX7_checksum_81 : decode cX7_checksum 81 = .ok (.ladd, 1) := by decide +kernel
theorem dX7_checksum_82 : decode cX7_checksum 82 = .ok (.lstore_n 3, 1) := by decide +kernel
theorem dX7_checksum_83 : decode cX7_checksum 83 = .ok (.ldc2_w 220, 3) := by decide +kernel
theorem dX7_checksum_86 : decode cX7_checksum 86 = .ok (.lload_n 3, 1) := by decide +kernel
theorem dX7_checksum_87 : decode cX7_checksum 87 = .ok (.lmul, 1) := by decide +kernel
theorem dX7_checksum_88 : decode cX7_checksum 88 = .ok (.aload_n 1, 1) := by decide +kernel
theorem dX7_checksum_89 : decode cX7_checksum 89 = .ok (.iload 6, 2) := by decide +kernel
theorem dX7_checksum_91 : decode cX7_checksum 91 = .ok (.iload 5, 2) := by decide +kernel
theorem dX7_checksum_93 : decode cX7_checksum 93 = .ok (.invokevirtual 107, 3) := by decide +kernel
theorem dX7_checksum_96 : decode cX7_checksum 96 = .ok (.i2l, 1) := by decide +kernel
theorem dX7_checksum_97 : decode cX7_checksum 97 = .ok (.ladd, 1) := by decide +kernel
theorem dX7_checksum_98 : decode cX7_checksum 98 = .ok (.lstore_n 3, 1) := by decide +kernel
theorem dX7_checksum_99 : decode cX7_checksum 99 = .ok (.iinc 6 1, 3) := by decide +kernel
theorem dX7_checksum_102 : decode cX7_checksum 102 = .ok (.goto (-58), 3) := by decide +kernel
theorem dX7_checksum_105 : decode cX7_checksum 105 = .ok (.iconst 0, 1) := by decide +kernel
theorem dX7_checksum_106 : decode cX7_checksum 106 = .ok (.istore 6, 2) := by decide +kernel
theorem dX7_checksum_108 : decode cX7_checksum 108 = .ok (.iload 6, 2) := by decide +kernel
theorem dX7_checksum_110 : decode cX7_checksum 110 = .ok (.aload_n 2, 1) := by decide +kernel
theorem dX7_checksum_111 : decode cX7_checksum 111 = .ok (.getfield 87, 3) := by decide +kernel
theorem dX7_checksum_114 : decode cX7_checksum 114 = .ok (.if_icmp .ge 111, 3) := by decide +kernel
theorem dX7_checksum_117 : decode cX7_checksum 117 = .ok (.iconst 0, 1) := by decide +kernel
theorem dX7_checksum_118 : decode cX7_checksum 118 = .ok (.istore 7, 2) := by decide +kernel
theorem dX7_checksum_120 : decode cX7_checksum 120 = .ok (.iload 7, 2) := by decide +kernel
theorem dX7_checksum_122 : decode cX7_checksum 122 = .ok (.aload_n 2, 1) := by decide +kernel
theorem dX7_checksum_123 : decode cX7_checksum 123 = .ok (.getfield 132, 3) := by decide +kernel
theorem dX7_checksum_126 : decode cX7_checksum 126 = .ok (.iload 6, 2) := by decide +kernel
theorem dX7_checksum_128 : decode cX7_checksum 128 = .ok (.iaload, 1) := by decide +kernel
theorem dX7_checksum_129 : decode cX7_checksum 129 = .ok (.if_icmp .ge 30, 3) := by decide +kernel
theorem dX7_checksum_132 : decode cX7_checksum 132 = .ok (.ldc2_w 220, 3) := by decide +kernel
theorem dX7_checksum_135 : decode cX7_checksum 135 = .ok (.lload_n 3, 1) := by decide +kernel
theorem dX7_checksum_136 : decode cX7_checksum 136 = .ok (.lmul, 1) := by decide +kernel
theorem dX7_checksum_137 : decode cX7_checksum 137 = .ok (.aload_n 2, 1) := by decide +kernel
theorem dX7_checksum_138 : decode cX7_checksum 138 = .ok (.getfield 137, 3) := by decide +kernel
theorem dX7_checksum_141 : decode cX7_checksum 141 = .ok (.iload 6, 2) := by decide +kernel
theorem dX7_checksum_143 : decode cX7_checksum 143 = .ok (.bipush 8, 2) := by decide +kernel
theorem dX7_checksum_145 : decode cX7_checksum 145 = .ok (.imul, 1) := by decide +kernel
theorem dX7_checksum_146 : decode cX7_checksum 146 = .ok (.iload 7, 2) := by decide +kernel
theorem dX7_checksum_148 : decode cX7_checksum 148 = .ok (.iadd, 1) := by decide +kernel
theorem dX7_checksum_149 : decode cX7_checksum 149 = .ok (.iaload, 1) := by decide +kernel
theorem dX7_checksum_150 : decode cX7_checksum 150 = .ok (.i2l, 1) := by decide +kernel
theorem dX7_checksum_151 : decode cX7_checksum 151 = .ok (.ladd, 1) := by decide +kernel
theorem dX7_checksum_152 : decode cX7_checksum 152 = .ok (.lstore_n 3, 1) := by decide +kernel
theorem dX7_checksum_153 : decode cX7_checksum 153 = .ok (.iinc 7 1, 3) := by decide +kernel
theorem dX7_checksum_156 : decode cX7_checksum 156 = .ok (.goto (-36), 3) := by decide +kernel
theorem dX7_checksum_159 : decode cX7_checksum 159 = .ok (.ldc2_w 220, 3) := by decide +kernel
theorem dX7_checksum_162 : decode cX7_checksum 162 = .ok (.lload_n 3, 1) := by decide +kernel
theorem dX7_checksum_163 : decode cX7_checksum 163 = .ok (.lmul, 1) := by decide +kernel
theorem dX7_checksum_164 : decode cX7_checksum 164 = .ok (.aload_n 2, 1) := by decide +kernel
theorem dX7_checksum_165 : decode cX7_checksum 165 = .ok (.getfield 140, 3) := by decide +kernel
theorem dX7_checksum_168 : decode cX7_checksum 168 = .ok (.iload 6, 2) := by decide +kernel
theorem dX7_checksum_170 : decode cX7_checksum 170 = .ok (.iaload, 1) := by decide +kernel
theorem dX7_checksum_171 : decode cX7_checksum 171 = .ok (.i2l, 1) := by decide +kernel
theorem dX7_checksum_172 : decode cX7_checksum 172 = .ok (.ladd, 1) := by decide +kernel
theorem dX7_checksum_173 : decode cX7_checksum 173 = .ok (.lstore_n 3, 1) := by decide +kernel
theorem dX7_checksum_174 : decode cX7_checksum 174 = .ok (.ldc2_w 220, 3) := by decide +kernel
theorem dX7_checksum_177 : decode cX7_checksum 177 = .ok (.lload_n 3, 1) := by decide +kernel
theorem dX7_checksum_178 : decode cX7_checksum 178 = .ok (.lmul, 1) := by decide +kernel
theorem dX7_checksum_179 : decode cX7_checksum 179 = .ok (.aload_n 2, 1) := by decide +kernel
theorem dX7_checksum_180 : decode cX7_checksum 180 = .ok (.getfield 143, 3) := by decide +kernel
theorem dX7_checksum_183 : decode cX7_checksum 183 = .ok (.iload 6, 2) := by decide +kernel
theorem dX7_checksum_185 : decode cX7_checksum 185 = .ok (.iaload, 1) := by decide +kernel
theorem dX7_checksum_186 : decode cX7_checksum 186 = .ok (.i2l, 1) := by decide +kernel
theorem dX7_checksum_187 : decode cX7_checksum 187 = .ok (.ladd, 1) := by decide +kernel
theorem dX7_checksum_188 : decode cX7_checksum 188 = .ok (.lstore_n 3, 1) := by decide +kernel
theorem dX7_checksum_189 : decode cX7_checksum 189 = .ok (.ldc2_w 220, 3) := by decide +kernel
theorem dX7_checksum_192 : decode cX7_checksum 192 = .ok (.lload_n 3, 1) := by decide +kernel
theorem dX7_checksum_193 : decode cX7_checksum 193 = .ok (.lmul, 1) := by decide +kernel
theorem dX7_checksum_194 : decode cX7_checksum 194 = .ok (.aload_n 2, 1) := by decide +kernel
theorem dX7_checksum_195 : decode cX7_checksum 195 = .ok (.getfield 146, 3) := by decide +kernel
theorem dX7_checksum_198 : decode cX7_checksum 198 = .ok (.iload 6, 2) := by decide +kernel
theorem dX7_checksum_200 : decode cX7_checksum 200 = .ok (.iaload, 1) := by decide +kernel
theorem dX7_checksum_201 : decode cX7_checksum 201 = .ok (.i2l, 1) := by decide +kernel
theorem dX7_checksum_202 : decode cX7_checksum 202 = .ok (.ladd, 1) := by decide +kernel
theorem dX7_checksum_203 : decode cX7_checksum 203 = .ok (.lstore_n 3, 1) := by decide +kernel
theorem dX7_checksum_204 : decode cX7_checksum 204 = .ok (.ldc2_w 220, 3) := by decide +kernel
theorem dX7_checksum_207 : decode cX7_checksum 207 = .ok (.lload_n 3, 1) := by decide +kernel
theorem dX7_checksum_208 : decode cX7_checksum 208 = .ok (.lmul, 1) := by decide +kernel
theorem dX7_checksum_209 : decode cX7_checksum 209 = .ok (.aload_n 2, 1) := by decide +kernel
theorem dX7_checksum_210 : decode cX7_checksum 210 = .ok (.getfield 149, 3) := by decide +kernel
theorem dX7_checksum_213 : decode cX7_checksum 213 = .ok (.iload 6, 2) := by decide +kernel
theorem dX7_checksum_215 : decode cX7_checksum 215 = .ok (.iaload, 1) := by decide +kernel
theorem dX7_checksum_216 : decode cX7_checksum 216 = .ok (.i2l, 1) := by decide +kernel
theorem dX7_checksum_217 : decode cX7_checksum 217 = .ok (.ladd, 1) := by decide +kernel
theorem dX7_checksum_218 : decode cX7_checksum 218 = .ok (.lstore_n 3, 1) := by decide +kernel
theorem dX7_checksum_219 : decode cX7_checksum 219 = .ok (.iinc 6 1, 3) := by decide +kernel
theorem dX7_checksum_222 : decode cX7_checksum 222 = .ok (.goto (-114), 3) := by decide +kernel
theorem dX7_checksum_225 : decode cX7_checksum 225 = .ok (.lload_n 3, 1) := by decide +kernel
theorem dX7_checksum_226 : decode cX7_checksum 226 = .ok (.lreturn, 1) := by decide +kernel
theorem dX7_requireTask_0 : decode cX7_requireTask 0 = .ok (.iload_n 1, 1) := by decide +kernel
theorem dX7_requireTask_1 : decode cX7_requireTask 1 = .ok (.ifCond .lt 17, 3) := by decide +kernel
theorem dX7_requireTask_4 : decode cX7_requireTask 4 = .ok (.iload_n 1, 1) := by decide +kernel
theorem dX7_requireTask_5 : decode cX7_requireTask 5 = .ok (.aload_n 0, 1) := by decide +kernel
theorem dX7_requireTask_6 : decode cX7_requireTask 6 = .ok (.getfield 19, 3) := by decide +kernel
theorem dX7_requireTask_9 : decode cX7_requireTask 9 = .ok (.getfield 74, 3) := by decide +kernel
theorem dX7_requireTask_12 : decode cX7_requireTask 12 = .ok (.getfield 78, 3) := by decide +kernel
theorem dX7_requireTask_15 : decode cX7_requireTask 15 = .ok (.if_icmp .lt 13, 3) := by decide +kernel
theorem dX7_requireTask_18 : decode cX7_requireTask 18 = .ok (.new 120, 3) := by decide +kernel
theorem dX7_requireTask_21 : decode cX7_requireTask 21 = .ok (.dup, 1) := by decide +kernel
theorem dX7_requireTask_22 : decode cX7_requireTask 22 = .ok (.ldc 222, 2) := by decide +kernel
theorem dX7_requireTask_24 : decode cX7_requireTask 24 = .ok (.invokespecial 124, 3) := by decide +kernel
theorem dX7_requireTask_27 : decode cX7_requireTask 27 = .ok (.athrow, 1) := by decide +kernel
theorem dX7_requireTask_28 : decode cX7_requireTask 28 = .ok (.return_, 1) := by decide +kernel
theorem dX7_requireCore_0 : decode cX7_requireCore 0 = .ok (.iload_n 1, 1) := by decide +kernel
theorem dX7_requireCore_1 : decode cX7_requireCore 1 = .ok (.ifCond .lt 17, 3) := by decide +kernel
theorem dX7_requireCore_4 : decode cX7_requireCore 4 = .ok (.iload_n 1, 1) := by decide +kernel
theorem dX7_requireCore_5 : decode cX7_requireCore 5 = .ok (.aload_n 0, 1) := by decide +kernel
theorem dX7_requireCore_6 : decode cX7_requireCore 6 = .ok (.getfield 19, 3) := by decide +kernel
theorem dX7_requireCore_9 : decode cX7_requireCore 9 = .ok (.getfield 83, 3) := by decide +kernel
theorem dX7_requireCore_12 : decode cX7_requireCore 12 = .ok (.getfield 87, 3) := by decide +kernel
theorem dX7_requireCore_15 : decode cX7_requireCore 15 = .ok (.if_icmp .lt 13, 3) := by decide +kernel
theorem dX7_requireCore_18 : decode cX7_requireCore 18 = .ok (.new 120, 3) := by decide +kernel
theorem dX7_requireCore_21 : decode cX7_requireCore 21 = .ok (.dup, 1) := by decide +kernel
theorem dX7_requireCore_22 : decode cX7_requireCore 22 = .ok (.ldc 224, 2) := by decide +kernel
theorem dX7_requireCore_24 : decode cX7_requireCore 24 = .ok (.invokespecial 124, 3) := by decide +kernel
theorem dX7_requireCore_27 : decode cX7_requireCore 27 = .ok (.athrow, 1) := by decide +kernel
theorem dX7_requireCore_28 : decode cX7_requireCore 28 = .ok (.return_, 1) := by decide +kernel
theorem dX7_requireSetup_0 : decode cX7_requireSetup 0 = .ok (.aload_n 0, 1) := by decide +kernel
theorem dX7_requireSetup_1 : decode cX7_requireSetup 1 = .ok (.getfield 19, 3) := by decide +kernel
theorem dX7_requireSetup_4 : decode cX7_requireSetup 4 = .ok (.getfield 83, 3) := by decide +kernel
theorem dX7_requireSetup_7 : decode cX7_requireSetup 7 = .ok (.getfield 87, 3) := by decide +kernel
theorem dX7_requireSetup_10 : decode cX7_requireSetup 10 = .ok (.ifCond .ne 13, 3) := by decide +kernel
theorem dX7_requireSetup_13 : decode cX7_requireSetup 13 = .ok (.new 180, 3) := by decide +kernel
theorem dX7_requireSetup_16 : decode cX7_requireSetup 16 = .ok (.dup, 1) := by decide +kernel
theorem dX7_requireSetup_17 : decode cX7_requireSetup 17 = .ok (.ldc 226, 2) := by decide +kernel
theorem dX7_requireSetup_19 : decode cX7_requireSetup 19 = .ok (.invokespecial 184, 3) := by decide +kernel
theorem dX7_requireSetup_22 : decode cX7_requireSetup 22 = .ok (.athrow, 1) := by decide +kernel
theorem dX7_requireSetup_23 : decode cX7_requireSetup 23 = .ok (.return_, 1) := by decide +kernel
theorem dX7_requirePriority_0 : decode cX7_requirePriority 0 = .ok (.iload_n 0, 1) := by decide +kernel
theorem dX7_requirePriority_1 : decode cX7_requirePriority 1 = .ok (.ifCond .lt 9, 3) := by decide +kernel
theorem dX7_requirePriority_4 : decode cX7_requirePriority 4 = .ok (.iload_n 0, 1) := by decide +kernel
theorem dX7_requirePriority_5 : decode cX7_requirePriority 5 = .ok (.bipush 9, 2) := by decide +kernel
theorem dX7_requirePriority_7 : decode cX7_requirePriority 7 = .ok (.if_icmp .le 13, 3) := by decide +kernel
theorem dX7_requirePriority_10 : decode cX7_requirePriority 10 = .ok (.new 50, 3) := by decide +kernel
theorem dX7_requirePriority_13 : decode cX7_requirePriority 13 = .ok (.dup, 1) := by decide +kernel
theorem dX7_requirePriority_14 : decode cX7_requirePriority 14 = .ok (.ldc 228, 2) := by decide +kernel
theorem dX7_requirePriority_16 : decode cX7_requirePriority 16 = .ok (.invokespecial 54, 3) := by decide +kernel
theorem dX7_requirePriority_19 : decode cX7_requirePriority 19 = .ok (.athrow, 1) := by decide +kernel
theorem dX7_requirePriority_20 : decode cX7_requirePriority 20 = .ok (.return_, 1) := by decide +kernel
theorem dX7_requireLimit_0 : decode cX7_requireLimit 0 = .ok (.iload_n 0, 1) := by decide +kernel
theorem dX7_requireLimit_1 : decode cX7_requireLimit 1 = .ok (.ifCond .lt 10, 3) := by decide +kernel
theorem dX7_requireLimit_4 : decode cX7_requireLimit 4 = .ok (.iload_n 0, 1) := by decide +kernel
theorem dX7_requireLimit_5 : decode cX7_requireLimit 5 = .ok (.sipush 500, 3) := by decide +kernel
theorem dX7_requireLimit_8 : decode cX7_requireLimit 8 = .ok (.if_icmp .le 13, 3) := by decide +kernel
theorem dX7_requireLimit_11 : decode cX7_requireLimit 11 = .ok (.new 50, 3) := by decide +kernel
theorem dX7_requireLimit_14 : decode cX7_requireLimit 14 = .ok (.dup, 1) := by decide +kernel
