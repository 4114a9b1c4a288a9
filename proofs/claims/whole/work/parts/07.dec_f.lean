theorem dX10_init_0 : decode cX10_init 0 = .ok (.aload_n 0, 1) := by decide +kernel
theorem dX10_init_1 : decode cX10_init 1 = .ok (.invokespecial 1, 3) := by decide +kernel
theorem dX10_init_4 : decode cX10_init 4 = .ok (.aload_n 0, 1) := by decide +kernel
theorem dX10_init_5 : decode cX10_init 5 = .ok (.iconst 4, 1) := by decide +kernel
theorem dX10_init_6 : decode cX10_init 6 = .ok (.newarray .int, 2) := by decide +kernel
theorem dX10_init_8 : decode cX10_init 8 = .ok (.dup, 1) := by decide +kernel
theorem dX10_init_9 : decode cX10_init 9 = .ok (.iconst 0, 1) := by decide +kernel
theorem dX10_init_10 : decode cX10_init 10 = .ok (.bipush (-9), 2) := by decide +kernel
theorem dX10_init_12 : decode cX10_init 12 = .ok (.iastore, 1) := by decide +kernel
theorem dX10_init_13 : decode cX10_init 13 = .ok (.dup, 1) := by decide +kernel
theorem dX10_init_14 : decode cX10_init 14 = .ok (.iconst 1, 1) := by decide +kernel
theorem dX10_init_15 : decode cX10_init 15 = .ok (.bipush (-9), 2) := by decide +kernel
theorem dX10_init_17 : decode cX10_init 17 = .ok (.iastore, 1) := by decide +kernel
theorem dX10_init_18 : decode cX10_init 18 = .ok (.dup, 1) := by decide +kernel
theorem dX10_init_19 : decode cX10_init 19 = .ok (.iconst 2, 1) := by decide +kernel
theorem dX10_init_20 : decode cX10_init 20 = .ok (.bipush (-9), 2) := by decide +kernel
theorem dX10_init_22 : decode cX10_init 22 = .ok (.iastore, 1) := by decide +kernel
theorem dX10_init_23 : decode cX10_init 23 = .ok (.dup, 1) := by decide +kernel
theorem dX10_init_24 : decode cX10_init 24 = .ok (.iconst 3, 1) := by decide +kernel
theorem dX10_init_25 : decode cX10_init 25 = .ok (.bipush (-9), 2) := by decide +kernel
theorem dX10_init_27 : decode cX10_init 27 = .ok (.iastore, 1) := by decide +kernel
theorem dX10_init_28 : decode cX10_init 28 = .ok (.putfield 9, 3) := by decide +kernel
theorem dX10_init_31 : decode cX10_init 31 = .ok (.aload_n 0, 1) := by decide +kernel
theorem dX10_init_32 : decode cX10_init 32 = .ok (.iconst 4, 1) := by decide +kernel
theorem dX10_init_33 : decode cX10_init 33 = .ok (.newarray .int, 2) := by decide +kernel
theorem dX10_init_35 : decode cX10_init 35 = .ok (.putfield 13, 3) := by decide +kernel
theorem dX10_init_38 : decode cX10_init 38 = .ok (.aload_n 0, 1) := by decide +kernel
theorem dX10_init_39 : decode cX10_init 39 = .ok (.sipush 240, 3) := by decide +kernel
theorem dX10_init_42 : decode cX10_init 42 = .ok (.newarray .int, 2) := by decide +kernel
theorem dX10_init_44 : decode cX10_init 44 = .ok (.putfield 16, 3) := by decide +kernel
theorem dX10_init_47 : decode cX10_init 47 = .ok (.aload_n 0, 1) := by decide +kernel
theorem dX10_init_48 : decode cX10_init 48 = .ok (.bipush 12, 2) := by decide +kernel
theorem dX10_init_50 : decode cX10_init 50 = .ok (.newarray .int, 2) := by decide +kernel
theorem dX10_init_52 : decode cX10_init 52 = .ok (.putfield 19, 3) := by decide +kernel
theorem dX10_init_55 : decode cX10_init 55 = .ok (.aload_n 0, 1) := by decide +kernel
theorem dX10_init_56 : decode cX10_init 56 = .ok (.sipush 288, 3) := by decide +kernel
theorem dX10_init_59 : decode cX10_init 59 = .ok (.newarray .int, 2) := by decide +kernel
theorem dX10_init_61 : decode cX10_init 61 = .ok (.putfield 22, 3) := by decide +kernel
theorem dX10_init_64 : decode cX10_init 64 = .ok (.aload_n 0, 1) := by decide +kernel
theorem dX10_init_65 : decode cX10_init 65 = .ok (.sipush 288, 3) := by decide +kernel
theorem dX10_init_68 : decode cX10_init 68 = .ok (.newarray .int, 2) := by decide +kernel
theorem dX10_init_70 : decode cX10_init 70 = .ok (.putfield 25, 3) := by decide +kernel
theorem dX10_init_73 : decode cX10_init 73 = .ok (.aload_n 0, 1) := by decide +kernel
theorem dX10_init_74 : decode cX10_init 74 = .ok (.sipush 288, 3) := by decide +kernel
theorem dX10_init_77 : decode cX10_init 77 = .ok (.newarray .int, 2) := by decide +kernel
theorem dX10_init_79 : decode cX10_init 79 = .ok (.putfield 28, 3) := by decide +kernel
theorem dX10_init_82 : decode cX10_init 82 = .ok (.aload_n 0, 1) := by decide +kernel
theorem dX10_init_83 : decode cX10_init 83 = .ok (.sipush 288, 3) := by decide +kernel
theorem dX10_init_86 : decode cX10_init 86 = .ok (.newarray .int, 2) := by decide +kernel
theorem dX10_init_88 : decode cX10_init 88 = .ok (.putfield 31, 3) := by decide +kernel
theorem dX10_init_91 : decode cX10_init 91 = .ok (.aload_n 0, 1) := by decide +kernel
theorem dX10_init_92 : decode cX10_init 92 = .ok (.bipush 64, 2) := by decide +kernel
theorem dX10_init_94 : decode cX10_init 94 = .ok (.newarray .int, 2) := by decide +kernel
theorem dX10_init_96 : decode cX10_init 96 = .ok (.putfield 34, 3) := by decide +kernel
theorem dX10_init_99 : decode cX10_init 99 = .ok (.aload_n 0, 1) := by decide +kernel
theorem dX10_init_100 : decode cX10_init 100 = .ok (.bipush 64, 2) := by decide +kernel
theorem dX10_init_102 : decode cX10_init 102 = .ok (.newarray .int, 2) := by decide +kernel
theorem dX10_init_104 : decode cX10_init 104 = .ok (.putfield 37, 3) := by decide +kernel
theorem dX10_init_107 : decode cX10_init 107 = .ok (.aload_n 0, 1) := by decide +kernel
theorem dX10_init_108 : decode cX10_init 108 = .ok (.bipush 64, 2) := by decide +kernel
theorem dX10_init_110 : decode cX10_init 110 = .ok (.newarray .int, 2) := by decide +kernel
theorem dX10_init_112 : decode cX10_init 112 = .ok (.putfield 40, 3) := by decide +kernel
theorem dX10_init_115 : decode cX10_init 115 = .ok (.aload_n 0, 1) := by decide +kernel
theorem dX10_init_116 : decode cX10_init 116 = .ok (.bipush 64, 2) := by decide +kernel
theorem dX10_init_118 : decode cX10_init 118 = .ok (.newarray .int, 2) := by decide +kernel
theorem dX10_init_120 : decode cX10_init 120 = .ok (.putfield 43, 3) := by decide +kernel
theorem dX10_init_123 : decode cX10_init 123 = .ok (.aload_n 0, 1) := by decide +kernel
theorem dX10_init_124 : decode cX10_init 124 = .ok (.bipush 24, 2) := by decide +kernel
theorem dX10_init_126 : decode cX10_init 126 = .ok (.newarray .int, 2) := by decide +kernel
theorem dX10_init_128 : decode cX10_init 128 = .ok (.putfield 46, 3) := by decide +kernel
theorem dX10_init_131 : decode cX10_init 131 = .ok (.aload_n 0, 1) := by decide +kernel
theorem dX10_init_132 : decode cX10_init 132 = .ok (.bipush 12, 2) := by decide +kernel
theorem dX10_init_134 : decode cX10_init 134 = .ok (.newarray .int, 2) := by decide +kernel
theorem dX10_init_136 : decode cX10_init 136 = .ok (.putfield 49, 3) := by decide +kernel
theorem dX10_init_139 : decode cX10_init 139 = .ok (.aload_n 0, 1) := by decide +kernel
theorem dX10_init_140 : decode cX10_init 140 = .ok (.bipush 12, 2) := by decide +kernel
theorem dX10_init_142 : decode cX10_init 142 = .ok (.newarray .int, 2) := by decide +kernel
theorem dX10_init_144 : decode cX10_init 144 = .ok (.putfield 52, 3) := by decide +kernel
theorem dX10_init_147 : decode cX10_init 147 = .ok (.aload_n 0, 1) := by decide +kernel
theorem dX10_init_148 : decode cX10_init 148 = .ok (.bipush 12, 2) := by decide +kernel
theorem dX10_init_150 : decode cX10_init 150 = .ok (.newarray .int, 2) := by decide +kernel
theorem dX10_init_152 : decode cX10_init 152 = .ok (.putfield 55, 3) := by decide +kernel
theorem dX10_init_155 : decode cX10_init 155 = .ok (.aload_n 0, 1) := by decide +kernel
theorem dX10_init_156 : decode cX10_init 156 = .ok (.sipush 4096, 3) := by decide +kernel
theorem dX10_init_159 : decode cX10_init 159 = .ok (.newarray .int, 2) := by decide +kernel
theorem dX10_init_161 : decode cX10_init 161 = .ok (.putfield 58, 3) := by decide +kernel
theorem dX10_init_164 : decode cX10_init 164 = .ok (.aload_n 0, 1) := by decide +kernel
theorem dX10_init_165 : decode cX10_init 165 = .ok (.bipush 48, 2) := by decide +kernel
theorem dX10_init_167 : decode cX10_init 167 = .ok (.newarray .int, 2) := by decide +kernel
theorem dX10_init_169 : decode cX10_init 169 = .ok (.putfield 61, 3) := by decide +kernel
theorem dX10_init_172 : decode cX10_init 172 = .ok (.aload_n 0, 1) := by decide +kernel
theorem dX10_init_173 : decode cX10_init 173 = .ok (.bipush 24, 2) := by decide +kernel
theorem dX10_init_175 : decode cX10_init 175 = .ok (.newarray .int, 2) := by decide +kernel
theorem dX10_init_177 : decode cX10_init 177 = .ok (.putfield 64, 3) := by decide +kernel
theorem dX10_init_180 : decode cX10_init 180 = .ok (.aload_n 0, 1) := by decide +kernel
theorem dX10_init_181 : decode cX10_init 181 = .ok (.bipush 64, 2) := by decide +kernel
theorem dX10_init_183 : decode cX10_init 183 = .ok (.newarray .int, 2) := by decide +kernel
theorem dX10_init_185 : decode cX10_init 185 = .ok (.putfield 67, 3) := by decide +kernel
theorem dX10_init_188 : decode cX10_init 188 = .ok (.aload_n 0, 1) := by decide +kernel
theorem dX10_init_189 : decode cX10_init 189 = .ok (.bipush 24, 2) := by decide +kernel
theorem dX10_init_191 : decode cX10_init 191 = .ok (.newarray .long, 2) := by decide +kernel
theorem dX10_init_193 : decode cX10_init 193 = .ok (.putfield 70, 3) := by decide +kernel
theorem dX10_init_196 : decode cX10_init 196 = .ok (.aload_n 0, 1) := by decide +kernel
theorem dX10_init_197 : decode cX10_init 197 = .ok (.bipush 24, 2) := by decide +kernel
theorem dX10_init_199 : decode cX10_init 199 = .ok (.newarray .int, 2) := by decide +kernel
theorem dX10_init_201 : decode cX10_init 201 = .ok (.putfield 74, 3) := by decide +kernel
theorem dX10_init_204 : decode cX10_init 204 = .ok (.aload_n 0, 1) := by decide +kernel
theorem dX10_init_205 : decode cX10_init 205 = .ok (.bipush 24, 2) := by decide +kernel
theorem dX10_init_207 : decode cX10_init 207 = .ok (.newarray .long, 2) := by decide +kernel
theorem dX10_init_209 : decode cX10_init 209 = .ok (.putfield 77, 3) := by decide +kernel
theorem dX10_init_212 : decode cX10_init 212 = .ok (.aload_n 0, 1) := by decide +kernel
theorem dX10_init_213 : decode cX10_init 213 = .ok (.bipush 27, 2) := by decide +kernel
theorem dX10_init_215 : decode cX10_init 215 = .ok (.newarray .int, 2) := by decide +kernel
theorem dX10_init_217 : decode cX10_init 217 = .ok (.putfield 80, 3) := by decide +kernel
theorem dX10_init_220 : decode cX10_init 220 = .ok (.aload_n 0, 1) := by decide +kernel
theorem dX10_init_221 : decode cX10_init 221 = .ok (.sipush 729, 3) := by decide +kernel
theorem dX10_init_224 : decode cX10_init 224 = .ok (.newarray .int, 2) := by decide +kernel
theorem dX10_init_226 : decode cX10_init 226 = .ok (.putfield 83, 3) := by decide +kernel
theorem dX10_init_229 : decode cX10_init 229 = .ok (.return_, 1) := by decide +kernel
theorem dX10_fails_0 : decode cX10_fails 0 = .ok (.aload_n 0, 1) := by decide +kernel
theorem dX10_fails_1 : decode cX10_fails 1 = .ok (.iload_n 1, 1) := by decide +kernel
theorem dX10_fails_2 : decode cX10_fails 2 = .ok (.putfield 86, 3) := by decide +kernel
theorem dX10_fails_5 : decode cX10_fails 5 = .ok (.bipush (-10), 2) := by decide +kernel
theorem dX10_fails_7 : decode cX10_fails 7 = .ok (.iload_n 1, 1) := by decide +kernel
theorem dX10_fails_8 : decode cX10_fails 8 = .ok (.isub, 1) := by decide +kernel
theorem dX10_fails_9 : decode cX10_fails 9 = .ok (.ireturn, 1) := by decide +kernel
theorem dX10_lost_0 : decode cX10_lost 0 = .ok (.aload_n 0, 1) := by decide +kernel
theorem dX10_lost_1 : decode cX10_lost 1 = .ok (.iload_n 1, 1) := by decide +kernel
theorem dX10_lost_2 : decode cX10_lost 2 = .ok (.putfield 86, 3) := by decide +kernel
theorem dX10_lost_5 : decode cX10_lost 5 = .ok (.ldc2_w 90, 3) := by decide +kernel
theorem dX10_lost_8 : decode cX10_lost 8 = .ok (.lreturn, 1) := by decide +kernel
theorem dX10_within_0 : decode cX10_within 0 = .ok (.iload_n 0, 1) := by decide +kernel
theorem dX10_within_1 : decode cX10_within 1 = .ok (.iload_n 1, 1) := by decide +kernel
theorem dX10_within_2 : decode cX10_within 2 = .ok (.if_icmp .lt 12, 3) := by decide +kernel
theorem dX10_within_5 : decode cX10_within 5 = .ok (.iload_n 0, 1) := by decide +kernel
theorem dX10_within_6 : decode cX10_within 6 = .ok (.iload_n 2, 1) := by decide +kernel
theorem dX10_within_7 : decode cX10_within 7 = .ok (.if_icmp .gt 7, 3) := by decide +kernel
theorem dX10_within_10 : decode cX10_within 10 = .ok (.iconst 1, 1) := by decide +kernel
theorem dX10_within_11 : decode cX10_within 11 = .ok (.goto 4, 3) := by decide +kernel
theorem dX10_within_14 : decode cX10_within 14 = .ok (.iconst 0, 1) := by decide +kernel
theorem dX10_within_15 : decode cX10_within 15 = .ok (.ireturn, 1) := by decide +kernel
theorem dX10_bitsOf_0 : decode cX10_bitsOf 0 = .ok (.iconst 0, 1) := by decide +kernel
theorem dX10_bitsOf_1 : decode cX10_bitsOf 1 = .ok (.istore_n 1, 1) := by decide +kernel
theorem dX10_bitsOf_2 : decode cX10_bitsOf 2 = .ok (.iconst 0, 1) := by decide +kernel
theorem dX10_bitsOf_3 : decode cX10_bitsOf 3 = .ok (.istore_n 2, 1) := by decide +kernel
theorem dX10_bitsOf_4 : decode cX10_bitsOf 4 = .ok (.iload_n 2, 1) := by decide +kernel
theorem dX10_bitsOf_5 : decode cX10_bitsOf 5 = .ok (.bipush 24, 2) := by decide +kernel
theorem dX10_bitsOf_7 : decode cX10_bitsOf 7 = .ok (.if_icmp .ge 17, 3) := by decide +kernel
theorem dX10_bitsOf_10 : decode cX10_bitsOf 10 = .ok (.iload_n 1, 1) := by decide +kernel
theorem dX10_bitsOf_11 : decode cX10_bitsOf 11 = .ok (.iload_n 0, 1) := by decide +kernel
theorem dX10_bitsOf_12 : decode cX10_bitsOf 12 = .ok (.iload_n 2, 1) := by decide +kernel
theorem dX10_bitsOf_13 : decode cX10_bitsOf 13 = .ok (.ishr, 1) := by decide +kernel
theorem dX10_bitsOf_14 : decode cX10_bitsOf 14 = .ok (.iconst 1, 1) := by decide +kernel
theorem dX10_bitsOf_15 : decode cX10_bitsOf 15 = .ok (.iand, 1) := by decide +kernel
theorem dX10_bitsOf_16 : decode cX10_bitsOf 16 = .ok (.iadd, 1) := by decide +kernel
theorem dX10_bitsOf_17 : decode cX10_bitsOf 17 = .ok (.istore_n 1, 1) := by decide +kernel
theorem dX10_bitsOf_18 : decode cX10_bitsOf 18 = .ok (.iinc 2 1, 3) := by decide +kernel
theorem dX10_bitsOf_21 : decode cX10_bitsOf 21 = .ok (.goto (-17), 3) := by decide +kernel
theorem dX10_bitsOf_24 : decode cX10_bitsOf 24 = .ok (.iload_n 1, 1) := by decide +kernel
theorem dX10_bitsOf_25 : decode cX10_bitsOf 25 = .ok (.ireturn, 1) := by decide +kernel
set_option maxRecDepth 20000 in
theorem ggX10_isClause_X10_within : GoodIn wsX10_isClause wsX10_within := goodIn_r _ [4] (by decide +kernel) (by decide +kernel)
set_option maxRecDepth 20000 in
theorem gX10_isClause_X10_within : GoodIn wsX10_isClause (va_wsS RX10 92 yX10_within wsX10_within) := goodIn_app (goodIn_of _ (by decide +kernel)) ggX10_isClause_X10_within
theorem dX10_isClause_0 : decode cX10_isClause 0 = .ok (.iload_n 0, 1) := by decide +kernel
theorem dX10_isClause_1 : decode cX10_isClause 1 = .ok (.iconst 0, 1) := by decide +kernel
theorem dX10_isClause_2 : decode cX10_isClause 2 = .ok (.sipush 4095, 3) := by decide +kernel
theorem dX10_isClause_5 : decode cX10_isClause 5 = .ok (.invokestatic 92, 3) := by decide +kernel
theorem dX10_isClause_8 : decode cX10_isClause 8 = .ok (.ifCond .eq 19, 3) := by decide +kernel
theorem dX10_isClause_11 : decode cX10_isClause 11 = .ok (.iload_n 0, 1) := by decide +kernel
theorem dX10_isClause_12 : decode cX10_isClause 12 = .ok (.bipush 63, 2) := by decide +kernel
theorem dX10_isClause_14 : decode cX10_isClause 14 = .ok (.iand, 1) := by decide +kernel
theorem dX10_isClause_15 : decode cX10_isClause 15 = .ok (.iload_n 0, 1) := by decide +kernel
theorem dX10_isClause_16 : decode cX10_isClause 16 = .ok (.bipush 6, 2) := by decide +kernel
theorem dX10_isClause_18 : decode cX10_isClause 18 = .ok (.ishr, 1) := by decide +kernel
theorem dX10_isClause_19 : decode cX10_isClause 19 = .ok (.iand, 1) := by decide +kernel
theorem dX10_isClause_20 : decode cX10_isClause 20 = .ok (.ifCond .ne 7, 3) := by decide +kernel
theorem dX10_isClause_23 : decode cX10_isClause 23 = .ok (.iconst 1, 1) := by decide +kernel
theorem dX10_isClause_24 : decode cX10_isClause 24 = .ok (.goto 4, 3) := by decide +kernel
theorem dX10_isClause_27 : decode cX10_isClause 27 = .ok (.iconst 0, 1) := by decide +kernel
theorem dX10_isClause_28 : decode cX10_isClause 28 = .ok (.ireturn, 1) := by decide +kernel
set_option maxRecDepth 20000 in
theorem ggX10_cutOf_X10_isClause : GoodIn wsX10_cutOf wsX10_isClause := goodIn_r _ [4, 5, 6, 3, 7] (by decide +kernel) (by decide +kernel)
set_option maxRecDepth 20000 in
theorem gX10_cutOf_X10_isClause : GoodIn wsX10_cutOf (va_wsS RX10 96 yX10_isClause wsX10_isClause) := goodIn_app (goodIn_of _ (by decide +kernel)) ggX10_cutOf_X10_isClause
theorem dX10_cutOf_0 : decode cX10_cutOf 0 = .ok (.iconst 1, 1) := by decide +kernel
theorem dX10_cutOf_1 : decode cX10_cutOf 1 = .ok (.iload_n 2, 1) := by decide +kernel
theorem dX10_cutOf_2 : decode cX10_cutOf 2 = .ok (.ishl, 1) := by decide +kernel
theorem dX10_cutOf_3 : decode cX10_cutOf 3 = .ok (.istore_n 3, 1) := by decide +kernel
theorem dX10_cutOf_4 : decode cX10_cutOf 4 = .ok (.bipush 64, 2) := by decide +kernel
theorem dX10_cutOf_6 : decode cX10_cutOf 6 = .ok (.iload_n 2, 1) := by decide +kernel
theorem dX10_cutOf_7 : decode cX10_cutOf 7 = .ok (.ishl, 1) := by decide +kernel
theorem dX10_cutOf_8 : decode cX10_cutOf 8 = .ok (.istore 4, 2) := by decide +kernel
theorem dX10_cutOf_10 : decode cX10_cutOf 10 = .ok (.iload_n 0, 1) := by decide +kernel
theorem dX10_cutOf_11 : decode cX10_cutOf 11 = .ok (.iload_n 3, 1) := by decide +kernel
theorem dX10_cutOf_12 : decode cX10_cutOf 12 = .ok (.iand, 1) := by decide +kernel
theorem dX10_cutOf_13 : decode cX10_cutOf 13 = .ok (.ifCond .eq 10, 3) := by decide +kernel
theorem dX10_cutOf_16 : decode cX10_cutOf 16 = .ok (.iload_n 1, 1) := by decide +kernel
theorem dX10_cutOf_17 : decode cX10_cutOf 17 = .ok (.iload 4, 2) := by decide +kernel
theorem dX10_cutOf_19 : decode cX10_cutOf 19 = .ok (.iand, 1) := by decide +kernel
theorem dX10_cutOf_20 : decode cX10_cutOf 20 = .ok (.ifCond .ne 6, 3) := by decide +kernel
theorem dX10_cutOf_23 : decode cX10_cutOf 23 = .ok (.bipush (-9), 2) := by decide +kernel
theorem dX10_cutOf_25 : decode cX10_cutOf 25 = .ok (.ireturn, 1) := by decide +kernel
theorem dX10_cutOf_26 : decode cX10_cutOf 26 = .ok (.iload_n 0, 1) := by decide +kernel
theorem dX10_cutOf_27 : decode cX10_cutOf 27 = .ok (.iload_n 3, 1) := by decide +kernel
theorem dX10_cutOf_28 : decode cX10_cutOf 28 = .ok (.iconst (-1), 1) := by decide +kernel
theorem dX10_cutOf_29 : decode cX10_cutOf 29 = .ok (.ixor, 1) := by decide +kernel
theorem dX10_cutOf_30 : decode cX10_cutOf 30 = .ok (.iand, 1) := by decide +kernel
theorem dX10_cutOf_31 : decode cX10_cutOf 31 = .ok (.iload_n 1, 1) := by decide +kernel
theorem dX10_cutOf_32 : decode cX10_cutOf 32 = .ok (.iload 4, 2) := by decide +kernel
theorem dX10_cutOf_34 : decode cX10_cutOf 34 = .ok (.iconst (-1), 1) := by decide +kernel
theorem dX10_cutOf_35 : decode cX10_cutOf 35 = .ok (.ixor, 1) := by decide +kernel
theorem dX10_cutOf_36 : decode cX10_cutOf 36 = .ok (.iand, 1) := by decide +kernel
theorem dX10_cutOf_37 : decode cX10_cutOf 37 = .ok (.ior, 1) := by decide +kernel
theorem dX10_cutOf_38 : decode cX10_cutOf 38 = .ok (.istore 5, 2) := by decide +kernel
theorem dX10_cutOf_40 : decode cX10_cutOf 40 = .ok (.iload 5, 2) := by decide +kernel
theorem dX10_cutOf_42 : decode cX10_cutOf 42 = .ok (.invokestatic 96, 3) := by decide +kernel
theorem dX10_cutOf_45 : decode cX10_cutOf 45 = .ok (.ifCond .eq 8, 3) := by decide +kernel
theorem dX10_cutOf_48 : decode cX10_cutOf 48 = .ok (.iload 5, 2) := by decide +kernel
theorem dX10_cutOf_50 : decode cX10_cutOf 50 = .ok (.goto 5, 3) := by decide +kernel
theorem dX10_cutOf_53 : decode cX10_cutOf 53 = .ok (.bipush (-9), 2) := by decide +kernel
theorem dX10_cutOf_55 : decode cX10_cutOf 55 = .ok (.ireturn, 1) := by decide +kernel
set_option maxRecDepth 20000 in
theorem ggX10_cut_X10_isClause : GoodIn wsX10_cut wsX10_isClause := goodIn_r _ [4, 5, 6, 3, 7] (by decide +kernel) (by decide +kernel)
set_option maxRecDepth 20000 in
theorem gX10_cut_X10_isClause : GoodIn wsX10_cut (va_wsS RX10 96 yX10_isClause wsX10_isClause) := goodIn_app (goodIn_of _ (by decide +kernel)) ggX10_cut_X10_isClause
set_option maxRecDepth 20000 in
theorem ggX10_cut_X10_within : GoodIn wsX10_cut wsX10_within := goodIn_r _ [7] (by decide +kernel) (by decide +kernel)
set_option maxRecDepth 20000 in
theorem gX10_cut_X10_within : GoodIn wsX10_cut (va_wsS RX10 92 yX10_within wsX10_within) := goodIn_app (goodIn_of _ (by decide +kernel)) ggX10_cut_X10_within
set_option maxRecDepth 20000 in
theorem ggX10_cut_X10_cutOf : GoodIn wsX10_cut wsX10_cutOf := goodIn_r _ [10, 1, 2, 3, 4, 5, 6, 7] (by decide +kernel) (by decide +kernel)
set_option maxRecDepth 20000 in
theorem gX10_cut_X10_cutOf : GoodIn wsX10_cut (va_wsS RX10 100 yX10_cutOf wsX10_cutOf) := goodIn_app (goodIn_of _ (by decide +kernel)) ggX10_cut_X10_cutOf
theorem dX10_cut_0 : decode cX10_cut 0 = .ok (.iload_n 1, 1) := by decide +kernel
theorem dX10_cut_1 : decode cX10_cut 1 = .ok (.invokestatic 96, 3) := by decide +kernel
theorem dX10_cut_4 : decode cX10_cut 4 = .ok (.ifCond .eq 19, 3) := by decide +kernel
theorem dX10_cut_7 : decode cX10_cut 7 = .ok (.iload_n 2, 1) := by decide +kernel
theorem dX10_cut_8 : decode cX10_cut 8 = .ok (.invokestatic 96, 3) := by decide +kernel
theorem dX10_cut_11 : decode cX10_cut 11 = .ok (.ifCond .eq 12, 3) := by decide +kernel
theorem dX10_cut_14 : decode cX10_cut 14 = .ok (.iload_n 3, 1) := by decide +kernel
theorem dX10_cut_15 : decode cX10_cut 15 = .ok (.iconst 0, 1) := by decide +kernel
theorem dX10_cut_16 : decode cX10_cut 16 = .ok (.iconst 5, 1) := by decide +kernel
theorem dX10_cut_17 : decode cX10_cut 17 = .ok (.invokestatic 92, 3) := by decide +kernel
theorem dX10_cut_20 : decode cX10_cut 20 = .ok (.ifCond .ne 6, 3) := by decide +kernel
theorem dX10_cut_23 : decode cX10_cut 23 = .ok (.bipush (-2), 2) := by decide +kernel
theorem dX10_cut_25 : decode cX10_cut 25 = .ok (.ireturn, 1) := by decide +kernel
theorem dX10_cut_26 : decode cX10_cut 26 = .ok (.iload_n 1, 1) := by decide +kernel
theorem dX10_cut_27 : decode cX10_cut 27 = .ok (.iload_n 2, 1) := by decide +kernel
theorem dX10_cut_28 : decode cX10_cut 28 = .ok (.iload_n 3, 1) := by decide +kernel
theorem dX10_cut_29 : decode cX10_cut 29 = .ok (.invokestatic 100, 3) := by decide +kernel
theorem dX10_cut_32 : decode cX10_cut 32 = .ok (.ireturn, 1) := by decide +kernel
theorem dX10_isStronger_0 : decode cX10_isStronger 0 = .ok (.iload_n 0, 1) := by decide +kernel
theorem dX10_isStronger_1 : decode cX10_isStronger 1 = .ok (.iload_n 1, 1) := by decide +kernel
theorem dX10_isStronger_2 : decode cX10_isStronger 2 = .ok (.iconst (-1), 1) := by decide +kernel
theorem dX10_isStronger_3 : decode cX10_isStronger 3 = .ok (.ixor, 1) := by decide +kernel
theorem dX10_isStronger_4 : decode cX10_isStronger 4 = .ok (.iand, 1) := by decide +kernel
theorem dX10_isStronger_5 : decode cX10_isStronger 5 = .ok (.ifCond .ne 7, 3) := by decide +kernel
theorem dX10_isStronger_8 : decode cX10_isStronger 8 = .ok (.iconst 1, 1) := by decide +kernel
theorem dX10_isStronger_9 : decode cX10_isStronger 9 = .ok (.goto 4, 3) := by decide +kernel
theorem dX10_isStronger_12 : decode cX10_isStronger 12 = .ok (.iconst 0, 1) := by decide +kernel
theorem dX10_isStronger_13 : decode cX10_isStronger 13 = .ok (.ireturn, 1) := by decide +kernel
set_option maxRecDepth 20000 in
theorem ggX10_stronger_X10_isClause : GoodIn wsX10_stronger wsX10_isClause := goodIn_r _ [4, 5, 6, 3, 7] (by decide +kernel) (by decide +kernel)
set_option maxRecDepth 20000 in
theorem gX10_stronger_X10_isClause : GoodIn wsX10_stronger (va_wsS RX10 96 yX10_isClause wsX10_isClause) := goodIn_app (goodIn_of _ (by decide +kernel)) ggX10_stronger_X10_isClause
set_option maxRecDepth 20000 in
theorem ggX10_stronger_X10_isStronger : GoodIn wsX10_stronger wsX10_isStronger := goodIn_r _ [10] (by decide +kernel) (by decide +kernel)
set_option maxRecDepth 20000 in
theorem gX10_stronger_X10_isStronger : GoodIn wsX10_stronger (va_wsS RX10 104 yX10_isStronger wsX10_isStronger) := goodIn_app (goodIn_of _ (by decide +kernel)) ggX10_stronger_X10_isStronger
theorem dX10_stronger_0 : decode cX10_stronger 0 = .ok (.iload_n 1, 1) := by decide +kernel
theorem dX10_stronger_1 : decode cX10_stronger 1 = .ok (.invokestatic 96, 3) := by decide +kernel
theorem dX10_stronger_4 : decode cX10_stronger 4 = .ok (.ifCond .eq 10, 3) := by decide +kernel
theorem dX10_stronger_7 : decode cX10_stronger 7 = .ok (.iload_n 2, 1) := by decide +kernel
theorem dX10_stronger_8 : decode cX10_stronger 8 = .ok (.invokestatic 96, 3) := by decide +kernel
theorem dX10_stronger_11 : decode cX10_stronger 11 = .ok (.ifCond .ne 6, 3) := by decide +kernel
theorem dX10_stronger_14 : decode cX10_stronger 14 = .ok (.bipush (-2), 2) := by decide +kernel
theorem dX10_stronger_16 : decode cX10_stronger 16 = .ok (.ireturn, 1) := by decide +kernel
theorem dX10_stronger_17 : decode cX10_stronger 17 = .ok (.iload_n 1, 1) := by decide +kernel
theorem dX10_stronger_18 : decode cX10_stronger 18 = .ok (.iload_n 2, 1) := by decide +kernel
theorem dX10_stronger_19 : decode cX10_stronger 19 = .ok (.invokestatic 104, 3) := by decide +kernel
theorem dX10_stronger_22 : decode cX10_stronger 22 = .ok (.ifCond .eq 7, 3) := by decide +kernel
theorem dX10_stronger_25 : decode cX10_stronger 25 = .ok (.iconst 1, 1) := by decide +kernel
theorem dX10_stronger_26 : decode cX10_stronger 26 = .ok (.goto 4, 3) := by decide +kernel
theorem dX10_stronger_29 : decode cX10_stronger 29 = .ok (.iconst 0, 1) := by decide +kernel
theorem dX10_stronger_30 : decode cX10_stronger 30 = .ok (.ireturn, 1) := by decide +kernel
set_option maxRecDepth 20000 in
theorem ggX10_isSheet_X10_within : GoodIn wsX10_isSheet wsX10_within := goodIn_r _ [4] (by decide +kernel) (by decide +kernel)
set_option maxRecDepth 20000 in
theorem gX10_isSheet_X10_within : GoodIn wsX10_isSheet (va_wsS RX10 92 yX10_within wsX10_within) := goodIn_app (goodIn_of _ (by decide +kernel)) ggX10_isSheet_X10_within
theorem dX10_isSheet_0 : decode cX10_isSheet 0 = .ok (.iload_n 0, 1) := by decide +kernel
theorem dX10_isSheet_1 : decode cX10_isSheet 1 = .ok (.iconst 0, 1) := by decide +kernel
theorem dX10_isSheet_2 : decode cX10_isSheet 2 = .ok (.iconst 3, 1) := by decide +kernel
theorem dX10_isSheet_3 : decode cX10_isSheet 3 = .ok (.invokestatic 92, 3) := by decide +kernel
theorem dX10_isSheet_6 : decode cX10_isSheet 6 = .ok (.ireturn, 1) := by decide +kernel
set_option maxRecDepth 20000 in
theorem ggX10_isLane_X10_within : GoodIn wsX10_isLane wsX10_within := goodIn_r _ [4] (by decide +kernel) (by decide +kernel)
set_option maxRecDepth 20000 in
theorem gX10_isLane_X10_within : GoodIn wsX10_isLane (va_wsS RX10 92 yX10_within wsX10_within) := goodIn_app (goodIn_of _ (by decide +kernel)) ggX10_isLane_X10_within
theorem dX10_isLane_0 : decode cX10_isLane 0 = .ok (.iload_n 0, 1) := by decide +kernel
theorem dX10_isLane_1 : decode cX10_isLane 1 = .ok (.iconst 0, 1) := by decide +kernel
theorem dX10_isLane_2 : decode cX10_isLane 2 = .ok (.iconst 2, 1) := by decide +kernel
theorem dX10_isLane_3 : decode cX10_isLane 3 = .ok (.invokestatic 92, 3) := by decide +kernel
theorem dX10_isLane_6 : decode cX10_isLane 6 = .ok (.ireturn, 1) := by decide +kernel
theorem dX10_isProof_0 : decode cX10_isProof 0 = .ok (.iload_n 1, 1) := by decide +kernel
theorem dX10_isProof_1 : decode cX10_isProof 1 = .ok (.ifCond .lt 15, 3) := by decide +kernel
theorem dX10_isProof_4 : decode cX10_isProof 4 = .ok (.iload_n 1, 1) := by decide +kernel
theorem dX10_isProof_5 : decode cX10_isProof 5 = .ok (.aload_n 0, 1) := by decide +kernel
theorem dX10_isProof_6 : decode cX10_isProof 6 = .ok (.getfield 108, 3) := by decide +kernel
theorem dX10_isProof_9 : decode cX10_isProof 9 = .ok (.if_icmp .ge 7, 3) := by decide +kernel
theorem dX10_isProof_12 : decode cX10_isProof 12 = .ok (.iconst 1, 1) := by decide +kernel
theorem dX10_isProof_13 : decode cX10_isProof 13 = .ok (.goto 4, 3) := by decide +kernel
theorem dX10_isProof_16 : decode cX10_isProof 16 = .ok (.iconst 0, 1) := by decide +kernel
theorem dX10_isProof_17 : decode cX10_isProof 17 = .ok (.ireturn, 1) := by decide +kernel
set_option maxRecDepth 20000 in
theorem ggX10_isLine_X10_isProof : GoodIn wsX10_isLine wsX10_isProof := goodIn_r _ [6, 7, 8, 9, 10, 11, 12, 13, 14, 15, 16, 17, 18, 19, 20, 21, 22, 23, 24, 25, 26, 27, 28, 29, 30, 31, 32, 33, 34, 35, 36, 37, 38, 39] (by decide +kernel) (by decide +kernel)
set_option maxRecDepth 20000 in
theorem gX10_isLine_X10_isProof : GoodIn wsX10_isLine (wsV RX10 111 RX10 yX10_isProof wsX10_isProof) := goodIn_app (goodIn_of _ (by decide +kernel)) ggX10_isLine_X10_isProof
theorem dX10_isLine_0 : decode cX10_isLine 0 = .ok (.aload_n 0, 1) := by decide +kernel
theorem dX10_isLine_1 : decode cX10_isLine 1 = .ok (.iload_n 1, 1) := by decide +kernel
theorem dX10_isLine_2 : decode cX10_isLine 2 = .ok (.invokevirtual 111, 3) := by decide +kernel
theorem dX10_isLine_5 : decode cX10_isLine 5 = .ok (.ifCond .eq 21, 3) := by decide +kernel
theorem dX10_isLine_8 : decode cX10_isLine 8 = .ok (.iload_n 2, 1) := by decide +kernel
theorem dX10_isLine_9 : decode cX10_isLine 9 = .ok (.ifCond .lt 17, 3) := by decide +kernel
theorem dX10_isLine_12 : decode cX10_isLine 12 = .ok (.iload_n 2, 1) := by decide +kernel
theorem dX10_isLine_13 : decode cX10_isLine 13 = .ok (.aload_n 0, 1) := by decide +kernel
theorem dX10_isLine_14 : decode cX10_isLine 14 = .ok (.getfield 19, 3) := by decide +kernel
theorem dX10_isLine_17 : decode cX10_isLine 17 = .ok (.iload_n 1, 1) := by decide +kernel
theorem dX10_isLine_18 : decode cX10_isLine 18 = .ok (.iaload, 1) := by decide +kernel
theorem dX10_isLine_19 : decode cX10_isLine 19 = .ok (.if_icmp .ge 7, 3) := by decide +kernel
theorem dX10_isLine_22 : decode cX10_isLine 22 = .ok (.iconst 1, 1) := by decide +kernel
theorem dX10_isLine_23 : decode cX10_isLine 23 = .ok (.goto 4, 3) := by decide +kernel
theorem dX10_isLine_26 : decode cX10_isLine 26 = .ok (.iconst 0, 1) := by decide +kernel
theorem dX10_isLine_27 : decode cX10_isLine 27 = .ok (.ireturn, 1) := by decide +kernel
theorem dX10_add_0 : decode cX10_add 0 = .ok (.aload_n 0, 1) := by decide +kernel
theorem dX10_add_1 : decode cX10_add 1 = .ok (.getfield 34, 3) := by decide +kernel
theorem dX10_add_4 : decode cX10_add 4 = .ok (.aload_n 0, 1) := by decide +kernel
theorem dX10_add_5 : decode cX10_add 5 = .ok (.getfield 114, 3) := by decide +kernel
theorem dX10_add_8 : decode cX10_add 8 = .ok (.iload_n 1, 1) := by decide +kernel
theorem dX10_add_9 : decode cX10_add 9 = .ok (.iastore, 1) := by decide +kernel
theorem dX10_add_10 : decode cX10_add 10 = .ok (.aload_n 0, 1) := by decide +kernel
theorem dX10_add_11 : decode cX10_add 11 = .ok (.getfield 37, 3) := by decide +kernel
theorem dX10_add_14 : decode cX10_add 14 = .ok (.aload_n 0, 1) := by decide +kernel
theorem dX10_add_15 : decode cX10_add 15 = .ok (.getfield 114, 3) := by decide +kernel
theorem dX10_add_18 : decode cX10_add 18 = .ok (.iload_n 2, 1) := by decide +kernel
theorem dX10_add_19 : decode cX10_add 19 = .ok (.iastore, 1) := by decide +kernel
theorem dX10_add_20 : decode cX10_add 20 = .ok (.aload_n 0, 1) := by decide +kernel
theorem dX10_add_21 : decode cX10_add 21 = .ok (.getfield 40, 3) := by decide +kernel
theorem dX10_add_24 : decode cX10_add 24 = .ok (.aload_n 0, 1) := by decide +kernel
theorem dX10_add_25 : decode cX10_add 25 = .ok (.getfield 114, 3) := by decide +kernel
theorem dX10_add_28 : decode cX10_add 28 = .ok (.iload_n 3, 1) := by decide +kernel
theorem dX10_add_29 : decode cX10_add 29 = .ok (.iastore, 1) := by decide +kernel
theorem dX10_add_30 : decode cX10_add 30 = .ok (.aload_n 0, 1) := by decide +kernel
theorem dX10_add_31 : decode cX10_add 31 = .ok (.getfield 43, 3) := by decide +kernel
theorem dX10_add_34 : decode cX10_add 34 = .ok (.aload_n 0, 1) := by decide +kernel
theorem dX10_add_35 : decode cX10_add 35 = .ok (.getfield 114, 3) := by decide +kernel
theorem dX10_add_38 : decode cX10_add 38 = .ok (.iload 4, 2) := by decide +kernel
theorem dX10_add_40 : decode cX10_add 40 = .ok (.iastore, 1) := by decide +kernel
theorem dX10_add_41 : decode cX10_add 41 = .ok (.aload_n 0, 1) := by decide +kernel
theorem dX10_add_42 : decode cX10_add 42 = .ok (.dup, 1) := by decide +kernel
theorem dX10_add_43 : decode cX10_add 43 = .ok (.getfield 114, 3) := by decide +kernel
theorem dX10_add_46 : decode cX10_add 46 = .ok (.iconst 1, 1) := by decide +kernel
theorem dX10_add_47 : decode cX10_add 47 = .ok (.iadd, 1) := by decide +kernel
theorem dX10_add_48 : decode cX10_add 48 = .ok (.putfield 114, 3) := by decide +kernel
theorem dX10_add_51 : decode cX10_add 51 = .ok (.aload_n 0, 1) := by decide +kernel
theorem dX10_add_52 : decode cX10_add 52 = .ok (.getfield 114, 3) := by decide +kernel
theorem dX10_add_55 : decode cX10_add 55 = .ok (.iconst 1, 1) := by decide +kernel
theorem dX10_add_56 : decode cX10_add 56 = .ok (.isub, 1) := by decide +kernel
theorem dX10_add_57 : decode cX10_add 57 = .ok (.ireturn, 1) := by decide +kernel
theorem dX10_comes_0 : decode cX10_comes 0 = .ok (.aload_n 0, 1) := by decide +kernel
theorem dX10_comes_1 : decode cX10_comes 1 = .ok (.getfield 108, 3) := by decide +kernel
theorem dX10_comes_4 : decode cX10_comes 4 = .ok (.bipush 12, 2) := by decide +kernel
theorem dX10_comes_6 : decode cX10_comes 6 = .ok (.if_icmp .ne 6, 3) := by decide +kernel
theorem dX10_comes_9 : decode cX10_comes 9 = .ok (.bipush (-4), 2) := by decide +kernel
theorem dX10_comes_11 : decode cX10_comes 11 = .ok (.ireturn, 1) := by decide +kernel
theorem dX10_comes_12 : decode cX10_comes 12 = .ok (.aload_n 0, 1) := by decide +kernel
theorem dX10_comes_13 : decode cX10_comes 13 = .ok (.getfield 108, 3) := by decide +kernel
theorem dX10_comes_16 : decode cX10_comes 16 = .ok (.istore_n 1, 1) := by decide +kernel
theorem dX10_comes_17 : decode cX10_comes 17 = .ok (.aload_n 0, 1) := by decide +kernel
theorem dX10_comes_18 : decode cX10_comes 18 = .ok (.getfield 19, 3) := by decide +kernel
theorem dX10_comes_21 : decode cX10_comes 21 = .ok (.iload_n 1, 1) := by decide +kernel
theorem dX10_comes_22 : decode cX10_comes 22 = .ok (.aload_n 0, 1) := by decide +kernel
theorem dX10_comes_23 : decode cX10_comes 23 = .ok (.getfield 114, 3) := by decide +kernel
theorem dX10_comes_26 : decode cX10_comes 26 = .ok (.iastore, 1) := by decide +kernel
theorem dX10_comes_27 : decode cX10_comes 27 = .ok (.iconst 0, 1) := by decide +kernel
theorem dX10_comes_28 : decode cX10_comes 28 = .ok (.istore_n 2, 1) := by decide +kernel
theorem dX10_comes_29 : decode cX10_comes 29 = .ok (.iload_n 2, 1) := by decide +kernel
theorem dX10_comes_30 : decode cX10_comes 30 = .ok (.aload_n 0, 1) := by decide +kernel
theorem dX10_comes_31 : decode cX10_comes 31 = .ok (.getfield 114, 3) := by decide +kernel
theorem dX10_comes_34 : decode cX10_comes 34 = .ok (.if_icmp .ge 77, 3) := by decide +kernel
theorem dX10_comes_37 : decode cX10_comes 37 = .ok (.aload_n 0, 1) := by decide +kernel
theorem dX10_comes_38 : decode cX10_comes 38 = .ok (.getfield 22, 3) := by decide +kernel
theorem dX10_comes_41 : decode cX10_comes 41 = .ok (.bipush 24, 2) := by decide +kernel
theorem dX10_comes_43 : decode cX10_comes 43 = .ok (.iload_n 1, 1) := by decide +kernel
theorem dX10_comes_44 : decode cX10_comes 44 = .ok (.imul, 1) := by decide +kernel
theorem dX10_comes_45 : decode cX10_comes 45 = .ok (.iload_n 2, 1) := by decide +kernel
theorem dX10_comes_46 : decode cX10_comes 46 = .ok (.iadd, 1) := by decide +kernel
theorem dX10_comes_47 : decode cX10_comes 47 = .ok (.aload_n 0, 1) := by decide +kernel
theorem dX10_comes_48 : decode cX10_comes 48 = .ok (.getfield 34, 3) := by decide +kernel
theorem dX10_comes_51 : decode cX10_comes 51 = .ok (.iload_n 2, 1) := by decide +kernel
theorem dX10_comes_52 : decode cX10_comes 52 = .ok (.iaload, 1) := by decide +kernel
theorem dX10_comes_53 : decode cX10_comes 53 = .ok (.iastore, 1) := by decide +kernel
theorem dX10_comes_54 : decode cX10_comes 54 = .ok (.aload_n 0, 1) := by decide +kernel
theorem dX10_comes_55 : decode cX10_comes 55 = .ok (.getfield 25, 3) := by decide +kernel
theorem dX10_comes_58 : decode cX10_comes 58 = .ok (.bipush 24, 2) := by decide +kernel
theorem dX10_comes_60 : decode cX10_comes 60 = .ok (.iload_n 1, 1) := by decide +kernel
theorem dX10_comes_61 : decode cX10_comes 61 = .ok (.imul, 1) := by decide +kernel
theorem dX10_comes_62 : decode cX10_comes 62 = .ok (.iload_n 2, 1) := by decide +kernel
theorem dX10_comes_63 : decode cX10_comes 63 = .ok (.iadd, 1) := by decide +kernel
theorem dX10_comes_64 : decode cX10_comes 64 = .ok (.aload_n 0, 1) := by decide +kernel
theorem dX10_comes_65 : decode cX10_comes 65 = .ok (.getfield 37, 3) := by decide +kernel
theorem dX10_comes_68 : decode cX10_comes 68 = .ok (.iload_n 2, 1) := by decide +kernel
theorem dX10_comes_69 : decode cX10_comes 69 = .ok (.iaload, 1) := by decide +kernel
theorem dX10_comes_70 : decode cX10_comes 70 = .ok (.iastore, 1) := by decide +kernel
theorem dX10_comes_71 : decode cX10_comes 71 = .ok (.aload_n 0, 1) := by decide +kernel
theorem dX10_comes_72 : decode cX10_comes 72 = .ok (.getfield 28, 3) := by decide +kernel
theorem dX10_comes_75 : decode cX10_comes 75 = .ok (.bipush 24, 2) := by decide +kernel
theorem dX10_comes_77 : decode cX10_comes 77 = .ok (.iload_n 1, 1) := by decide +kernel
theorem dX10_comes_78 : decode cX10_comes 78 = .ok (.imul, 1) := by decide +kernel
theorem dX10_comes_79 : decode cX10_comes 79 = .ok (.iload_n 2, 1) := by decide +kernel
theorem dX10_comes_80 : decode cX10_comes 80 = .ok (.iadd, 1) := by decide +kernel
theorem dX10_comes_81 : decode cX10_comes 81 = .ok (.aload_n 0, 1) := by decide +kernel
theorem dX10_comes_82 : decode cX10_comes 82 = .ok (.getfield 40, 3) := by decide +kernel
theorem dX10_comes_85 : decode cX10_comes 85 = .ok (.iload_n 2, 1) := by decide +kernel
theorem dX10_comes_86 : decode cX10_comes 86 = .ok (.iaload, 1) := by decide +kernel
theorem dX10_comes_87 : decode cX10_comes 87 = .ok (.iastore, 1) := by decide +kernel
theorem dX10_comes_88 : decode cX10_comes 88 = .ok (.aload_n 0, 1) := by decide +kernel
theorem dX10_comes_89 : decode cX10_comes 89 = .ok (.getfield 31, 3) := by decide +kernel
theorem dX10_comes_92 : decode cX10_comes 92 = .ok (.bipush 24, 2) := by decide +kernel
theorem dX10_comes_94 : decode cX10_comes 94 = .ok (.iload_n 1, 1) := by decide +kernel
theorem dX10_comes_95 : decode cX10_comes 95 = .ok (.imul, 1) := by decide +kernel
theorem dX10_comes_96 : decode cX10_comes 96 = .ok (.iload_n 2, 1) := by decide +kernel
theorem dX10_comes_97 : decode cX10_comes 97 = .ok (.iadd, 1) := by decide +kernel
theorem dX10_comes_98 : decode cX10_comes 98 = .ok (.aload_n 0, 1) := by decide +kernel
theorem dX10_comes_99 : decode cX10_comes 99 = .ok (.getfield 43, 3) := by decide +kernel
theorem dX10_comes_102 : decode cX10_comes 102 = .ok (.iload_n 2, 1) := by decide +kernel
theorem dX10_comes_103 : decode cX10_comes 103 = .ok (.iaload, 1) := by decide +kernel
theorem dX10_comes_104 : decode cX10_comes 104 = .ok (.iastore, 1) := by decide +kernel
theorem dX10_comes_105 : decode cX10_comes 105 = .ok (.iinc 2 1, 3) := by decide +kernel
theorem dX10_comes_108 : decode cX10_comes 108 = .ok (.goto (-79), 3) := by decide +kernel
theorem dX10_comes_111 : decode cX10_comes 111 = .ok (.aload_n 0, 1) := by decide +kernel
theorem dX10_comes_112 : decode cX10_comes 112 = .ok (.dup, 1) := by decide +kernel
theorem dX10_comes_113 : decode cX10_comes 113 = .ok (.getfield 108, 3) := by decide +kernel
theorem dX10_comes_116 : decode cX10_comes 116 = .ok (.iconst 1, 1) := by decide +kernel
theorem dX10_comes_117 : decode cX10_comes 117 = .ok (.iadd, 1) := by decide +kernel
theorem dX10_comes_118 : decode cX10_comes 118 = .ok (.putfield 108, 3) := by decide +kernel
theorem dX10_comes_121 : decode cX10_comes 121 = .ok (.iload_n 1, 1) := by decide +kernel
theorem dX10_comes_122 : decode cX10_comes 122 = .ok (.ireturn, 1) := by decide +kernel
theorem dX10_codeAt_0 : decode cX10_codeAt 0 = .ok (.aload_n 0, 1) := by decide +kernel
theorem dX10_codeAt_1 : decode cX10_codeAt 1 = .ok (.getfield 117, 3) := by decide +kernel
theorem dX10_codeAt_4 : decode cX10_codeAt 4 = .ok (.aload_n 0, 1) := by decide +kernel
theorem dX10_codeAt_5 : decode cX10_codeAt 5 = .ok (.getfield 120, 3) := by decide +kernel
theorem dX10_codeAt_8 : decode cX10_codeAt 8 = .ok (.if_icmp .ge 15, 3) := by decide +kernel
theorem dX10_codeAt_11 : decode cX10_codeAt 11 = .ok (.aload_n 0, 1) := by decide +kernel
theorem dX10_codeAt_12 : decode cX10_codeAt 12 = .ok (.getfield 16, 3) := by decide +kernel
theorem dX10_codeAt_15 : decode cX10_codeAt 15 = .ok (.aload_n 0, 1) := by decide +kernel
theorem dX10_codeAt_16 : decode cX10_codeAt 16 = .ok (.getfield 117, 3) := by decide +kernel
theorem dX10_codeAt_19 : decode cX10_codeAt 19 = .ok (.iaload, 1) := by decide +kernel
theorem dX10_codeAt_20 : decode cX10_codeAt 20 = .ok (.goto 5, 3) := by decide +kernel
theorem dX10_codeAt_23 : decode cX10_codeAt 23 = .ok (.bipush (-9), 2) := by decide +kernel
theorem dX10_codeAt_25 : decode cX10_codeAt 25 = .ok (.ireturn, 1) := by decide +kernel
set_option maxRecDepth 20000 in
theorem ggX10_signOf_X10_within : GoodIn wsX10_signOf wsX10_within := goodIn_r _ [4] (by decide +kernel) (by decide +kernel)
set_option maxRecDepth 20000 in
theorem gX10_signOf_X10_within : GoodIn wsX10_signOf (va_wsS RX10 92 yX10_within wsX10_within) := goodIn_app (goodIn_of _ (by decide +kernel)) ggX10_signOf_X10_within
theorem dX10_signOf_0 : decode cX10_signOf 0 = .ok (.iload_n 0, 1) := by decide +kernel
theorem dX10_signOf_1 : decode cX10_signOf 1 = .ok (.bipush 97, 2) := by decide +kernel
theorem dX10_signOf_3 : decode cX10_signOf 3 = .ok (.bipush 102, 2) := by decide +kernel
theorem dX10_signOf_5 : decode cX10_signOf 5 = .ok (.invokestatic 92, 3) := by decide +kernel
theorem dX10_signOf_8 : decode cX10_signOf 8 = .ok (.ifCond .eq 12, 3) := by decide +kernel
theorem dX10_signOf_11 : decode cX10_signOf 11 = .ok (.iconst 1, 1) := by decide +kernel
theorem dX10_signOf_12 : decode cX10_signOf 12 = .ok (.iload_n 0, 1) := by decide +kernel
theorem dX10_signOf_13 : decode cX10_signOf 13 = .ok (.bipush 97, 2) := by decide +kernel
theorem dX10_signOf_15 : decode cX10_signOf 15 = .ok (.isub, 1) := by decide +kernel
theorem dX10_signOf_16 : decode cX10_signOf 16 = .ok (.ishl, 1) := by decide +kernel
theorem dX10_signOf_17 : decode cX10_signOf 17 = .ok (.goto 25, 3) := by decide +kernel
theorem dX10_signOf_20 : decode cX10_signOf 20 = .ok (.iload_n 0, 1) := by decide +kernel
theorem dX10_signOf_21 : decode cX10_signOf 21 = .ok (.bipush 65, 2) := by decide +kernel
theorem dX10_signOf_23 : decode cX10_signOf 23 = .ok (.bipush 70, 2) := by decide +kernel
theorem dX10_signOf_25 : decode cX10_signOf 25 = .ok (.invokestatic 92, 3) := by decide +kernel
theorem dX10_signOf_28 : decode cX10_signOf 28 = .ok (.ifCond .eq 13, 3) := by decide +kernel
theorem dX10_signOf_31 : decode cX10_signOf 31 = .ok (.bipush 64, 2) := by decide +kernel
theorem dX10_signOf_33 : decode cX10_signOf 33 = .ok (.iload_n 0, 1) := by decide +kernel
theorem dX10_signOf_34 : decode cX10_signOf 34 = .ok (.bipush 65, 2) := by decide +kernel
theorem dX10_signOf_36 : decode cX10_signOf 36 = .ok (.isub, 1) := by decide +kernel
theorem dX10_signOf_37 : decode cX10_signOf 37 = .ok (.ishl, 1) := by decide +kernel
theorem dX10_signOf_38 : decode cX10_signOf 38 = .ok (.goto 4, 3) := by decide +kernel
theorem dX10_signOf_41 : decode cX10_signOf 41 = .ok (.iconst 0, 1) := by decide +kernel
theorem dX10_signOf_42 : decode cX10_signOf 42 = .ok (.ireturn, 1) := by decide +kernel
set_option maxRecDepth 20000 in
theorem ggX10_readsGround_X10_signOf : GoodIn wsX10_readsGround wsX10_signOf := goodIn_r _ [7, 8, 9, 6, 10] (by decide +kernel) (by decide +kernel)
set_option maxRecDepth 20000 in
theorem gX10_readsGround_X10_signOf : GoodIn wsX10_readsGround (va_wsS RX10 123 yX10_signOf wsX10_signOf) := goodIn_app (goodIn_of _ (by decide +kernel)) ggX10_readsGround_X10_signOf
set_option maxRecDepth 20000 in
theorem ggX10_readsGround_X10_add : GoodIn wsX10_readsGround wsX10_add := goodIn_r _ [14, 15, 16, 17, 18, 19, 20, 21, 22, 23, 24, 25, 26, 27, 28, 29, 30, 31, 32, 33, 34, 35, 36, 37, 38, 39, 40, 41, 42, 43, 44, 45, 46, 47, 48, 49, 50, 51] (by decide +kernel) (by decide +kernel)
set_option maxRecDepth 20000 in
theorem gX10_readsGround_X10_add : GoodIn wsX10_readsGround (wsV RX10 127 RX10 yX10_add wsX10_add) := goodIn_app (goodIn_of _ (by decide +kernel)) ggX10_readsGround_X10_add
theorem dX10_readsGround_0 : decode cX10_readsGround 0 = .ok (.iconst 0, 1) := by decide +kernel
theorem dX10_readsGround_1 : decode cX10_readsGround 1 = .ok (.istore_n 1, 1) := by decide +kernel
theorem dX10_readsGround_2 : decode cX10_readsGround 2 = .ok (.aload_n 0, 1) := by decide +kernel
theorem dX10_readsGround_3 : decode cX10_readsGround 3 = .ok (.getfield 117, 3) := by decide +kernel
theorem dX10_readsGround_6 : decode cX10_readsGround 6 = .ok (.aload_n 0, 1) := by decide +kernel
theorem dX10_readsGround_7 : decode cX10_readsGround 7 = .ok (.getfield 120, 3) := by decide +kernel
theorem dX10_readsGround_10 : decode cX10_readsGround 10 = .ok (.if_icmp .ge 79, 3) := by decide +kernel
theorem dX10_readsGround_13 : decode cX10_readsGround 13 = .ok (.aload_n 0, 1) := by decide +kernel
theorem dX10_readsGround_14 : decode cX10_readsGround 14 = .ok (.getfield 16, 3) := by decide +kernel
theorem dX10_readsGround_17 : decode cX10_readsGround 17 = .ok (.aload_n 0, 1) := by decide +kernel
theorem dX10_readsGround_18 : decode cX10_readsGround 18 = .ok (.getfield 117, 3) := by decide +kernel
theorem dX10_readsGround_21 : decode cX10_readsGround 21 = .ok (.iaload, 1) := by decide +kernel
theorem dX10_readsGround_22 : decode cX10_readsGround 22 = .ok (.bipush 59, 2) := by decide +kernel
theorem dX10_readsGround_24 : decode cX10_readsGround 24 = .ok (.if_icmp .eq 65, 3) := by decide +kernel
theorem dX10_readsGround_27 : decode cX10_readsGround 27 = .ok (.aload_n 0, 1) := by decide +kernel
theorem dX10_readsGround_28 : decode cX10_readsGround 28 = .ok (.getfield 16, 3) := by decide +kernel
theorem dX10_readsGround_31 : decode cX10_readsGround 31 = .ok (.aload_n 0, 1) := by decide +kernel
theorem dX10_readsGround_32 : decode cX10_readsGround 32 = .ok (.getfield 117, 3) := by decide +kernel
theorem dX10_readsGround_35 : decode cX10_readsGround 35 = .ok (.iaload, 1) := by decide +kernel
theorem dX10_readsGround_36 : decode cX10_readsGround 36 = .ok (.invokestatic 123, 3) := by decide +kernel
theorem dX10_readsGround_39 : decode cX10_readsGround 39 = .ok (.istore_n 2, 1) := by decide +kernel
theorem dX10_readsGround_40 : decode cX10_readsGround 40 = .ok (.iload_n 2, 1) := by decide +kernel
theorem dX10_readsGround_41 : decode cX10_readsGround 41 = .ok (.bipush 64, 2) := by decide +kernel
theorem dX10_readsGround_43 : decode cX10_readsGround 43 = .ok (.if_icmp .ge 7, 3) := by decide +kernel
theorem dX10_readsGround_46 : decode cX10_readsGround 46 = .ok (.iload_n 2, 1) := by decide +kernel
theorem dX10_readsGround_47 : decode cX10_readsGround 47 = .ok (.goto 7, 3) := by decide +kernel
theorem dX10_readsGround_50 : decode cX10_readsGround 50 = .ok (.iload_n 2, 1) := by decide +kernel
theorem dX10_readsGround_51 : decode cX10_readsGround 51 = .ok (.bipush 6, 2) := by decide +kernel
theorem dX10_readsGround_53 : decode cX10_readsGround 53 = .ok (.ishr, 1) := by decide +kernel
theorem dX10_readsGround_54 : decode cX10_readsGround 54 = .ok (.istore_n 3, 1) := by decide +kernel
theorem dX10_readsGround_55 : decode cX10_readsGround 55 = .ok (.iload_n 2, 1) := by decide +kernel
theorem dX10_readsGround_56 : decode cX10_readsGround 56 = .ok (.ifCond .eq 14, 3) := by decide +kernel
theorem dX10_readsGround_59 : decode cX10_readsGround 59 = .ok (.iload_n 1, 1) := by decide +kernel
theorem dX10_readsGround_60 : decode cX10_readsGround 60 = .ok (.iload_n 1, 1) := by decide +kernel
theorem dX10_readsGround_61 : decode cX10_readsGround 61 = .ok (.bipush 6, 2) := by decide +kernel
theorem dX10_readsGround_63 : decode cX10_readsGround 63 = .ok (.ishr, 1) := by decide +kernel
theorem dX10_readsGround_64 : decode cX10_readsGround 64 = .ok (.ior, 1) := by decide +kernel
theorem dX10_readsGround_65 : decode cX10_readsGround 65 = .ok (.iload_n 3, 1) := by decide +kernel
theorem dX10_readsGround_66 : decode cX10_readsGround 66 = .ok (.iand, 1) := by decide +kernel
theorem dX10_readsGround_67 : decode cX10_readsGround 67 = .ok (.ifCond .eq 5, 3) := by decide +kernel
theorem dX10_readsGround_70 : decode cX10_readsGround 70 = .ok (.iconst 0, 1) := by decide +kernel
theorem dX10_readsGround_71 : decode cX10_readsGround 71 = .ok (.ireturn, 1) := by decide +kernel
theorem dX10_readsGround_72 : decode cX10_readsGround 72 = .ok (.iload_n 1, 1) := by decide +kernel
theorem dX10_readsGround_73 : decode cX10_readsGround 73 = .ok (.iload_n 2, 1) := by decide +kernel
theorem dX10_readsGround_74 : decode cX10_readsGround 74 = .ok (.ior, 1) := by decide +kernel
theorem dX10_readsGround_75 : decode cX10_readsGround 75 = .ok (.istore_n 1, 1) := by decide +kernel
theorem dX10_readsGround_76 : decode cX10_readsGround 76 = .ok (.aload_n 0, 1) := by decide +kernel
theorem dX10_readsGround_77 : decode cX10_readsGround 77 = .ok (.dup, 1) := by decide +kernel
theorem dX10_readsGround_78 : decode cX10_readsGround 78 = .ok (.getfield 117, 3) := by decide +kernel
theorem dX10_readsGround_81 : decode cX10_readsGround 81 = .ok (.iconst 1, 1) := by decide +kernel
theorem dX10_readsGround_82 : decode cX10_readsGround 82 = .ok (.iadd, 1) := by decide +kernel
theorem dX10_readsGround_83 : decode cX10_readsGround 83 = .ok (.putfield 117, 3) := by decide +kernel
theorem dX10_readsGround_86 : decode cX10_readsGround 86 = .ok (.goto (-84), 3) := by decide +kernel
theorem dX10_readsGround_89 : decode cX10_readsGround 89 = .ok (.aload_n 0, 1) := by decide +kernel
theorem dX10_readsGround_90 : decode cX10_readsGround 90 = .ok (.iload_n 1, 1) := by decide +kernel
theorem dX10_readsGround_91 : decode cX10_readsGround 91 = .ok (.bipush (-9), 2) := by decide +kernel
theorem dX10_readsGround_93 : decode cX10_readsGround 93 = .ok (.bipush (-9), 2) := by decide +kernel
theorem dX10_readsGround_95 : decode cX10_readsGround 95 = .ok (.bipush (-9), 2) := by decide +kernel
theorem dX10_readsGround_97 : decode cX10_readsGround 97 = .ok (.invokevirtual 127, 3) := by decide +kernel
theorem dX10_readsGround_100 : decode cX10_readsGround 100 = .ok (.ifCond .lt 7, 3) := by decide +kernel
theorem dX10_readsGround_103 : decode cX10_readsGround 103 = .ok (.iconst 1, 1) := by decide +kernel
theorem dX10_readsGround_104 : decode cX10_readsGround 104 = .ok (.goto 4, 3) := by decide +kernel
theorem dX10_readsGround_107 : decode cX10_readsGround 107 = .ok (.iconst 0, 1) := by decide +kernel
theorem dX10_readsGround_108 : decode cX10_readsGround 108 = .ok (.ireturn, 1) := by decide +kernel
set_option maxRecDepth 20000 in
theorem ggX10_readsLine_X10_codeAt : GoodIn wsX10_readsLine wsX10_codeAt := goodIn_r _ [7, 1, 8, 9, 13, 14, 15, 16, 17, 18, 19, 20, 21, 22, 23, 24, 25, 26, 27, 28, 29, 30, 31, 32, 33, 34, 35, 36, 37, 38, 39, 40, 41, 42, 43, 44] (by decide +kernel) (by decide +kernel)
set_option maxRecDepth 20000 in
theorem gX10_readsLine_X10_codeAt : GoodIn wsX10_readsLine (wsV RX10 131 RX10 yX10_codeAt wsX10_codeAt) := goodIn_app (goodIn_of _ (by decide +kernel)) ggX10_readsLine_X10_codeAt
set_option maxRecDepth 20000 in
theorem ggX10_readsLine_X10_within : GoodIn wsX10_readsLine wsX10_within := goodIn_r _ [12] (by decide +kernel) (by decide +kernel)
set_option maxRecDepth 20000 in
theorem gX10_readsLine_X10_within : GoodIn wsX10_readsLine (va_wsS RX10 92 yX10_within wsX10_within) := goodIn_app (goodIn_of _ (by decide +kernel)) ggX10_readsLine_X10_within
theorem dX10_readsLine_0 : decode cX10_readsLine 0 = .ok (.aload_n 0, 1) := by decide +kernel
theorem dX10_readsLine_1 : decode cX10_readsLine 1 = .ok (.getfield 117, 3) := by decide +kernel
theorem dX10_readsLine_4 : decode cX10_readsLine 4 = .ok (.istore_n 1, 1) := by decide +kernel
theorem dX10_readsLine_5 : decode cX10_readsLine 5 = .ok (.iconst 0, 1) := by decide +kernel
theorem dX10_readsLine_6 : decode cX10_readsLine 6 = .ok (.istore_n 2, 1) := by decide +kernel
theorem dX10_readsLine_7 : decode cX10_readsLine 7 = .ok (.aload_n 0, 1) := by decide +kernel
theorem dX10_readsLine_8 : decode cX10_readsLine 8 = .ok (.getfield 117, 3) := by decide +kernel
theorem dX10_readsLine_11 : decode cX10_readsLine 11 = .ok (.iload_n 1, 1) := by decide +kernel
theorem dX10_readsLine_12 : decode cX10_readsLine 12 = .ok (.iconst 2, 1) := by decide +kernel
theorem dX10_readsLine_13 : decode cX10_readsLine 13 = .ok (.iadd, 1) := by decide +kernel
theorem dX10_readsLine_14 : decode cX10_readsLine 14 = .ok (.if_icmp .ge 43, 3) := by decide +kernel
theorem dX10_readsLine_17 : decode cX10_readsLine 17 = .ok (.aload_n 0, 1) := by decide +kernel
theorem dX10_readsLine_18 : decode cX10_readsLine 18 = .ok (.invokevirtual 131, 3) := by decide +kernel
theorem dX10_readsLine_21 : decode cX10_readsLine 21 = .ok (.bipush 48, 2) := by decide +kernel
theorem dX10_readsLine_23 : decode cX10_readsLine 23 = .ok (.bipush 57, 2) := by decide +kernel
theorem dX10_readsLine_25 : decode cX10_readsLine 25 = .ok (.invokestatic 92, 3) := by decide +kernel
theorem dX10_readsLine_28 : decode cX10_readsLine 28 = .ok (.ifCond .eq 29, 3) := by decide +kernel
theorem dX10_readsLine_31 : decode cX10_readsLine 31 = .ok (.bipush 10, 2) := by decide +kernel
theorem dX10_readsLine_33 : decode cX10_readsLine 33 = .ok (.iload_n 2, 1) := by decide +kernel
theorem dX10_readsLine_34 : decode cX10_readsLine 34 = .ok (.imul, 1) := by decide +kernel
theorem dX10_readsLine_35 : decode cX10_readsLine 35 = .ok (.aload_n 0, 1) := by decide +kernel
theorem dX10_readsLine_36 : decode cX10_readsLine 36 = .ok (.invokevirtual 131, 3) := by decide +kernel
theorem dX10_readsLine_39 : decode cX10_readsLine 39 = .ok (.iadd, 1) := by decide +kernel
theorem dX10_readsLine_40 : decode cX10_readsLine 40 = .ok (.bipush 48, 2) := by decide +kernel
theorem dX10_readsLine_42 : decode cX10_readsLine 42 = .ok (.isub, 1) := by decide +kernel
theorem dX10_readsLine_43 : decode cX10_readsLine 43 = .ok (.istore_n 2, 1) := by decide +kernel
theorem dX10_readsLine_44 : decode cX10_readsLine 44 = .ok (.aload_n 0, 1) := by decide +kernel
theorem dX10_readsLine_45 : decode cX10_readsLine 45 = .ok (.dup, 1) := by decide +kernel
theorem dX10_readsLine_46 : decode cX10_readsLine 46 = .ok (.getfield 117, 3) := by decide +kernel
theorem dX10_readsLine_49 : decode cX10_readsLine 49 = .ok (.iconst 1, 1) := by decide +kernel
theorem dX10_readsLine_50 : decode cX10_readsLine 50 = .ok (.iadd, 1) := by decide +kernel
theorem dX10_readsLine_51 : decode cX10_readsLine 51 = .ok (.putfield 117, 3) := by decide +kernel
theorem dX10_readsLine_54 : decode cX10_readsLine 54 = .ok (.goto (-47), 3) := by decide +kernel
theorem dX10_readsLine_57 : decode cX10_readsLine 57 = .ok (.aload_n 0, 1) := by decide +kernel
theorem dX10_readsLine_58 : decode cX10_readsLine 58 = .ok (.getfield 117, 3) := by decide +kernel
theorem dX10_readsLine_61 : decode cX10_readsLine 61 = .ok (.iload_n 1, 1) := by decide +kernel
theorem dX10_readsLine_62 : decode cX10_readsLine 62 = .ok (.if_icmp .eq 11, 3) := by decide +kernel
theorem dX10_readsLine_65 : decode cX10_readsLine 65 = .ok (.iload_n 2, 1) := by decide +kernel
theorem dX10_readsLine_66 : decode cX10_readsLine 66 = .ok (.aload_n 0, 1) := by decide +kernel
theorem dX10_readsLine_67 : decode cX10_readsLine 67 = .ok (.getfield 114, 3) := by decide +kernel
theorem dX10_readsLine_70 : decode cX10_readsLine 70 = .ok (.if_icmp .lt 10, 3) := by decide +kernel
theorem dX10_readsLine_73 : decode cX10_readsLine 73 = .ok (.aload_n 0, 1) := by decide +kernel
theorem dX10_readsLine_74 : decode cX10_readsLine 74 = .ok (.iload_n 1, 1) := by decide +kernel
theorem dX10_readsLine_75 : decode cX10_readsLine 75 = .ok (.putfield 117, 3) := by decide +kernel
theorem dX10_readsLine_78 : decode cX10_readsLine 78 = .ok (.iconst (-1), 1) := by decide +kernel
theorem dX10_readsLine_79 : decode cX10_readsLine 79 = .ok (.ireturn, 1) := by decide +kernel
theorem dX10_readsLine_80 : decode cX10_readsLine 80 = .ok (.iload_n 2, 1) := by decide +kernel
theorem dX10_readsLine_81 : decode cX10_readsLine 81 = .ok (.ireturn, 1) := by decide +kernel
set_option maxRecDepth 20000 in
theorem ggX10_readsCut_X10_readsLine : GoodIn wsX10_readsCut wsX10_readsLine := goodIn_r _ [7, 1, 8, 9, 10, 11, 6, 12, 13, 14, 15, 16, 17, 31, 32, 33, 34, 35, 36, 37, 38, 39, 40, 41, 42, 43, 44, 45, 46, 47, 48, 49, 50, 51, 52, 53, 54, 55, 56, 57, 58, 59, 60, 61, 62] (by decide +kernel) (by decide +kernel)
set_option maxRecDepth 20000 in
theorem gX10_readsCut_X10_readsLine : GoodIn wsX10_readsCut (wsV RX10 135 RX10 yX10_readsLine wsX10_readsLine) := goodIn_app (goodIn_of _ (by decide +kernel)) ggX10_readsCut_X10_readsLine
set_option maxRecDepth 20000 in
theorem ggX10_readsCut_X10_codeAt : GoodIn wsX10_readsCut wsX10_codeAt := goodIn_r _ [12, 1, 13, 14, 31, 32, 33, 34, 35, 36, 37, 38, 39, 40, 41, 42, 43, 44, 45, 46, 47, 48, 49, 50, 51, 52, 53, 54, 55, 56, 57, 58, 59, 60, 61, 62] (by decide +kernel) (by decide +kernel)
set_option maxRecDepth 20000 in
theorem gX10_readsCut_X10_codeAt : GoodIn wsX10_readsCut (wsV RX10 131 RX10 yX10_codeAt wsX10_codeAt) := goodIn_app (goodIn_of _ (by decide +kernel)) ggX10_readsCut_X10_codeAt
set_option maxRecDepth 20000 in
theorem ggX10_readsCut_X10_within : GoodIn wsX10_readsCut wsX10_within := goodIn_r _ [17] (by decide +kernel) (by decide +kernel)
set_option maxRecDepth 20000 in
theorem gX10_readsCut_X10_within : GoodIn wsX10_readsCut (va_wsS RX10 92 yX10_within wsX10_within) := goodIn_app (goodIn_of _ (by decide +kernel)) ggX10_readsCut_X10_within
set_option maxRecDepth 20000 in
theorem ggX10_readsCut_X10_cutOf : GoodIn wsX10_readsCut wsX10_cutOf := goodIn_r _ [20, 21, 22, 6, 23, 15, 16, 17] (by decide +kernel) (by decide +kernel)
set_option maxRecDepth 20000 in
theorem gX10_readsCut_X10_cutOf : GoodIn wsX10_readsCut (va_wsS RX10 100 yX10_cutOf wsX10_cutOf) := goodIn_app (goodIn_of _ (by decide +kernel)) ggX10_readsCut_X10_cutOf
set_option maxRecDepth 20000 in
theorem ggX10_readsCut_X10_add : GoodIn wsX10_readsCut wsX10_add := goodIn_r _ [27, 2, 8, 28, 29, 30, 31, 32, 33, 34, 35, 36, 37, 38, 39, 40, 41, 42, 43, 44, 45, 46, 47, 48, 49, 50, 51, 52, 53, 54, 55, 56, 57, 58, 59, 60, 61, 62] (by decide +kernel) (by decide +kernel)
set_option maxRecDepth 20000 in
theorem gX10_readsCut_X10_add : GoodIn wsX10_readsCut (wsV RX10 127 RX10 yX10_add wsX10_add) := goodIn_app (goodIn_of _ (by decide +kernel)) ggX10_readsCut_X10_add
theorem dX10_readsCut_0 : decode cX10_readsCut 0 = .ok (.aload_n 0, 1) := by decide +kernel
theorem dX10_readsCut_1 : decode cX10_readsCut 1 = .ok (.invokevirtual 135, 3) := by decide +kernel
theorem dX10_readsCut_4 : decode cX10_readsCut 4 = .ok (.istore_n 1, 1) := by decide +kernel
theorem dX10_readsCut_5 : decode cX10_readsCut 5 = .ok (.iload_n 1, 1) := by decide +kernel
theorem dX10_readsCut_6 : decode cX10_readsCut 6 = .ok (.ifCond .lt 12, 3) := by decide +kernel
theorem dX10_readsCut_9 : decode cX10_readsCut 9 = .ok (.aload_n 0, 1) := by decide +kernel
theorem dX10_readsCut_10 : decode cX10_readsCut 10 = .ok (.invokevirtual 131, 3) := by decide +kernel
theorem dX10_readsCut_13 : decode cX10_readsCut 13 = .ok (.bipush 44, 2) := by decide +kernel
theorem dX10_readsCut_15 : decode cX10_readsCut 15 = .ok (.if_icmp .eq 5, 3) := by decide +kernel
theorem dX10_readsCut_18 : decode cX10_readsCut 18 = .ok (.iconst 0, 1) := by decide +kernel
theorem dX10_readsCut_19 : decode cX10_readsCut 19 = .ok (.ireturn, 1) := by decide +kernel
theorem dX10_readsCut_20 : decode cX10_readsCut 20 = .ok (.aload_n 0, 1) := by decide +kernel
theorem dX10_readsCut_21 : decode cX10_readsCut 21 = .ok (.dup, 1) := by decide +kernel
theorem dX10_readsCut_22 : decode cX10_readsCut 22 = .ok (.getfield 117, 3) := by decide +kernel
theorem dX10_readsCut_25 : decode cX10_readsCut 25 = .ok (.iconst 1, 1) := by decide +kernel
theorem dX10_readsCut_26 : decode cX10_readsCut 26 = .ok (.iadd, 1) := by decide +kernel
theorem dX10_readsCut_27 : decode cX10_readsCut 27 = .ok (.putfield 117, 3) := by decide +kernel
theorem dX10_readsCut_30 : decode cX10_readsCut 30 = .ok (.aload_n 0, 1) := by decide +kernel
theorem dX10_readsCut_31 : decode cX10_readsCut 31 = .ok (.invokevirtual 135, 3) := by decide +kernel
theorem dX10_readsCut_34 : decode cX10_readsCut 34 = .ok (.istore_n 2, 1) := by decide +kernel
theorem dX10_readsCut_35 : decode cX10_readsCut 35 = .ok (.iload_n 2, 1) := by decide +kernel
theorem dX10_readsCut_36 : decode cX10_readsCut 36 = .ok (.ifCond .lt 17, 3) := by decide +kernel
theorem dX10_readsCut_39 : decode cX10_readsCut 39 = .ok (.aload_n 0, 1) := by decide +kernel
theorem dX10_readsCut_40 : decode cX10_readsCut 40 = .ok (.invokevirtual 131, 3) := by decide +kernel
theorem dX10_readsCut_43 : decode cX10_readsCut 43 = .ok (.bipush 97, 2) := by decide +kernel
theorem dX10_readsCut_45 : decode cX10_readsCut 45 = .ok (.bipush 102, 2) := by decide +kernel
theorem dX10_readsCut_47 : decode cX10_readsCut 47 = .ok (.invokestatic 92, 3) := by decide +kernel
theorem dX10_readsCut_50 : decode cX10_readsCut 50 = .ok (.ifCond .ne 5, 3) := by decide +kernel
theorem dX10_readsCut_53 : decode cX10_readsCut 53 = .ok (.iconst 0, 1) := by decide +kernel
theorem dX10_readsCut_54 : decode cX10_readsCut 54 = .ok (.ireturn, 1) := by decide +kernel
theorem dX10_readsCut_55 : decode cX10_readsCut 55 = .ok (.aload_n 0, 1) := by decide +kernel
theorem dX10_readsCut_56 : decode cX10_readsCut 56 = .ok (.invokevirtual 131, 3) := by decide +kernel
theorem dX10_readsCut_59 : decode cX10_readsCut 59 = .ok (.bipush 97, 2) := by decide +kernel
theorem dX10_readsCut_61 : decode cX10_readsCut 61 = .ok (.isub, 1) := by decide +kernel
theorem dX10_readsCut_62 : decode cX10_readsCut 62 = .ok (.istore_n 3, 1) := by decide +kernel
theorem dX10_readsCut_63 : decode cX10_readsCut 63 = .ok (.aload_n 0, 1) := by decide +kernel
theorem dX10_readsCut_64 : decode cX10_readsCut 64 = .ok (.getfield 34, 3) := by decide +kernel
theorem dX10_readsCut_67 : decode cX10_readsCut 67 = .ok (.iload_n 1, 1) := by decide +kernel
theorem dX10_readsCut_68 : decode cX10_readsCut 68 = .ok (.iaload, 1) := by decide +kernel
theorem dX10_readsCut_69 : decode cX10_readsCut 69 = .ok (.aload_n 0, 1) := by decide +kernel
theorem dX10_readsCut_70 : decode cX10_readsCut 70 = .ok (.getfield 34, 3) := by decide +kernel
theorem dX10_readsCut_73 : decode cX10_readsCut 73 = .ok (.iload_n 2, 1) := by decide +kernel
theorem dX10_readsCut_74 : decode cX10_readsCut 74 = .ok (.iaload, 1) := by decide +kernel
theorem dX10_readsCut_75 : decode cX10_readsCut 75 = .ok (.iload_n 3, 1) := by decide +kernel
theorem dX10_readsCut_76 : decode cX10_readsCut 76 = .ok (.invokestatic 100, 3) := by decide +kernel
theorem dX10_readsCut_79 : decode cX10_readsCut 79 = .ok (.istore 4, 2) := by decide +kernel
theorem dX10_readsCut_81 : decode cX10_readsCut 81 = .ok (.iload 4, 2) := by decide +kernel
theorem dX10_readsCut_83 : decode cX10_readsCut 83 = .ok (.bipush (-9), 2) := by decide +kernel
theorem dX10_readsCut_85 : decode cX10_readsCut 85 = .ok (.if_icmp .ne 5, 3) := by decide +kernel
theorem dX10_readsCut_88 : decode cX10_readsCut 88 = .ok (.iconst 0, 1) := by decide +kernel
theorem dX10_readsCut_89 : decode cX10_readsCut 89 = .ok (.ireturn, 1) := by decide +kernel
theorem dX10_readsCut_90 : decode cX10_readsCut 90 = .ok (.aload_n 0, 1) := by decide +kernel
theorem dX10_readsCut_91 : decode cX10_readsCut 91 = .ok (.dup, 1) := by decide +kernel
theorem dX10_readsCut_92 : decode cX10_readsCut 92 = .ok (.getfield 117, 3) := by decide +kernel
theorem dX10_readsCut_95 : decode cX10_readsCut 95 = .ok (.iconst 1, 1) := by decide +kernel
theorem dX10_readsCut_96 : decode cX10_readsCut 96 = .ok (.iadd, 1) := by decide +kernel
theorem dX10_readsCut_97 : decode cX10_readsCut 97 = .ok (.putfield 117, 3) := by decide +kernel
theorem dX10_readsCut_100 : decode cX10_readsCut 100 = .ok (.aload_n 0, 1) := by decide +kernel
theorem dX10_readsCut_101 : decode cX10_readsCut 101 = .ok (.iload 4, 2) := by decide +kernel
theorem dX10_readsCut_103 : decode cX10_readsCut 103 = .ok (.iload_n 1, 1) := by decide +kernel
theorem dX10_readsCut_104 : decode cX10_readsCut 104 = .ok (.iload_n 2, 1) := by decide +kernel
theorem dX10_readsCut_105 : decode cX10_readsCut 105 = .ok (.iload_n 3, 1) := by decide +kernel
theorem dX10_readsCut_106 : decode cX10_readsCut 106 = .ok (.invokevirtual 127, 3) := by decide +kernel
theorem dX10_readsCut_109 : decode cX10_readsCut 109 = .ok (.ifCond .lt 7, 3) := by decide +kernel
theorem dX10_readsCut_112 : decode cX10_readsCut 112 = .ok (.iconst 1, 1) := by decide +kernel
theorem dX10_readsCut_113 : decode cX10_readsCut 113 = .ok (.goto 4, 3) := by decide +kernel
theorem dX10_readsCut_116 : decode cX10_readsCut 116 = .ok (.iconst 0, 1) := by decide +kernel
theorem dX10_readsCut_117 : decode cX10_readsCut 117 = .ok (.ireturn, 1) := by decide +kernel
set_option maxRecDepth 20000 in
theorem ggX10_readsAll_X10_codeAt : GoodIn wsX10_readsAll wsX10_codeAt := goodIn_r _ [8, 2, 3, 9, 42, 43, 44, 45, 46, 47, 48, 49, 50, 51, 52, 53, 54, 55, 56, 57, 58, 59, 60, 61, 62, 63, 64, 65, 66, 67, 68, 69, 70, 71, 72, 73] (by decide +kernel) (by decide +kernel)
set_option maxRecDepth 20000 in
theorem gX10_readsAll_X10_codeAt : GoodIn wsX10_readsAll (wsV RX10 131 RX10 yX10_codeAt wsX10_codeAt) := goodIn_app (goodIn_of _ (by decide +kernel)) ggX10_readsAll_X10_codeAt
set_option maxRecDepth 20000 in
theorem ggX10_readsAll_X10_readsGround : GoodIn wsX10_readsAll wsX10_readsGround := goodIn_r _ [13, 2, 3, 9, 14, 15, 7, 16, 17, 18, 19, 20, 21, 22, 23, 24, 1, 25, 26, 27, 42, 43, 44, 45, 46, 47, 48, 49, 50, 51, 52, 53, 54, 55, 56, 57, 58, 59, 60, 61, 62, 63, 64, 65, 66, 67, 68, 69, 70, 71, 72, 73] (by decide +kernel) (by decide +kernel)
set_option maxRecDepth 20000 in
theorem gX10_readsAll_X10_readsGround : GoodIn wsX10_readsAll (wsV RX10 138 RX10 yX10_readsGround wsX10_readsGround) := goodIn_app (goodIn_of _ (by decide +kernel)) ggX10_readsAll_X10_readsGround
set_option maxRecDepth 20000 in
theorem ggX10_readsAll_X10_readsCut : GoodIn wsX10_readsAll wsX10_readsCut := goodIn_r _ [31, 2, 24, 32, 33, 34, 7, 35, 1, 4, 5, 6, 8, 3, 9, 17, 18, 19, 36, 37, 38, 39, 40, 41, 20, 21, 22, 23, 25, 26, 27, 42, 43, 44, 45, 46, 47, 48, 49, 50, 51, 52, 53, 54, 55, 56, 57, 58, 59, 60, 61, 62, 63, 64, 65, 66, 67, 68, 69, 70, 71, 72, 73] (by decide +kernel) (by decide +kernel)
set_option maxRecDepth 20000 in
theorem gX10_readsAll_X10_readsCut : GoodIn wsX10_readsAll (wsV RX10 142 RX10 yX10_readsCut wsX10_readsCut) := goodIn_app (goodIn_of _ (by decide +kernel)) ggX10_readsAll_X10_readsCut
theorem dX10_readsAll_0 : decode cX10_readsAll 0 = .ok (.aload_n 0, 1) := by decide +kernel
theorem dX10_readsAll_1 : decode cX10_readsAll 1 = .ok (.iconst 0, 1) := by decide +kernel
theorem dX10_readsAll_2 : decode cX10_readsAll 2 = .ok (.putfield 114, 3) := by decide +kernel
theorem dX10_readsAll_5 : decode cX10_readsAll 5 = .ok (.aload_n 0, 1) := by decide +kernel
theorem dX10_readsAll_6 : decode cX10_readsAll 6 = .ok (.invokevirtual 131, 3) := by decide +kernel
theorem dX10_readsAll_9 : decode cX10_readsAll 9 = .ok (.istore_n 1, 1) := by decide +kernel
theorem dX10_readsAll_10 : decode cX10_readsAll 10 = .ok (.aload_n 0, 1) := by decide +kernel
theorem dX10_readsAll_11 : decode cX10_readsAll 11 = .ok (.getfield 117, 3) := by decide +kernel
theorem dX10_readsAll_14 : decode cX10_readsAll 14 = .ok (.aload_n 0, 1) := by decide +kernel
theorem dX10_readsAll_15 : decode cX10_readsAll 15 = .ok (.getfield 120, 3) := by decide +kernel
theorem dX10_readsAll_18 : decode cX10_readsAll 18 = .ok (.if_icmp .eq 15, 3) := by decide +kernel
theorem dX10_readsAll_21 : decode cX10_readsAll 21 = .ok (.iload_n 1, 1) := by decide +kernel
theorem dX10_readsAll_22 : decode cX10_readsAll 22 = .ok (.bipush 103, 2) := by decide +kernel
theorem dX10_readsAll_24 : decode cX10_readsAll 24 = .ok (.if_icmp .eq 11, 3) := by decide +kernel
theorem dX10_readsAll_27 : decode cX10_readsAll 27 = .ok (.iload_n 1, 1) := by decide +kernel
theorem dX10_readsAll_28 : decode cX10_readsAll 28 = .ok (.bipush 99, 2) := by decide +kernel
theorem dX10_readsAll_30 : decode cX10_readsAll 30 = .ok (.if_icmp .eq 5, 3) := by decide +kernel
theorem dX10_readsAll_33 : decode cX10_readsAll 33 = .ok (.iconst 0, 1) := by decide +kernel
theorem dX10_readsAll_34 : decode cX10_readsAll 34 = .ok (.ireturn, 1) := by decide +kernel
theorem dX10_readsAll_35 : decode cX10_readsAll 35 = .ok (.aload_n 0, 1) := by decide +kernel
theorem dX10_readsAll_36 : decode cX10_readsAll 36 = .ok (.dup, 1) := by decide +kernel
theorem dX10_readsAll_37 : decode cX10_readsAll 37 = .ok (.getfield 117, 3) := by decide +kernel
theorem dX10_readsAll_40 : decode cX10_readsAll 40 = .ok (.iconst 1, 1) := by decide +kernel
theorem dX10_readsAll_41 : decode cX10_readsAll 41 = .ok (.iadd, 1) := by decide +kernel
theorem dX10_readsAll_42 : decode cX10_readsAll 42 = .ok (.putfield 117, 3) := by decide +kernel
theorem dX10_readsAll_45 : decode cX10_readsAll 45 = .ok (.iload_n 1, 1) := by decide +kernel
theorem dX10_readsAll_46 : decode cX10_readsAll 46 = .ok (.bipush 103, 2) := by decide +kernel
theorem dX10_readsAll_48 : decode cX10_readsAll 48 = .ok (.if_icmp .ne 13, 3) := by decide +kernel
theorem dX10_readsAll_51 : decode cX10_readsAll 51 = .ok (.aload_n 0, 1) := by decide +kernel
theorem dX10_readsAll_52 : decode cX10_readsAll 52 = .ok (.invokevirtual 138, 3) := by decide +kernel
theorem dX10_readsAll_55 : decode cX10_readsAll 55 = .ok (.ifCond .ne 15, 3) := by decide +kernel
theorem dX10_readsAll_58 : decode cX10_readsAll 58 = .ok (.goto 10, 3) := by decide +kernel
theorem dX10_readsAll_61 : decode cX10_readsAll 61 = .ok (.aload_n 0, 1) := by decide +kernel
theorem dX10_readsAll_62 : decode cX10_readsAll 62 = .ok (.invokevirtual 142, 3) := by decide +kernel
theorem dX10_readsAll_65 : decode cX10_readsAll 65 = .ok (.ifCond .ne 5, 3) := by decide +kernel
theorem dX10_readsAll_68 : decode cX10_readsAll 68 = .ok (.iconst 0, 1) := by decide +kernel
theorem dX10_readsAll_69 : decode cX10_readsAll 69 = .ok (.ireturn, 1) := by decide +kernel
theorem dX10_readsAll_70 : decode cX10_readsAll 70 = .ok (.aload_n 0, 1) := by decide +kernel
theorem dX10_readsAll_71 : decode cX10_readsAll 71 = .ok (.getfield 117, 3) := by decide +kernel
theorem dX10_readsAll_74 : decode cX10_readsAll 74 = .ok (.aload_n 0, 1) := by decide +kernel
theorem dX10_readsAll_75 : decode cX10_readsAll 75 = .ok (.getfield 120, 3) := by decide +kernel
theorem dX10_readsAll_78 : decode cX10_readsAll 78 = .ok (.if_icmp .ne 5, 3) := by decide +kernel
theorem dX10_readsAll_81 : decode cX10_readsAll 81 = .ok (.iconst 1, 1) := by decide +kernel
theorem dX10_readsAll_82 : decode cX10_readsAll 82 = .ok (.ireturn, 1) := by decide +kernel
theorem dX10_readsAll_83 : decode cX10_readsAll 83 = .ok (.aload_n 0, 1) := by decide +kernel
theorem dX10_readsAll_84 : decode cX10_readsAll 84 = .ok (.invokevirtual 131, 3) := by decide +kernel
theorem dX10_readsAll_87 : decode cX10_readsAll 87 = .ok (.bipush 59, 2) := by decide +kernel
theorem dX10_readsAll_89 : decode cX10_readsAll 89 = .ok (.if_icmp .ne 12, 3) := by decide +kernel
theorem dX10_readsAll_92 : decode cX10_readsAll 92 = .ok (.aload_n 0, 1) := by decide +kernel
theorem dX10_readsAll_93 : decode cX10_readsAll 93 = .ok (.getfield 114, 3) := by decide +kernel
theorem dX10_readsAll_96 : decode cX10_readsAll 96 = .ok (.bipush 16, 2) := by decide +kernel
theorem dX10_readsAll_98 : decode cX10_readsAll 98 = .ok (.if_icmp .ne 5, 3) := by decide +kernel
theorem dX10_readsAll_101 : decode cX10_readsAll 101 = .ok (.iconst 0, 1) := by decide +kernel
theorem dX10_readsAll_102 : decode cX10_readsAll 102 = .ok (.ireturn, 1) := by decide +kernel
theorem dX10_readsAll_103 : decode cX10_readsAll 103 = .ok (.aload_n 0, 1) := by decide +kernel
theorem dX10_readsAll_104 : decode cX10_readsAll 104 = .ok (.dup, 1) := by decide +kernel
theorem dX10_readsAll_105 : decode cX10_readsAll 105 = .ok (.getfield 117, 3) := by decide +kernel
theorem dX10_readsAll_108 : decode cX10_readsAll 108 = .ok (.iconst 1, 1) := by decide +kernel
theorem dX10_readsAll_109 : decode cX10_readsAll 109 = .ok (.iadd, 1) := by decide +kernel
theorem dX10_readsAll_110 : decode cX10_readsAll 110 = .ok (.putfield 117, 3) := by decide +kernel
theorem dX10_readsAll_113 : decode cX10_readsAll 113 = .ok (.goto (-108), 3) := by decide +kernel
set_option maxRecDepth 20000 in
theorem ggX10_text_X10_isSheet : GoodIn wsX10_text wsX10_isSheet := goodIn_r _ [9, 10, 11, 8, 12] (by decide +kernel) (by decide +kernel)
set_option maxRecDepth 20000 in
theorem gX10_text_X10_isSheet : GoodIn wsX10_text (va_wsS RX10 145 yX10_isSheet wsX10_isSheet) := goodIn_app (goodIn_of _ (by decide +kernel)) ggX10_text_X10_isSheet
set_option maxRecDepth 20000 in
theorem ggX10_text_X10_isLane : GoodIn wsX10_text wsX10_isLane := goodIn_r _ [15, 10, 11, 8, 12] (by decide +kernel) (by decide +kernel)
set_option maxRecDepth 20000 in
theorem gX10_text_X10_isLane : GoodIn wsX10_text (va_wsS RX10 148 yX10_isLane wsX10_isLane) := goodIn_app (goodIn_of _ (by decide +kernel)) ggX10_text_X10_isLane
set_option maxRecDepth 20000 in
theorem ggX10_text_X10_fails : GoodIn wsX10_text wsX10_fails := goodIn_r _ [19, 1, 69, 70, 71, 72, 73, 74, 75, 76, 77, 78, 79, 80, 81, 82, 83, 84, 85, 86, 87, 88, 89, 90, 91, 92, 93, 94, 95, 96, 97, 98, 99, 100] (by decide +kernel) (by decide +kernel)
set_option maxRecDepth 20000 in
theorem gX10_text_X10_fails : GoodIn wsX10_text (wsV RX10 151 RX10 yX10_fails wsX10_fails) := goodIn_app (goodIn_of _ (by decide +kernel)) ggX10_text_X10_fails
set_option maxRecDepth 20000 in
theorem ggX10_text_X10_readsAll : GoodIn wsX10_text wsX10_readsAll := goodIn_r _ [23, 24, 4, 5, 25, 26, 27, 8, 28, 29, 30, 31, 32, 33, 34, 35, 36, 10, 11, 12, 37, 38, 39, 40, 41, 42, 43, 44, 45, 46, 47, 48, 49, 50, 51, 52, 53, 54, 55, 56, 57, 58, 69, 70, 71, 72, 73, 74, 75, 76, 77, 78, 79, 80, 81, 82, 83, 84, 85, 86, 87, 88, 89, 90, 91, 92, 93, 94, 95, 96, 97, 98, 99, 100] (by decide +kernel) (by decide +kernel)
set_option maxRecDepth 20000 in
theorem gX10_text_X10_readsAll : GoodIn wsX10_text (wsV RX10 154 RX10 yX10_readsAll wsX10_readsAll) := goodIn_app (goodIn_of _ (by decide +kernel)) ggX10_text_X10_readsAll
set_option maxRecDepth 20000 in
theorem ggX10_text_X10_comes : GoodIn wsX10_text wsX10_comes := goodIn_r _ [62, 63, 64, 24, 65, 41, 66, 42, 67, 43, 68, 44, 69, 70, 71, 72, 73, 74, 75, 76, 77, 78, 79, 80, 81, 82, 83, 84, 85, 86, 87, 88, 89, 90, 91, 92, 93, 94, 95, 96, 97, 98, 99, 100] (by decide +kernel) (by decide +kernel)
set_option maxRecDepth 20000 in
theorem gX10_text_X10_comes : GoodIn wsX10_text (wsV RX10 157 RX10 yX10_comes wsX10_comes) := goodIn_app (goodIn_of _ (by decide +kernel)) ggX10_text_X10_comes
theorem dX10_text_0 : decode cX10_text 0 = .ok (.aload_n 0, 1) := by decide +kernel
theorem dX10_text_1 : decode cX10_text 1 = .ok (.iconst 0, 1) := by decide +kernel
theorem dX10_text_2 : decode cX10_text 2 = .ok (.putfield 86, 3) := by decide +kernel
theorem dX10_text_5 : decode cX10_text 5 = .ok (.iload_n 1, 1) := by decide +kernel
theorem dX10_text_6 : decode cX10_text 6 = .ok (.invokestatic 145, 3) := by decide +kernel
theorem dX10_text_9 : decode cX10_text 9 = .ok (.ifCond .ne 5, 3) := by decide +kernel
theorem dX10_text_12 : decode cX10_text 12 = .ok (.iconst (-1), 1) := by decide +kernel
theorem dX10_text_13 : decode cX10_text 13 = .ok (.ireturn, 1) := by decide +kernel
theorem dX10_text_14 : decode cX10_text 14 = .ok (.iload_n 2, 1) := by decide +kernel
theorem dX10_text_15 : decode cX10_text 15 = .ok (.invokestatic 148, 3) := by decide +kernel
theorem dX10_text_18 : decode cX10_text 18 = .ok (.ifCond .ne 6, 3) := by decide +kernel
theorem dX10_text_21 : decode cX10_text 21 = .ok (.bipush (-2), 2) := by decide +kernel
theorem dX10_text_23 : decode cX10_text 23 = .ok (.ireturn, 1) := by decide +kernel
theorem dX10_text_24 : decode cX10_text 24 = .ok (.aload_n 0, 1) := by decide +kernel
theorem dX10_text_25 : decode cX10_text 25 = .ok (.getfield 9, 3) := by decide +kernel
theorem dX10_text_28 : decode cX10_text 28 = .ok (.iload_n 1, 1) := by decide +kernel
theorem dX10_text_29 : decode cX10_text 29 = .ok (.iaload, 1) := by decide +kernel
theorem dX10_text_30 : decode cX10_text 30 = .ok (.bipush (-9), 2) := by decide +kernel
theorem dX10_text_32 : decode cX10_text 32 = .ok (.if_icmp .eq 19, 3) := by decide +kernel
theorem dX10_text_35 : decode cX10_text 35 = .ok (.aload_n 0, 1) := by decide +kernel
theorem dX10_text_36 : decode cX10_text 36 = .ok (.getfield 9, 3) := by decide +kernel
theorem dX10_text_39 : decode cX10_text 39 = .ok (.iload_n 1, 1) := by decide +kernel
theorem dX10_text_40 : decode cX10_text 40 = .ok (.iaload, 1) := by decide +kernel
theorem dX10_text_41 : decode cX10_text 41 = .ok (.iload_n 2, 1) := by decide +kernel
theorem dX10_text_42 : decode cX10_text 42 = .ok (.if_icmp .eq 9, 3) := by decide +kernel
theorem dX10_text_45 : decode cX10_text 45 = .ok (.aload_n 0, 1) := by decide +kernel
theorem dX10_text_46 : decode cX10_text 46 = .ok (.iconst 2, 1) := by decide +kernel
theorem dX10_text_47 : decode cX10_text 47 = .ok (.invokevirtual 151, 3) := by decide +kernel
theorem dX10_text_50 : decode cX10_text 50 = .ok (.ireturn, 1) := by decide +kernel
theorem dX10_text_51 : decode cX10_text 51 = .ok (.aload_n 0, 1) := by decide +kernel
theorem dX10_text_52 : decode cX10_text 52 = .ok (.getfield 9, 3) := by decide +kernel
theorem dX10_text_55 : decode cX10_text 55 = .ok (.iload_n 1, 1) := by decide +kernel
theorem dX10_text_56 : decode cX10_text 56 = .ok (.iaload, 1) := by decide +kernel
theorem dX10_text_57 : decode cX10_text 57 = .ok (.bipush (-9), 2) := by decide +kernel
theorem dX10_text_59 : decode cX10_text 59 = .ok (.if_icmp .ne 9, 3) := by decide +kernel
theorem dX10_text_62 : decode cX10_text 62 = .ok (.aload_n 0, 1) := by decide +kernel
theorem dX10_text_63 : decode cX10_text 63 = .ok (.iconst 1, 1) := by decide +kernel
theorem dX10_text_64 : decode cX10_text 64 = .ok (.invokevirtual 151, 3) := by decide +kernel
theorem dX10_text_67 : decode cX10_text 67 = .ok (.ireturn, 1) := by decide +kernel
theorem dX10_text_68 : decode cX10_text 68 = .ok (.iload 4, 2) := by decide +kernel
theorem dX10_text_70 : decode cX10_text 70 = .ok (.ifCond .ge 9, 3) := by decide +kernel
theorem dX10_text_73 : decode cX10_text 73 = .ok (.aload_n 0, 1) := by decide +kernel
theorem dX10_text_74 : decode cX10_text 74 = .ok (.iconst 4, 1) := by decide +kernel
theorem dX10_text_75 : decode cX10_text 75 = .ok (.invokevirtual 151, 3) := by decide +kernel
theorem dX10_text_78 : decode cX10_text 78 = .ok (.ireturn, 1) := by decide +kernel
theorem dX10_text_79 : decode cX10_text 79 = .ok (.iload_n 3, 1) := by decide +kernel
theorem dX10_text_80 : decode cX10_text 80 = .ok (.ifCond .lt 26, 3) := by decide +kernel
theorem dX10_text_83 : decode cX10_text 83 = .ok (.iload_n 3, 1) := by decide +kernel
theorem dX10_text_84 : decode cX10_text 84 = .ok (.aload_n 0, 1) := by decide +kernel
theorem dX10_text_85 : decode cX10_text 85 = .ok (.getfield 13, 3) := by decide +kernel
theorem dX10_text_88 : decode cX10_text 88 = .ok (.iload_n 1, 1) := by decide +kernel
theorem dX10_text_89 : decode cX10_text 89 = .ok (.iaload, 1) := by decide +kernel
theorem dX10_text_90 : decode cX10_text 90 = .ok (.if_icmp .gt 16, 3) := by decide +kernel
theorem dX10_text_93 : decode cX10_text 93 = .ok (.iload 4, 2) := by decide +kernel
theorem dX10_text_95 : decode cX10_text 95 = .ok (.aload_n 0, 1) := by decide +kernel
theorem dX10_text_96 : decode cX10_text 96 = .ok (.getfield 13, 3) := by decide +kernel
theorem dX10_text_99 : decode cX10_text 99 = .ok (.iload_n 1, 1) := by decide +kernel
theorem dX10_text_100 : decode cX10_text 100 = .ok (.iaload, 1) := by decide +kernel
theorem dX10_text_101 : decode cX10_text 101 = .ok (.iload_n 3, 1) := by decide +kernel
theorem dX10_text_102 : decode cX10_text 102 = .ok (.isub, 1) := by decide +kernel
theorem dX10_text_103 : decode cX10_text 103 = .ok (.if_icmp .le 9, 3) := by decide +kernel
theorem dX10_text_106 : decode cX10_text 106 = .ok (.aload_n 0, 1) := by decide +kernel
theorem dX10_text_107 : decode cX10_text 107 = .ok (.iconst 3, 1) := by decide +kernel
theorem dX10_text_108 : decode cX10_text 108 = .ok (.invokevirtual 151, 3) := by decide +kernel
theorem dX10_text_111 : decode cX10_text 111 = .ok (.ireturn, 1) := by decide +kernel
theorem dX10_text_112 : decode cX10_text 112 = .ok (.aload_n 0, 1) := by decide +kernel
theorem dX10_text_113 : decode cX10_text 113 = .ok (.bipush 60, 2) := by decide +kernel
theorem dX10_text_115 : decode cX10_text 115 = .ok (.iload_n 1, 1) := by decide +kernel
theorem dX10_text_116 : decode cX10_text 116 = .ok (.imul, 1) := by decide +kernel
theorem dX10_text_117 : decode cX10_text 117 = .ok (.iload_n 3, 1) := by decide +kernel
theorem dX10_text_118 : decode cX10_text 118 = .ok (.iadd, 1) := by decide +kernel
theorem dX10_text_119 : decode cX10_text 119 = .ok (.putfield 117, 3) := by decide +kernel
theorem dX10_text_122 : decode cX10_text 122 = .ok (.aload_n 0, 1) := by decide +kernel
theorem dX10_text_123 : decode cX10_text 123 = .ok (.aload_n 0, 1) := by decide +kernel
theorem dX10_text_124 : decode cX10_text 124 = .ok (.getfield 117, 3) := by decide +kernel
theorem dX10_text_127 : decode cX10_text 127 = .ok (.iload 4, 2) := by decide +kernel
theorem dX10_text_129 : decode cX10_text 129 = .ok (.iadd, 1) := by decide +kernel
theorem dX10_text_130 : decode cX10_text 130 = .ok (.putfield 120, 3) := by decide +kernel
theorem dX10_text_133 : decode cX10_text 133 = .ok (.aload_n 0, 1) := by decide +kernel
theorem dX10_text_134 : decode cX10_text 134 = .ok (.getfield 117, 3) := by decide +kernel
theorem dX10_text_137 : decode cX10_text 137 = .ok (.istore 5, 2) := by decide +kernel
theorem dX10_text_139 : decode cX10_text 139 = .ok (.aload_n 0, 1) := by decide +kernel
theorem dX10_text_140 : decode cX10_text 140 = .ok (.invokevirtual 154, 3) := by decide +kernel
theorem dX10_text_143 : decode cX10_text 143 = .ok (.ifCond .ne 14, 3) := by decide +kernel
theorem dX10_text_146 : decode cX10_text 146 = .ok (.bipush (-100), 2) := by decide +kernel
theorem dX10_text_148 : decode cX10_text 148 = .ok (.aload_n 0, 1) := by decide +kernel
theorem dX10_text_149 : decode cX10_text 149 = .ok (.getfield 117, 3) := by decide +kernel
theorem dX10_text_152 : decode cX10_text 152 = .ok (.iload 5, 2) := by decide +kernel
theorem dX10_text_154 : decode cX10_text 154 = .ok (.isub, 1) := by decide +kernel
theorem dX10_text_155 : decode cX10_text 155 = .ok (.isub, 1) := by decide +kernel
theorem dX10_text_156 : decode cX10_text 156 = .ok (.ireturn, 1) := by decide +kernel
theorem dX10_text_157 : decode cX10_text 157 = .ok (.aload_n 0, 1) := by decide +kernel
theorem dX10_text_158 : decode cX10_text 158 = .ok (.invokevirtual 157, 3) := by decide +kernel
theorem dX10_text_161 : decode cX10_text 161 = .ok (.ireturn, 1) := by decide +kernel
theorem dX10_kindOf_0 : decode cX10_kindOf 0 = .ok (.aload_n 0, 1) := by decide +kernel
theorem dX10_kindOf_1 : decode cX10_kindOf 1 = .ok (.getfield 31, 3) := by decide +kernel
theorem dX10_kindOf_4 : decode cX10_kindOf 4 = .ok (.bipush 24, 2) := by decide +kernel
theorem dX10_kindOf_6 : decode cX10_kindOf 6 = .ok (.iload_n 1, 1) := by decide +kernel
theorem dX10_kindOf_7 : decode cX10_kindOf 7 = .ok (.imul, 1) := by decide +kernel
theorem dX10_kindOf_8 : decode cX10_kindOf 8 = .ok (.iload_n 2, 1) := by decide +kernel
theorem dX10_kindOf_9 : decode cX10_kindOf 9 = .ok (.iadd, 1) := by decide +kernel
theorem dX10_kindOf_10 : decode cX10_kindOf 10 = .ok (.iaload, 1) := by decide +kernel
theorem dX10_kindOf_11 : decode cX10_kindOf 11 = .ok (.bipush (-9), 2) := by decide +kernel
theorem dX10_kindOf_13 : decode cX10_kindOf 13 = .ok (.if_icmp .ne 7, 3) := by decide +kernel
theorem dX10_kindOf_16 : decode cX10_kindOf 16 = .ok (.iconst 0, 1) := by decide +kernel
theorem dX10_kindOf_17 : decode cX10_kindOf 17 = .ok (.goto 20, 3) := by decide +kernel
theorem dX10_kindOf_20 : decode cX10_kindOf 20 = .ok (.iload_n 2, 1) := by decide +kernel
theorem dX10_kindOf_21 : decode cX10_kindOf 21 = .ok (.aload_n 0, 1) := by decide +kernel
theorem dX10_kindOf_22 : decode cX10_kindOf 22 = .ok (.getfield 19, 3) := by decide +kernel
theorem dX10_kindOf_25 : decode cX10_kindOf 25 = .ok (.iload_n 1, 1) := by decide +kernel
theorem dX10_kindOf_26 : decode cX10_kindOf 26 = .ok (.iaload, 1) := by decide +kernel
theorem dX10_kindOf_27 : decode cX10_kindOf 27 = .ok (.iconst 1, 1) := by decide +kernel
theorem dX10_kindOf_28 : decode cX10_kindOf 28 = .ok (.isub, 1) := by decide +kernel
theorem dX10_kindOf_29 : decode cX10_kindOf 29 = .ok (.if_icmp .ne 7, 3) := by decide +kernel
theorem dX10_kindOf_32 : decode cX10_kindOf 32 = .ok (.iconst 2, 1) := by decide +kernel
theorem dX10_kindOf_33 : decode cX10_kindOf 33 = .ok (.goto 4, 3) := by decide +kernel
theorem dX10_kindOf_36 : decode cX10_kindOf 36 = .ok (.iconst 1, 1) := by decide +kernel
theorem dX10_kindOf_37 : decode cX10_kindOf 37 = .ok (.ireturn, 1) := by decide +kernel
set_option maxRecDepth 20000 in
theorem ggX10_line_X10_isLine : GoodIn wsX10_line wsX10_isLine := goodIn_r _ [9, 10, 11, 12, 13, 8, 14, 15, 20, 21, 22, 23, 24, 25, 26, 27, 28, 29, 30, 31, 32, 33, 34, 35, 36, 37, 38, 39, 40, 41, 42, 43, 44, 45, 46, 47, 48, 49, 50, 51] (by decide +kernel) (by decide +kernel)
set_option maxRecDepth 20000 in
theorem gX10_line_X10_isLine : GoodIn wsX10_line (wsV RX10 160 RX10 yX10_isLine wsX10_isLine) := goodIn_app (goodIn_of _ (by decide +kernel)) ggX10_line_X10_isLine
set_option maxRecDepth 20000 in
theorem ggX10_line_X10_kindOf : GoodIn wsX10_line wsX10_kindOf := goodIn_r _ [19, 4, 10, 20, 21, 22, 23, 24, 25, 26, 27, 28, 29, 30, 31, 32, 33, 34, 35, 36, 37, 38, 39, 40, 41, 42, 43, 44, 45, 46, 47, 48, 49, 50, 51] (by decide +kernel) (by decide +kernel)
set_option maxRecDepth 20000 in
theorem gX10_line_X10_kindOf : GoodIn wsX10_line (wsV RX10 163 RX10 yX10_kindOf wsX10_kindOf) := goodIn_app (goodIn_of _ (by decide +kernel)) ggX10_line_X10_kindOf
theorem dX10_line_0 : decode cX10_line 0 = .ok (.aload_n 0, 1) := by decide +kernel
theorem dX10_line_1 : decode cX10_line 1 = .ok (.iload_n 1, 1) := by decide +kernel
theorem dX10_line_2 : decode cX10_line 2 = .ok (.iload_n 2, 1) := by decide +kernel
theorem dX10_line_3 : decode cX10_line 3 = .ok (.invokevirtual 160, 3) := by decide +kernel
theorem dX10_line_6 : decode cX10_line 6 = .ok (.ifCond .ne 5, 3) := by decide +kernel
theorem dX10_line_9 : decode cX10_line 9 = .ok (.iconst (-1), 1) := by decide +kernel
theorem dX10_line_10 : decode cX10_line 10 = .ok (.ireturn, 1) := by decide +kernel
theorem dX10_line_11 : decode cX10_line 11 = .ok (.bipush 24, 2) := by decide +kernel
theorem dX10_line_13 : decode cX10_line 13 = .ok (.iload_n 1, 1) := by decide +kernel
theorem dX10_line_14 : decode cX10_line 14 = .ok (.imul, 1) := by decide +kernel
theorem dX10_line_15 : decode cX10_line 15 = .ok (.iload_n 2, 1) := by decide +kernel
theorem dX10_line_16 : decode cX10_line 16 = .ok (.iadd, 1) := by decide +kernel
theorem dX10_line_17 : decode cX10_line 17 = .ok (.istore 4, 2) := by decide +kernel
theorem dX10_line_19 : decode cX10_line 19 = .ok (.iload_n 3, 1) := by decide +kernel
theorem dX10_line_20 : decode cX10_line 20 = .ok (.tableswitch 75 0 4 #[36, 44, 51, 59, 67], 36) := by decide +kernel
theorem dX10_line_56 : decode cX10_line 56 = .ok (.aload_n 0, 1) := by decide +kernel
theorem dX10_line_57 : decode cX10_line 57 = .ok (.getfield 22, 3) := by decide +kernel
theorem dX10_line_60 : decode cX10_line 60 = .ok (.iload 4, 2) := by decide +kernel
theorem dX10_line_62 : decode cX10_line 62 = .ok (.iaload, 1) := by decide +kernel
theorem dX10_line_63 : decode cX10_line 63 = .ok (.ireturn, 1) := by decide +kernel
theorem dX10_line_64 : decode cX10_line 64 = .ok (.aload_n 0, 1) := by decide +kernel
theorem dX10_line_65 : decode cX10_line 65 = .ok (.iload_n 1, 1) := by decide +kernel
theorem dX10_line_66 : decode cX10_line 66 = .ok (.iload_n 2, 1) := by decide +kernel
theorem dX10_line_67 : decode cX10_line 67 = .ok (.invokevirtual 163, 3) := by decide +kernel
theorem dX10_line_70 : decode cX10_line 70 = .ok (.ireturn, 1) := by decide +kernel
theorem dX10_line_71 : decode cX10_line 71 = .ok (.aload_n 0, 1) := by decide +kernel
theorem dX10_line_72 : decode cX10_line 72 = .ok (.getfield 25, 3) := by decide +kernel
theorem dX10_line_75 : decode cX10_line 75 = .ok (.iload 4, 2) := by decide +kernel
theorem dX10_line_77 : decode cX10_line 77 = .ok (.iaload, 1) := by decide +kernel
theorem dX10_line_78 : decode cX10_line 78 = .ok (.ireturn, 1) := by decide +kernel
theorem dX10_line_79 : decode cX10_line 79 = .ok (.aload_n 0, 1) := by decide +kernel
theorem dX10_line_80 : decode cX10_line 80 = .ok (.getfield 28, 3) := by decide +kernel
theorem dX10_line_83 : decode cX10_line 83 = .ok (.iload 4, 2) := by decide +kernel
theorem dX10_line_85 : decode cX10_line 85 = .ok (.iaload, 1) := by decide +kernel
theorem dX10_line_86 : decode cX10_line 86 = .ok (.ireturn, 1) := by decide +kernel
theorem dX10_line_87 : decode cX10_line 87 = .ok (.aload_n 0, 1) := by decide +kernel
theorem dX10_line_88 : decode cX10_line 88 = .ok (.getfield 31, 3) := by decide +kernel
theorem dX10_line_91 : decode cX10_line 91 = .ok (.iload 4, 2) := by decide +kernel
theorem dX10_line_93 : decode cX10_line 93 = .ok (.iaload, 1) := by decide +kernel
theorem dX10_line_94 : decode cX10_line 94 = .ok (.ireturn, 1) := by decide +kernel
theorem dX10_line_95 : decode cX10_line 95 = .ok (.bipush (-2), 2) := by decide +kernel
theorem dX10_line_97 : decode cX10_line 97 = .ok (.ireturn, 1) := by decide +kernel
theorem dX10_restsOf_0 : decode cX10_restsOf 0 = .ok (.iconst 1, 1) := by decide +kernel
theorem dX10_restsOf_1 : decode cX10_restsOf 1 = .ok (.aload_n 0, 1) := by decide +kernel
theorem dX10_restsOf_2 : decode cX10_restsOf 2 = .ok (.getfield 19, 3) := by decide +kernel
theorem dX10_restsOf_5 : decode cX10_restsOf 5 = .ok (.iload_n 1, 1) := by decide +kernel
theorem dX10_restsOf_6 : decode cX10_restsOf 6 = .ok (.iaload, 1) := by decide +kernel
theorem dX10_restsOf_7 : decode cX10_restsOf 7 = .ok (.iconst 1, 1) := by decide +kernel
theorem dX10_restsOf_8 : decode cX10_restsOf 8 = .ok (.isub, 1) := by decide +kernel
theorem dX10_restsOf_9 : decode cX10_restsOf 9 = .ok (.ishl, 1) := by decide +kernel
theorem dX10_restsOf_10 : decode cX10_restsOf 10 = .ok (.istore_n 2, 1) := by decide +kernel
theorem dX10_restsOf_11 : decode cX10_restsOf 11 = .ok (.aload_n 0, 1) := by decide +kernel
theorem dX10_restsOf_12 : decode cX10_restsOf 12 = .ok (.getfield 19, 3) := by decide +kernel
theorem dX10_restsOf_15 : decode cX10_restsOf 15 = .ok (.iload_n 1, 1) := by decide +kernel
theorem dX10_restsOf_16 : decode cX10_restsOf 16 = .ok (.iaload, 1) := by decide +kernel
theorem dX10_restsOf_17 : decode cX10_restsOf 17 = .ok (.iconst 1, 1) := by decide +kernel
theorem dX10_restsOf_18 : decode cX10_restsOf 18 = .ok (.isub, 1) := by decide +kernel
theorem dX10_restsOf_19 : decode cX10_restsOf 19 = .ok (.istore_n 3, 1) := by decide +kernel
theorem dX10_restsOf_20 : decode cX10_restsOf 20 = .ok (.iload_n 3, 1) := by decide +kernel
theorem dX10_restsOf_21 : decode cX10_restsOf 21 = .ok (.ifCond .lt 64, 3) := by decide +kernel
theorem dX10_restsOf_24 : decode cX10_restsOf 24 = .ok (.iload_n 2, 1) := by decide +kernel
theorem dX10_restsOf_25 : decode cX10_restsOf 25 = .ok (.iload_n 3, 1) := by decide +kernel
theorem dX10_restsOf_26 : decode cX10_restsOf 26 = .ok (.ishr, 1) := by decide +kernel
theorem dX10_restsOf_27 : decode cX10_restsOf 27 = .ok (.iconst 1, 1) := by decide +kernel
theorem dX10_restsOf_28 : decode cX10_restsOf 28 = .ok (.iand, 1) := by decide +kernel
theorem dX10_restsOf_29 : decode cX10_restsOf 29 = .ok (.iconst 1, 1) := by decide +kernel
