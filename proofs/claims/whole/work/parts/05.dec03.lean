theorem dX8_bits_11 : decode cX8_bits 11 = .ok (.iload_n 0, 1) := by decide +kernel
theorem dX8_bits_12 : decode cX8_bits 12 = .ok (.iload_n 2, 1) := by decide +kernel
theorem dX8_bits_13 : decode cX8_bits 13 = .ok (.ishr, 1) := by decide +kernel
theorem dX8_bits_14 : decode cX8_bits 14 = .ok (.iconst 1, 1) := by decide +kernel
theorem dX8_bits_15 : decode cX8_bits 15 = .ok (.iand, 1) := by decide +kernel
theorem dX8_bits_16 : decode cX8_bits 16 = .ok (.iadd, 1) := by decide +kernel
theorem dX8_bits_17 : decode cX8_bits 17 = .ok (.istore_n 1, 1) := by decide +kernel
theorem dX8_bits_18 : decode cX8_bits 18 = .ok (.iinc 2 1, 3) := by decide +kernel
theorem dX8_bits_21 : decode cX8_bits 21 = .ok (.goto (-17), 3) := by decide +kernel
theorem dX8_bits_24 : decode cX8_bits 24 = .ok (.iload_n 1, 1) := by decide +kernel
theorem dX8_bits_25 : decode cX8_bits 25 = .ok (.ireturn, 1) := by decide +kernel
set_option maxRecDepth 20000 in
theorem ggX8_isSquare_X8_in : GoodIn wsX8_isSquare wsX8_in := goodIn_r _ [6] (by decide +kernel) (by decide +kernel)
set_option maxRecDepth 20000 in
theorem gX8_isSquare_X8_in : GoodIn wsX8_isSquare (va_wsS RX8 64 yX8_in wsX8_in) := goodIn_app (goodIn_of _ (by decide +kernel)) ggX8_isSquare_X8_in
theorem dX8_isSquare_0 : decode cX8_isSquare 0 = .ok (.iload_n 1, 1) := by decide +kernel
theorem dX8_isSquare_1 : decode cX8_isSquare 1 = .ok (.iconst 0, 1) := by decide +kernel
theorem dX8_isSquare_2 : decode cX8_isSquare 2 = .ok (.aload_n 0, 1) := by decide +kernel
theorem dX8_isSquare_3 : decode cX8_isSquare 3 = .ok (.getfield 7, 3) := by decide +kernel
theorem dX8_isSquare_6 : decode cX8_isSquare 6 = .ok (.aload_n 0, 1) := by decide +kernel
theorem dX8_isSquare_7 : decode cX8_isSquare 7 = .ok (.getfield 13, 3) := by decide +kernel
theorem dX8_isSquare_10 : decode cX8_isSquare 10 = .ok (.imul, 1) := by decide +kernel
theorem dX8_isSquare_11 : decode cX8_isSquare 11 = .ok (.iconst 1, 1) := by decide +kernel
theorem dX8_isSquare_12 : decode cX8_isSquare 12 = .ok (.isub, 1) := by decide +kernel
theorem dX8_isSquare_13 : decode cX8_isSquare 13 = .ok (.invokestatic 64, 3) := by decide +kernel
theorem dX8_isSquare_16 : decode cX8_isSquare 16 = .ok (.ireturn, 1) := by decide +kernel
set_option maxRecDepth 20000 in
theorem ggX8_isMan_X8_in : GoodIn wsX8_isMan wsX8_in := goodIn_r _ [5] (by decide +kernel) (by decide +kernel)
set_option maxRecDepth 20000 in
theorem gX8_isMan_X8_in : GoodIn wsX8_isMan (va_wsS RX8 64 yX8_in wsX8_in) := goodIn_app (goodIn_of _ (by decide +kernel)) ggX8_isMan_X8_in
theorem dX8_isMan_0 : decode cX8_isMan 0 = .ok (.iload_n 1, 1) := by decide +kernel
theorem dX8_isMan_1 : decode cX8_isMan 1 = .ok (.iconst 0, 1) := by decide +kernel
theorem dX8_isMan_2 : decode cX8_isMan 2 = .ok (.aload_n 0, 1) := by decide +kernel
theorem dX8_isMan_3 : decode cX8_isMan 3 = .ok (.getfield 68, 3) := by decide +kernel
theorem dX8_isMan_6 : decode cX8_isMan 6 = .ok (.iconst 1, 1) := by decide +kernel
theorem dX8_isMan_7 : decode cX8_isMan 7 = .ok (.isub, 1) := by decide +kernel
theorem dX8_isMan_8 : decode cX8_isMan 8 = .ok (.invokestatic 64, 3) := by decide +kernel
theorem dX8_isMan_11 : decode cX8_isMan 11 = .ok (.ireturn, 1) := by decide +kernel
set_option maxRecDepth 20000 in
theorem ggX8_write_X8_in : GoodIn wsX8_write wsX8_in := goodIn_r _ [7] (by decide +kernel) (by decide +kernel)
set_option maxRecDepth 20000 in
theorem gX8_write_X8_in : GoodIn wsX8_write (va_wsS RX8 64 yX8_in wsX8_in) := goodIn_app (goodIn_of _ (by decide +kernel)) ggX8_write_X8_in
theorem dX8_write_0 : decode cX8_write 0 = .ok (.iload_n 3, 1) := by decide +kernel
theorem dX8_write_1 : decode cX8_write 1 = .ok (.iconst 1, 1) := by decide +kernel
theorem dX8_write_2 : decode cX8_write 2 = .ok (.bipush 8, 2) := by decide +kernel
theorem dX8_write_4 : decode cX8_write 4 = .ok (.invokestatic 64, 3) := by decide +kernel
theorem dX8_write_7 : decode cX8_write 7 = .ok (.ifCond .ne 6, 3) := by decide +kernel
theorem dX8_write_10 : decode cX8_write 10 = .ok (.bipush (-3), 2) := by decide +kernel
theorem dX8_write_12 : decode cX8_write 12 = .ok (.ireturn, 1) := by decide +kernel
theorem dX8_write_13 : decode cX8_write 13 = .ok (.aload_n 0, 1) := by decide +kernel
theorem dX8_write_14 : decode cX8_write 14 = .ok (.getfield 71, 3) := by decide +kernel
theorem dX8_write_17 : decode cX8_write 17 = .ok (.iload_n 3, 1) := by decide +kernel
theorem dX8_write_18 : decode cX8_write 18 = .ok (.iadd, 1) := by decide +kernel
theorem dX8_write_19 : decode cX8_write 19 = .ok (.sipush 200, 3) := by decide +kernel
theorem dX8_write_22 : decode cX8_write 22 = .ok (.if_icmp .le 6, 3) := by decide +kernel
theorem dX8_write_25 : decode cX8_write 25 = .ok (.bipush (-5), 2) := by decide +kernel
theorem dX8_write_27 : decode cX8_write 27 = .ok (.ireturn, 1) := by decide +kernel
theorem dX8_write_28 : decode cX8_write 28 = .ok (.iconst 0, 1) := by decide +kernel
theorem dX8_write_29 : decode cX8_write 29 = .ok (.istore 4, 2) := by decide +kernel
theorem dX8_write_31 : decode cX8_write 31 = .ok (.iload 4, 2) := by decide +kernel
theorem dX8_write_33 : decode cX8_write 33 = .ok (.iload_n 3, 1) := by decide +kernel
theorem dX8_write_34 : decode cX8_write 34 = .ok (.if_icmp .ge 33, 3) := by decide +kernel
theorem dX8_write_37 : decode cX8_write 37 = .ok (.aload_n 0, 1) := by decide +kernel
theorem dX8_write_38 : decode cX8_write 38 = .ok (.getfield 20, 3) := by decide +kernel
theorem dX8_write_41 : decode cX8_write 41 = .ok (.aload_n 0, 1) := by decide +kernel
theorem dX8_write_42 : decode cX8_write 42 = .ok (.getfield 71, 3) := by decide +kernel
theorem dX8_write_45 : decode cX8_write 45 = .ok (.iload 4, 2) := by decide +kernel
theorem dX8_write_47 : decode cX8_write 47 = .ok (.iadd, 1) := by decide +kernel
theorem dX8_write_48 : decode cX8_write 48 = .ok (.lload_n 1, 1) := by decide +kernel
theorem dX8_write_49 : decode cX8_write 49 = .ok (.bipush 8, 2) := by decide +kernel
theorem dX8_write_51 : decode cX8_write 51 = .ok (.iload 4, 2) := by decide +kernel
theorem dX8_write_53 : decode cX8_write 53 = .ok (.imul, 1) := by decide +kernel
theorem dX8_write_54 : decode cX8_write 54 = .ok (.lshr, 1) := by decide +kernel
theorem dX8_write_55 : decode cX8_write 55 = .ok (.ldc2_w 74, 3) := by decide +kernel
theorem dX8_write_58 : decode cX8_write 58 = .ok (.land, 1) := by decide +kernel
theorem dX8_write_59 : decode cX8_write 59 = .ok (.l2i, 1) := by decide +kernel
theorem dX8_write_60 : decode cX8_write 60 = .ok (.iastore, 1) := by decide +kernel
theorem dX8_write_61 : decode cX8_write 61 = .ok (.iinc 4 1, 3) := by decide +kernel
theorem dX8_write_64 : decode cX8_write 64 = .ok (.goto (-33), 3) := by decide +kernel
theorem dX8_write_67 : decode cX8_write 67 = .ok (.aload_n 0, 1) := by decide +kernel
theorem dX8_write_68 : decode cX8_write 68 = .ok (.dup, 1) := by decide +kernel
theorem dX8_write_69 : decode cX8_write 69 = .ok (.getfield 71, 3) := by decide +kernel
theorem dX8_write_72 : decode cX8_write 72 = .ok (.iload_n 3, 1) := by decide +kernel
theorem dX8_write_73 : decode cX8_write 73 = .ok (.iadd, 1) := by decide +kernel
theorem dX8_write_74 : decode cX8_write 74 = .ok (.putfield 71, 3) := by decide +kernel
theorem dX8_write_77 : decode cX8_write 77 = .ok (.aload_n 0, 1) := by decide +kernel
theorem dX8_write_78 : decode cX8_write 78 = .ok (.getfield 71, 3) := by decide +kernel
theorem dX8_write_81 : decode cX8_write 81 = .ok (.ireturn, 1) := by decide +kernel
theorem dX8_erase_0 : decode cX8_erase 0 = .ok (.aload_n 0, 1) := by decide +kernel
theorem dX8_erase_1 : decode cX8_erase 1 = .ok (.getfield 71, 3) := by decide +kernel
theorem dX8_erase_4 : decode cX8_erase 4 = .ok (.istore_n 1, 1) := by decide +kernel
theorem dX8_erase_5 : decode cX8_erase 5 = .ok (.aload_n 0, 1) := by decide +kernel
theorem dX8_erase_6 : decode cX8_erase 6 = .ok (.iconst 0, 1) := by decide +kernel
theorem dX8_erase_7 : decode cX8_erase 7 = .ok (.putfield 71, 3) := by decide +kernel
theorem dX8_erase_10 : decode cX8_erase 10 = .ok (.iload_n 1, 1) := by decide +kernel
theorem dX8_erase_11 : decode cX8_erase 11 = .ok (.ireturn, 1) := by decide +kernel
set_option maxRecDepth 20000 in
theorem ggX8_nextToken_X8_in : GoodIn wsX8_nextToken wsX8_in := goodIn_r _ [17] (by decide +kernel) (by decide +kernel)
set_option maxRecDepth 20000 in
theorem gX8_nextToken_X8_in : GoodIn wsX8_nextToken (va_wsS RX8 64 yX8_in wsX8_in) := goodIn_app (goodIn_of _ (by decide +kernel)) ggX8_nextToken_X8_in
theorem dX8_nextToken_0 : decode cX8_nextToken 0 = .ok (.aload_n 0, 1) := by decide +kernel
theorem dX8_nextToken_1 : decode cX8_nextToken 1 = .ok (.getfield 76, 3) := by decide +kernel
theorem dX8_nextToken_4 : decode cX8_nextToken 4 = .ok (.aload_n 0, 1) := by decide +kernel
theorem dX8_nextToken_5 : decode cX8_nextToken 5 = .ok (.getfield 71, 3) := by decide +kernel
theorem dX8_nextToken_8 : decode cX8_nextToken 8 = .ok (.if_icmp .ge 30, 3) := by decide +kernel
theorem dX8_nextToken_11 : decode cX8_nextToken 11 = .ok (.aload_n 0, 1) := by decide +kernel
theorem dX8_nextToken_12 : decode cX8_nextToken 12 = .ok (.getfield 20, 3) := by decide +kernel
theorem dX8_nextToken_15 : decode cX8_nextToken 15 = .ok (.aload_n 0, 1) := by decide +kernel
theorem dX8_nextToken_16 : decode cX8_nextToken 16 = .ok (.getfield 76, 3) := by decide +kernel
theorem dX8_nextToken_19 : decode cX8_nextToken 19 = .ok (.iaload, 1) := by decide +kernel
theorem dX8_nextToken_20 : decode cX8_nextToken 20 = .ok (.bipush 32, 2) := by decide +kernel
theorem dX8_nextToken_22 : decode cX8_nextToken 22 = .ok (.if_icmp .ne 16, 3) := by decide +kernel
theorem dX8_nextToken_25 : decode cX8_nextToken 25 = .ok (.aload_n 0, 1) := by decide +kernel
theorem dX8_nextToken_26 : decode cX8_nextToken 26 = .ok (.dup, 1) := by decide +kernel
theorem dX8_nextToken_27 : decode cX8_nextToken 27 = .ok (.getfield 76, 3) := by decide +kernel
theorem dX8_nextToken_30 : decode cX8_nextToken 30 = .ok (.iconst 1, 1) := by decide +kernel
theorem dX8_nextToken_31 : decode cX8_nextToken 31 = .ok (.iadd, 1) := by decide +kernel
theorem dX8_nextToken_32 : decode cX8_nextToken 32 = .ok (.putfield 76, 3) := by decide +kernel
theorem dX8_nextToken_35 : decode cX8_nextToken 35 = .ok (.goto (-35), 3) := by decide +kernel
theorem dX8_nextToken_38 : decode cX8_nextToken 38 = .ok (.aload_n 0, 1) := by decide +kernel
theorem dX8_nextToken_39 : decode cX8_nextToken 39 = .ok (.aload_n 0, 1) := by decide +kernel
theorem dX8_nextToken_40 : decode cX8_nextToken 40 = .ok (.getfield 76, 3) := by decide +kernel
theorem dX8_nextToken_43 : decode cX8_nextToken 43 = .ok (.putfield 79, 3) := by decide +kernel
theorem dX8_nextToken_46 : decode cX8_nextToken 46 = .ok (.aload_n 0, 1) := by decide +kernel
theorem dX8_nextToken_47 : decode cX8_nextToken 47 = .ok (.iconst 0, 1) := by decide +kernel
theorem dX8_nextToken_48 : decode cX8_nextToken 48 = .ok (.putfield 82, 3) := by decide +kernel
theorem dX8_nextToken_51 : decode cX8_nextToken 51 = .ok (.aload_n 0, 1) := by decide +kernel
theorem dX8_nextToken_52 : decode cX8_nextToken 52 = .ok (.iconst 0, 1) := by decide +kernel
theorem dX8_nextToken_53 : decode cX8_nextToken 53 = .ok (.putfield 85, 3) := by decide +kernel
theorem dX8_nextToken_56 : decode cX8_nextToken 56 = .ok (.aload_n 0, 1) := by decide +kernel
theorem dX8_nextToken_57 : decode cX8_nextToken 57 = .ok (.getfield 76, 3) := by decide +kernel
theorem dX8_nextToken_60 : decode cX8_nextToken 60 = .ok (.aload_n 0, 1) := by decide +kernel
theorem dX8_nextToken_61 : decode cX8_nextToken 61 = .ok (.getfield 71, 3) := by decide +kernel
theorem dX8_nextToken_64 : decode cX8_nextToken 64 = .ok (.if_icmp .ne 13, 3) := by decide +kernel
theorem dX8_nextToken_67 : decode cX8_nextToken 67 = .ok (.aload_n 0, 1) := by decide +kernel
theorem dX8_nextToken_68 : decode cX8_nextToken 68 = .ok (.ldc2_w 88, 3) := by decide +kernel
theorem dX8_nextToken_71 : decode cX8_nextToken 71 = .ok (.putfield 90, 3) := by decide +kernel
theorem dX8_nextToken_74 : decode cX8_nextToken 74 = .ok (.goto 320, 3) := by decide +kernel
theorem dX8_nextToken_77 : decode cX8_nextToken 77 = .ok (.aload_n 0, 1) := by decide +kernel
theorem dX8_nextToken_78 : decode cX8_nextToken 78 = .ok (.getfield 20, 3) := by decide +kernel
theorem dX8_nextToken_81 : decode cX8_nextToken 81 = .ok (.aload_n 0, 1) := by decide +kernel
theorem dX8_nextToken_82 : decode cX8_nextToken 82 = .ok (.getfield 76, 3) := by decide +kernel
theorem dX8_nextToken_85 : decode cX8_nextToken 85 = .ok (.iaload, 1) := by decide +kernel
theorem dX8_nextToken_86 : decode cX8_nextToken 86 = .ok (.bipush 97, 2) := by decide +kernel
theorem dX8_nextToken_88 : decode cX8_nextToken 88 = .ok (.bipush 122, 2) := by decide +kernel
theorem dX8_nextToken_90 : decode cX8_nextToken 90 = .ok (.invokestatic 64, 3) := by decide +kernel
theorem dX8_nextToken_93 : decode cX8_nextToken 93 = .ok (.ifCond .eq 129, 3) := by decide +kernel
theorem dX8_nextToken_96 : decode cX8_nextToken 96 = .ok (.aload_n 0, 1) := by decide +kernel
theorem dX8_nextToken_97 : decode cX8_nextToken 97 = .ok (.lconst 0, 1) := by decide +kernel
theorem dX8_nextToken_98 : decode cX8_nextToken 98 = .ok (.putfield 90, 3) := by decide +kernel
theorem dX8_nextToken_101 : decode cX8_nextToken 101 = .ok (.aload_n 0, 1) := by decide +kernel
theorem dX8_nextToken_102 : decode cX8_nextToken 102 = .ok (.getfield 76, 3) := by decide +kernel
theorem dX8_nextToken_105 : decode cX8_nextToken 105 = .ok (.aload_n 0, 1) := by decide +kernel
theorem dX8_nextToken_106 : decode cX8_nextToken 106 = .ok (.getfield 71, 3) := by decide +kernel
theorem dX8_nextToken_109 : decode cX8_nextToken 109 = .ok (.if_icmp .ge 82, 3) := by decide +kernel
theorem dX8_nextToken_112 : decode cX8_nextToken 112 = .ok (.aload_n 0, 1) := by decide +kernel
theorem dX8_nextToken_113 : decode cX8_nextToken 113 = .ok (.getfield 20, 3) := by decide +kernel
theorem dX8_nextToken_116 : decode cX8_nextToken 116 = .ok (.aload_n 0, 1) := by decide +kernel
theorem dX8_nextToken_117 : decode cX8_nextToken 117 = .ok (.getfield 76, 3) := by decide +kernel
theorem dX8_nextToken_120 : decode cX8_nextToken 120 = .ok (.iaload, 1) := by decide +kernel
theorem dX8_nextToken_121 : decode cX8_nextToken 121 = .ok (.bipush 97, 2) := by decide +kernel
theorem dX8_nextToken_123 : decode cX8_nextToken 123 = .ok (.bipush 122, 2) := by decide +kernel
theorem dX8_nextToken_125 : decode cX8_nextToken 125 = .ok (.invokestatic 64, 3) := by decide +kernel
theorem dX8_nextToken_128 : decode cX8_nextToken 128 = .ok (.ifCond .eq 63, 3) := by decide +kernel
theorem dX8_nextToken_131 : decode cX8_nextToken 131 = .ok (.aload_n 0, 1) := by decide +kernel
theorem dX8_nextToken_132 : decode cX8_nextToken 132 = .ok (.aload_n 0, 1) := by decide +kernel
theorem dX8_nextToken_133 : decode cX8_nextToken 133 = .ok (.getfield 76, 3) := by decide +kernel
theorem dX8_nextToken_136 : decode cX8_nextToken 136 = .ok (.aload_n 0, 1) := by decide +kernel
theorem dX8_nextToken_137 : decode cX8_nextToken 137 = .ok (.getfield 79, 3) := by decide +kernel
theorem dX8_nextToken_140 : decode cX8_nextToken 140 = .ok (.isub, 1) := by decide +kernel
theorem dX8_nextToken_141 : decode cX8_nextToken 141 = .ok (.bipush 9, 2) := by decide +kernel
theorem dX8_nextToken_143 : decode cX8_nextToken 143 = .ok (.if_icmp .ge 29, 3) := by decide +kernel
theorem dX8_nextToken_146 : decode cX8_nextToken 146 = .ok (.ldc2_w 94, 3) := by decide +kernel
theorem dX8_nextToken_149 : decode cX8_nextToken 149 = .ok (.aload_n 0, 1) := by decide +kernel
theorem dX8_nextToken_150 : decode cX8_nextToken 150 = .ok (.getfield 90, 3) := by decide +kernel
theorem dX8_nextToken_153 : decode cX8_nextToken 153 = .ok (.lmul, 1) := by decide +kernel
theorem dX8_nextToken_154 : decode cX8_nextToken 154 = .ok (.aload_n 0, 1) := by decide +kernel
theorem dX8_nextToken_155 : decode cX8_nextToken 155 = .ok (.getfield 20, 3) := by decide +kernel
theorem dX8_nextToken_158 : decode cX8_nextToken 158 = .ok (.aload_n 0, 1) := by decide +kernel
theorem dX8_nextToken_159 : decode cX8_nextToken 159 = .ok (.getfield 76, 3) := by decide +kernel
theorem dX8_nextToken_162 : decode cX8_nextToken 162 = .ok (.iaload, 1) := by decide +kernel
theorem dX8_nextToken_163 : decode cX8_nextToken 163 = .ok (.i2l, 1) := by decide +kernel
theorem dX8_nextToken_164 : decode cX8_nextToken 164 = .ok (.ladd, 1) := by decide +kernel
theorem dX8_nextToken_165 : decode cX8_nextToken 165 = .ok (.ldc2_w 96, 3) := by decide +kernel
theorem dX8_nextToken_168 : decode cX8_nextToken 168 = .ok (.lsub, 1) := by decide +kernel
theorem dX8_nextToken_169 : decode cX8_nextToken 169 = .ok (.goto 6, 3) := by decide +kernel
theorem dX8_nextToken_172 : decode cX8_nextToken 172 = .ok (.ldc2_w 98, 3) := by decide +kernel
theorem dX8_nextToken_175 : decode cX8_nextToken 175 = .ok (.putfield 90, 3) := by decide +kernel
theorem dX8_nextToken_178 : decode cX8_nextToken 178 = .ok (.aload_n 0, 1) := by decide +kernel
theorem dX8_nextToken_179 : decode cX8_nextToken 179 = .ok (.dup, 1) := by decide +kernel
theorem dX8_nextToken_180 : decode cX8_nextToken 180 = .ok (.getfield 76, 3) := by decide +kernel
theorem dX8_nextToken_183 : decode cX8_nextToken 183 = .ok (.iconst 1, 1) := by decide +kernel
theorem dX8_nextToken_184 : decode cX8_nextToken 184 = .ok (.iadd, 1) := by decide +kernel
theorem dX8_nextToken_185 : decode cX8_nextToken 185 = .ok (.putfield 76, 3) := by decide +kernel
theorem dX8_nextToken_188 : decode cX8_nextToken 188 = .ok (.goto (-87), 3) := by decide +kernel
theorem dX8_nextToken_191 : decode cX8_nextToken 191 = .ok (.aload_n 0, 1) := by decide +kernel
theorem dX8_nextToken_192 : decode cX8_nextToken 192 = .ok (.aload_n 0, 1) := by decide +kernel
theorem dX8_nextToken_193 : decode cX8_nextToken 193 = .ok (.getfield 76, 3) := by decide +kernel
theorem dX8_nextToken_196 : decode cX8_nextToken 196 = .ok (.aload_n 0, 1) := by decide +kernel
theorem dX8_nextToken_197 : decode cX8_nextToken 197 = .ok (.getfield 79, 3) := by decide +kernel
theorem dX8_nextToken_200 : decode cX8_nextToken 200 = .ok (.isub, 1) := by decide +kernel
theorem dX8_nextToken_201 : decode cX8_nextToken 201 = .ok (.bipush 9, 2) := by decide +kernel
theorem dX8_nextToken_203 : decode cX8_nextToken 203 = .ok (.if_icmp .le 9, 3) := by decide +kernel
theorem dX8_nextToken_206 : decode cX8_nextToken 206 = .ok (.ldc2_w 98, 3) := by decide +kernel
theorem dX8_nextToken_209 : decode cX8_nextToken 209 = .ok (.goto 7, 3) := by decide +kernel
theorem dX8_nextToken_212 : decode cX8_nextToken 212 = .ok (.aload_n 0, 1) := by decide +kernel
theorem dX8_nextToken_213 : decode cX8_nextToken 213 = .ok (.getfield 90, 3) := by decide +kernel
theorem dX8_nextToken_216 : decode cX8_nextToken 216 = .ok (.putfield 90, 3) := by decide +kernel
theorem dX8_nextToken_219 : decode cX8_nextToken 219 = .ok (.goto 175, 3) := by decide +kernel
theorem dX8_nextToken_222 : decode cX8_nextToken 222 = .ok (.aload_n 0, 1) := by decide +kernel
theorem dX8_nextToken_223 : decode cX8_nextToken 223 = .ok (.getfield 20, 3) := by decide +kernel
theorem dX8_nextToken_226 : decode cX8_nextToken 226 = .ok (.aload_n 0, 1) := by decide +kernel
theorem dX8_nextToken_227 : decode cX8_nextToken 227 = .ok (.getfield 76, 3) := by decide +kernel
theorem dX8_nextToken_230 : decode cX8_nextToken 230 = .ok (.iaload, 1) := by decide +kernel
theorem dX8_nextToken_231 : decode cX8_nextToken 231 = .ok (.bipush 48, 2) := by decide +kernel
theorem dX8_nextToken_233 : decode cX8_nextToken 233 = .ok (.bipush 57, 2) := by decide +kernel
theorem dX8_nextToken_235 : decode cX8_nextToken 235 = .ok (.invokestatic 64, 3) := by decide +kernel
theorem dX8_nextToken_238 : decode cX8_nextToken 238 = .ok (.ifCond .eq 119, 3) := by decide +kernel
theorem dX8_nextToken_241 : decode cX8_nextToken 241 = .ok (.aload_n 0, 1) := by decide +kernel
theorem dX8_nextToken_242 : decode cX8_nextToken 242 = .ok (.getfield 76, 3) := by decide +kernel
theorem dX8_nextToken_245 : decode cX8_nextToken 245 = .ok (.aload_n 0, 1) := by decide +kernel
theorem dX8_nextToken_246 : decode cX8_nextToken 246 = .ok (.getfield 71, 3) := by decide +kernel
theorem dX8_nextToken_249 : decode cX8_nextToken 249 = .ok (.if_icmp .ge 84, 3) := by decide +kernel
theorem dX8_nextToken_252 : decode cX8_nextToken 252 = .ok (.aload_n 0, 1) := by decide +kernel
theorem dX8_nextToken_253 : decode cX8_nextToken 253 = .ok (.getfield 20, 3) := by decide +kernel
theorem dX8_nextToken_256 : decode cX8_nextToken 256 = .ok (.aload_n 0, 1) := by decide +kernel
theorem dX8_nextToken_257 : decode cX8_nextToken 257 = .ok (.getfield 76, 3) := by decide +kernel
theorem dX8_nextToken_260 : decode cX8_nextToken 260 = .ok (.iaload, 1) := by decide +kernel
theorem dX8_nextToken_261 : decode cX8_nextToken 261 = .ok (.bipush 48, 2) := by decide +kernel
theorem dX8_nextToken_263 : decode cX8_nextToken 263 = .ok (.bipush 57, 2) := by decide +kernel
theorem dX8_nextToken_265 : decode cX8_nextToken 265 = .ok (.invokestatic 64, 3) := by decide +kernel
theorem dX8_nextToken_268 : decode cX8_nextToken 268 = .ok (.ifCond .eq 65, 3) := by decide +kernel
theorem dX8_nextToken_271 : decode cX8_nextToken 271 = .ok (.aload_n 0, 1) := by decide +kernel
theorem dX8_nextToken_272 : decode cX8_nextToken 272 = .ok (.aload_n 0, 1) := by decide +kernel
theorem dX8_nextToken_273 : decode cX8_nextToken 273 = .ok (.getfield 82, 3) := by decide +kernel
theorem dX8_nextToken_276 : decode cX8_nextToken 276 = .ok (.iconst 2, 1) := by decide +kernel
theorem dX8_nextToken_277 : decode cX8_nextToken 277 = .ok (.if_icmp .ge 26, 3) := by decide +kernel
theorem dX8_nextToken_280 : decode cX8_nextToken 280 = .ok (.bipush 10, 2) := by decide +kernel
theorem dX8_nextToken_282 : decode cX8_nextToken 282 = .ok (.aload_n 0, 1) := by decide +kernel
theorem dX8_nextToken_283 : decode cX8_nextToken 283 = .ok (.getfield 85, 3) := by decide +kernel
theorem dX8_nextToken_286 : decode cX8_nextToken 286 = .ok (.imul, 1) := by decide +kernel
theorem dX8_nextToken_287 : decode cX8_nextToken 287 = .ok (.aload_n 0, 1) := by decide +kernel
theorem dX8_nextToken_288 : decode cX8_nextToken 288 = .ok (.getfield 20, 3) := by decide +kernel
theorem dX8_nextToken_291 : decode cX8_nextToken 291 = .ok (.aload_n 0, 1) := by decide +kernel
theorem dX8_nextToken_292 : decode cX8_nextToken 292 = .ok (.getfield 76, 3) := by decide +kernel
theorem dX8_nextToken_295 : decode cX8_nextToken 295 = .ok (.iaload, 1) := by decide +kernel
theorem dX8_nextToken_296 : decode cX8_nextToken 296 = .ok (.iadd, 1) := by decide +kernel
theorem dX8_nextToken_297 : decode cX8_nextToken 297 = .ok (.bipush 48, 2) := by decide +kernel
theorem dX8_nextToken_299 : decode cX8_nextToken 299 = .ok (.isub, 1) := by decide +kernel
theorem dX8_nextToken_300 : decode cX8_nextToken 300 = .ok (.goto 7, 3) := by decide +kernel
theorem dX8_nextToken_303 : decode cX8_nextToken 303 = .ok (.aload_n 0, 1) := by decide +kernel
theorem dX8_nextToken_304 : decode cX8_nextToken 304 = .ok (.getfield 85, 3) := by decide +kernel
theorem dX8_nextToken_307 : decode cX8_nextToken 307 = .ok (.putfield 85, 3) := by decide +kernel
theorem dX8_nextToken_310 : decode cX8_nextToken 310 = .ok (.aload_n 0, 1) := by decide +kernel
theorem dX8_nextToken_311 : decode cX8_nextToken 311 = .ok (.dup, 1) := by decide +kernel
theorem dX8_nextToken_312 : decode cX8_nextToken 312 = .ok (.getfield 82, 3) := by decide +kernel
theorem dX8_nextToken_315 : decode cX8_nextToken 315 = .ok (.iconst 1, 1) := by decide +kernel
theorem dX8_nextToken_316 : decode cX8_nextToken 316 = .ok (.iadd, 1) := by decide +kernel
theorem dX8_nextToken_317 : decode cX8_nextToken 317 = .ok (.putfield 82, 3) := by decide +kernel
theorem dX8_nextToken_320 : decode cX8_nextToken 320 = .ok (.aload_n 0, 1) := by decide +kernel
theorem dX8_nextToken_321 : decode cX8_nextToken 321 = .ok (.dup, 1) := by decide +kernel
theorem dX8_nextToken_322 : decode cX8_nextToken 322 = .ok (.getfield 76, 3) := by decide +kernel
theorem dX8_nextToken_325 : decode cX8_nextToken 325 = .ok (.iconst 1, 1) := by decide +kernel
theorem dX8_nextToken_326 : decode cX8_nextToken 326 = .ok (.iadd, 1) := by decide +kernel
theorem dX8_nextToken_327 : decode cX8_nextToken 327 = .ok (.putfield 76, 3) := by decide +kernel
theorem dX8_nextToken_330 : decode cX8_nextToken 330 = .ok (.goto (-89), 3) := by decide +kernel
theorem dX8_nextToken_333 : decode cX8_nextToken 333 = .ok (.aload_n 0, 1) := by decide +kernel
theorem dX8_nextToken_334 : decode cX8_nextToken 334 = .ok (.aload_n 0, 1) := by decide +kernel
theorem dX8_nextToken_335 : decode cX8_nextToken 335 = .ok (.getfield 82, 3) := by decide +kernel
theorem dX8_nextToken_338 : decode cX8_nextToken 338 = .ok (.iconst 2, 1) := by decide +kernel
theorem dX8_nextToken_339 : decode cX8_nextToken 339 = .ok (.if_icmp .le 9, 3) := by decide +kernel
theorem dX8_nextToken_342 : decode cX8_nextToken 342 = .ok (.ldc2_w 98, 3) := by decide +kernel
theorem dX8_nextToken_345 : decode cX8_nextToken 345 = .ok (.goto 6, 3) := by decide +kernel
theorem dX8_nextToken_348 : decode cX8_nextToken 348 = .ok (.ldc2_w 100, 3) := by decide +kernel
theorem dX8_nextToken_351 : decode cX8_nextToken 351 = .ok (.putfield 90, 3) := by decide +kernel
theorem dX8_nextToken_354 : decode cX8_nextToken 354 = .ok (.goto 40, 3) := by decide +kernel
theorem dX8_nextToken_357 : decode cX8_nextToken 357 = .ok (.aload_n 0, 1) := by decide +kernel
theorem dX8_nextToken_358 : decode cX8_nextToken 358 = .ok (.aload_n 0, 1) := by decide +kernel
theorem dX8_nextToken_359 : decode cX8_nextToken 359 = .ok (.getfield 20, 3) := by decide +kernel
theorem dX8_nextToken_362 : decode cX8_nextToken 362 = .ok (.aload_n 0, 1) := by decide +kernel
theorem dX8_nextToken_363 : decode cX8_nextToken 363 = .ok (.getfield 76, 3) := by decide +kernel
theorem dX8_nextToken_366 : decode cX8_nextToken 366 = .ok (.iaload, 1) := by decide +kernel
theorem dX8_nextToken_367 : decode cX8_nextToken 367 = .ok (.bipush 59, 2) := by decide +kernel
theorem dX8_nextToken_369 : decode cX8_nextToken 369 = .ok (.if_icmp .ne 9, 3) := by decide +kernel
theorem dX8_nextToken_372 : decode cX8_nextToken 372 = .ok (.ldc2_w 102, 3) := by decide +kernel
theorem dX8_nextToken_375 : decode cX8_nextToken 375 = .ok (.goto 6, 3) := by decide +kernel
theorem dX8_nextToken_378 : decode cX8_nextToken 378 = .ok (.ldc2_w 98, 3) := by decide +kernel
theorem dX8_nextToken_381 : decode cX8_nextToken 381 = .ok (.putfield 90, 3) := by decide +kernel
theorem dX8_nextToken_384 : decode cX8_nextToken 384 = .ok (.aload_n 0, 1) := by decide +kernel
theorem dX8_nextToken_385 : decode cX8_nextToken 385 = .ok (.dup, 1) := by decide +kernel
theorem dX8_nextToken_386 : decode cX8_nextToken 386 = .ok (.getfield 76, 3) := by decide +kernel
theorem dX8_nextToken_389 : decode cX8_nextToken 389 = .ok (.iconst 1, 1) := by decide +kernel
theorem dX8_nextToken_390 : decode cX8_nextToken 390 = .ok (.iadd, 1) := by decide +kernel
theorem dX8_nextToken_391 : decode cX8_nextToken 391 = .ok (.putfield 76, 3) := by decide +kernel
theorem dX8_nextToken_394 : decode cX8_nextToken 394 = .ok (.return_, 1) := by decide +kernel
theorem dX8_fails_0 : decode cX8_fails 0 = .ok (.aload_n 0, 1) := by decide +kernel
theorem dX8_fails_1 : decode cX8_fails 1 = .ok (.aload_n 0, 1) := by decide +kernel
theorem dX8_fails_2 : decode cX8_fails 2 = .ok (.getfield 79, 3) := by decide +kernel
theorem dX8_fails_5 : decode cX8_fails 5 = .ok (.putfield 104, 3) := by decide +kernel
theorem dX8_fails_8 : decode cX8_fails 8 = .ok (.iconst 0, 1) := by decide +kernel
theorem dX8_fails_9 : decode cX8_fails 9 = .ok (.ireturn, 1) := by decide +kernel
set_option maxRecDepth 20000 in
theorem ggX8_isNumber_X8_nextToken : GoodIn wsX8_isNumber wsX8_nextToken := goodIn_r _ [9, 10, 11, 12, 13, 14, 3, 15, 1, 16, 17, 18, 2, 19, 20, 21, 8, 22, 28, 29, 30, 31, 32, 33, 34, 35, 36, 37, 38, 39, 40, 41, 42, 43, 44, 45, 46, 47, 48, 49, 50, 51, 52, 53, 54, 55, 56, 57, 58, 59, 60, 61] (by decide +kernel) (by decide +kernel)
set_option maxRecDepth 20000 in
theorem gX8_isNumber_X8_nextToken : GoodIn wsX8_isNumber (wsV RX8 107 RX8 yX8_nextToken wsX8_nextToken) := goodIn_app (goodIn_of _ (by decide +kernel)) ggX8_isNumber_X8_nextToken
set_option maxRecDepth 20000 in
theorem ggX8_isNumber_X8_in : GoodIn wsX8_isNumber wsX8_in := goodIn_r _ [22] (by decide +kernel) (by decide +kernel)
set_option maxRecDepth 20000 in
theorem gX8_isNumber_X8_in : GoodIn wsX8_isNumber (va_wsS RX8 64 yX8_in wsX8_in) := goodIn_app (goodIn_of _ (by decide +kernel)) ggX8_isNumber_X8_in
set_option maxRecDepth 20000 in
theorem ggX8_isNumber_X8_fails : GoodIn wsX8_isNumber wsX8_fails := goodIn_r _ [26, 13, 27, 28, 29, 30, 31, 32, 33, 34, 35, 36, 37, 38, 39, 40, 41, 42, 43, 44, 45, 46, 47, 48, 49, 50, 51, 52, 53, 54, 55, 56, 57, 58, 59, 60, 61] (by decide +kernel) (by decide +kernel)
set_option maxRecDepth 20000 in
theorem gX8_isNumber_X8_fails : GoodIn wsX8_isNumber (wsV RX8 110 RX8 yX8_fails wsX8_fails) := goodIn_app (goodIn_of _ (by decide +kernel)) ggX8_isNumber_X8_fails
theorem dX8_isNumber_0 : decode cX8_isNumber 0 = .ok (.aload_n 0, 1) := by decide +kernel
theorem dX8_isNumber_1 : decode cX8_isNumber 1 = .ok (.invokevirtual 107, 3) := by decide +kernel
theorem dX8_isNumber_4 : decode cX8_isNumber 4 = .ok (.aload_n 0, 1) := by decide +kernel
theorem dX8_isNumber_5 : decode cX8_isNumber 5 = .ok (.getfield 90, 3) := by decide +kernel
theorem dX8_isNumber_8 : decode cX8_isNumber 8 = .ok (.ldc2_w 100, 3) := by decide +kernel
theorem dX8_isNumber_11 : decode cX8_isNumber 11 = .ok (.lcmp, 1) := by decide +kernel
theorem dX8_isNumber_12 : decode cX8_isNumber 12 = .ok (.ifCond .ne 15, 3) := by decide +kernel
theorem dX8_isNumber_15 : decode cX8_isNumber 15 = .ok (.aload_n 0, 1) := by decide +kernel
theorem dX8_isNumber_16 : decode cX8_isNumber 16 = .ok (.getfield 85, 3) := by decide +kernel
theorem dX8_isNumber_19 : decode cX8_isNumber 19 = .ok (.iload_n 2, 1) := by decide +kernel
theorem dX8_isNumber_20 : decode cX8_isNumber 20 = .ok (.iload_n 3, 1) := by decide +kernel
theorem dX8_isNumber_21 : decode cX8_isNumber 21 = .ok (.invokestatic 64, 3) := by decide +kernel
theorem dX8_isNumber_24 : decode cX8_isNumber 24 = .ok (.ifCond .ne 8, 3) := by decide +kernel
theorem dX8_isNumber_27 : decode cX8_isNumber 27 = .ok (.aload_n 0, 1) := by decide +kernel
theorem dX8_isNumber_28 : decode cX8_isNumber 28 = .ok (.invokevirtual 110, 3) := by decide +kernel
theorem dX8_isNumber_31 : decode cX8_isNumber 31 = .ok (.ireturn, 1) := by decide +kernel
theorem dX8_isNumber_32 : decode cX8_isNumber 32 = .ok (.aload_n 0, 1) := by decide +kernel
theorem dX8_isNumber_33 : decode cX8_isNumber 33 = .ok (.getfield 29, 3) := by decide +kernel
theorem dX8_isNumber_36 : decode cX8_isNumber 36 = .ok (.iload_n 1, 1) := by decide +kernel
theorem dX8_isNumber_37 : decode cX8_isNumber 37 = .ok (.aload_n 0, 1) := by decide +kernel
theorem dX8_isNumber_38 : decode cX8_isNumber 38 = .ok (.getfield 85, 3) := by decide +kernel
theorem dX8_isNumber_41 : decode cX8_isNumber 41 = .ok (.iastore, 1) := by decide +kernel
theorem dX8_isNumber_42 : decode cX8_isNumber 42 = .ok (.iconst 1, 1) := by decide +kernel
theorem dX8_isNumber_43 : decode cX8_isNumber 43 = .ok (.ireturn, 1) := by decide +kernel
set_option maxRecDepth 20000 in
theorem ggX8_isBoard_X8_isNumber : GoodIn wsX8_isBoard wsX8_isNumber := goodIn_r _ [9, 10, 11, 12, 1, 13, 14, 15, 8, 16, 17, 18, 19, 20, 21, 22, 23, 24, 25, 26, 27, 28, 29, 30, 31, 32, 33, 34, 35, 36, 37, 38, 39, 40, 41, 42, 43, 44, 45, 46, 47, 48, 49, 50, 51, 52, 53, 54, 55, 56, 57, 58, 59, 60, 61, 62, 63, 64, 65, 66, 67, 68] (by decide +kernel) (by decide +kernel)
set_option maxRecDepth 20000 in
theorem gX8_isBoard_X8_isNumber : GoodIn wsX8_isBoard (wsV RX8 114 RX8 yX8_isNumber wsX8_isNumber) := goodIn_app (goodIn_of _ (by decide +kernel)) ggX8_isBoard_X8_isNumber
set_option maxRecDepth 20000 in
theorem ggX8_isBoard_X8_fails : GoodIn wsX8_isBoard wsX8_fails := goodIn_r _ [33, 20, 34, 35, 36, 37, 38, 39, 40, 41, 42, 43, 44, 45, 46, 47, 48, 49, 50, 51, 52, 53, 54, 55, 56, 57, 58, 59, 60, 61, 62, 63, 64, 65, 66, 67, 68] (by decide +kernel) (by decide +kernel)
set_option maxRecDepth 20000 in
theorem gX8_isBoard_X8_fails : GoodIn wsX8_isBoard (wsV RX8 110 RX8 yX8_fails wsX8_fails) := goodIn_app (goodIn_of _ (by decide +kernel)) ggX8_isBoard_X8_fails
theorem dX8_isBoard_0 : decode cX8_isBoard 0 = .ok (.aload_n 0, 1) := by decide +kernel
theorem dX8_isBoard_1 : decode cX8_isBoard 1 = .ok (.iload_n 1, 1) := by decide +kernel
theorem dX8_isBoard_2 : decode cX8_isBoard 2 = .ok (.iconst 1, 1) := by decide +kernel
theorem dX8_isBoard_3 : decode cX8_isBoard 3 = .ok (.iadd, 1) := by decide +kernel
theorem dX8_isBoard_4 : decode cX8_isBoard 4 = .ok (.iconst 2, 1) := by decide +kernel
theorem dX8_isBoard_5 : decode cX8_isBoard 5 = .ok (.iconst 4, 1) := by decide +kernel
theorem dX8_isBoard_6 : decode cX8_isBoard 6 = .ok (.invokevirtual 114, 3) := by decide +kernel
theorem dX8_isBoard_9 : decode cX8_isBoard 9 = .ok (.ifCond .eq 15, 3) := by decide +kernel
theorem dX8_isBoard_12 : decode cX8_isBoard 12 = .ok (.aload_n 0, 1) := by decide +kernel
theorem dX8_isBoard_13 : decode cX8_isBoard 13 = .ok (.iload_n 1, 1) := by decide +kernel
theorem dX8_isBoard_14 : decode cX8_isBoard 14 = .ok (.iconst 2, 1) := by decide +kernel
theorem dX8_isBoard_15 : decode cX8_isBoard 15 = .ok (.iadd, 1) := by decide +kernel
theorem dX8_isBoard_16 : decode cX8_isBoard 16 = .ok (.iconst 2, 1) := by decide +kernel
theorem dX8_isBoard_17 : decode cX8_isBoard 17 = .ok (.iconst 4, 1) := by decide +kernel
theorem dX8_isBoard_18 : decode cX8_isBoard 18 = .ok (.invokevirtual 114, 3) := by decide +kernel
theorem dX8_isBoard_21 : decode cX8_isBoard 21 = .ok (.ifCond .ne 5, 3) := by decide +kernel
theorem dX8_isBoard_24 : decode cX8_isBoard 24 = .ok (.iconst 0, 1) := by decide +kernel
theorem dX8_isBoard_25 : decode cX8_isBoard 25 = .ok (.ireturn, 1) := by decide +kernel
theorem dX8_isBoard_26 : decode cX8_isBoard 26 = .ok (.aload_n 0, 1) := by decide +kernel
theorem dX8_isBoard_27 : decode cX8_isBoard 27 = .ok (.aload_n 0, 1) := by decide +kernel
theorem dX8_isBoard_28 : decode cX8_isBoard 28 = .ok (.getfield 29, 3) := by decide +kernel
theorem dX8_isBoard_31 : decode cX8_isBoard 31 = .ok (.iload_n 1, 1) := by decide +kernel
theorem dX8_isBoard_32 : decode cX8_isBoard 32 = .ok (.iconst 1, 1) := by decide +kernel
theorem dX8_isBoard_33 : decode cX8_isBoard 33 = .ok (.iadd, 1) := by decide +kernel
theorem dX8_isBoard_34 : decode cX8_isBoard 34 = .ok (.iaload, 1) := by decide +kernel
theorem dX8_isBoard_35 : decode cX8_isBoard 35 = .ok (.aload_n 0, 1) := by decide +kernel
theorem dX8_isBoard_36 : decode cX8_isBoard 36 = .ok (.getfield 29, 3) := by decide +kernel
theorem dX8_isBoard_39 : decode cX8_isBoard 39 = .ok (.iload_n 1, 1) := by decide +kernel
theorem dX8_isBoard_40 : decode cX8_isBoard 40 = .ok (.iconst 2, 1) := by decide +kernel
theorem dX8_isBoard_41 : decode cX8_isBoard 41 = .ok (.iadd, 1) := by decide +kernel
theorem dX8_isBoard_42 : decode cX8_isBoard 42 = .ok (.iaload, 1) := by decide +kernel
theorem dX8_isBoard_43 : decode cX8_isBoard 43 = .ok (.imul, 1) := by decide +kernel
theorem dX8_isBoard_44 : decode cX8_isBoard 44 = .ok (.putfield 117, 3) := by decide +kernel
theorem dX8_isBoard_47 : decode cX8_isBoard 47 = .ok (.aload_n 0, 1) := by decide +kernel
theorem dX8_isBoard_48 : decode cX8_isBoard 48 = .ok (.iconst 0, 1) := by decide +kernel
theorem dX8_isBoard_49 : decode cX8_isBoard 49 = .ok (.putfield 120, 3) := by decide +kernel
theorem dX8_isBoard_52 : decode cX8_isBoard 52 = .ok (.aload_n 0, 1) := by decide +kernel
theorem dX8_isBoard_53 : decode cX8_isBoard 53 = .ok (.iconst 0, 1) := by decide +kernel
theorem dX8_isBoard_54 : decode cX8_isBoard 54 = .ok (.putfield 123, 3) := by decide +kernel
theorem dX8_isBoard_57 : decode cX8_isBoard 57 = .ok (.aload_n 0, 1) := by decide +kernel
theorem dX8_isBoard_58 : decode cX8_isBoard 58 = .ok (.getfield 117, 3) := by decide +kernel
theorem dX8_isBoard_61 : decode cX8_isBoard 61 = .ok (.bipush 13, 2) := by decide +kernel
theorem dX8_isBoard_63 : decode cX8_isBoard 63 = .ok (.if_icmp .lt 10, 3) := by decide +kernel
theorem dX8_isBoard_66 : decode cX8_isBoard 66 = .ok (.aload_n 0, 1) := by decide +kernel
theorem dX8_isBoard_67 : decode cX8_isBoard 67 = .ok (.invokevirtual 110, 3) := by decide +kernel
theorem dX8_isBoard_70 : decode cX8_isBoard 70 = .ok (.ifCond .eq 7, 3) := by decide +kernel
theorem dX8_isBoard_73 : decode cX8_isBoard 73 = .ok (.iconst 1, 1) := by decide +kernel
theorem dX8_isBoard_74 : decode cX8_isBoard 74 = .ok (.goto 4, 3) := by decide +kernel
theorem dX8_isBoard_77 : decode cX8_isBoard 77 = .ok (.iconst 0, 1) := by decide +kernel
theorem dX8_isBoard_78 : decode cX8_isBoard 78 = .ok (.ireturn, 1) := by decide +kernel
theorem dX8_isOf_0 : decode cX8_isOf 0 = .ok (.iconst 0, 1) := by decide +kernel
theorem dX8_isOf_1 : decode cX8_isOf 1 = .ok (.istore_n 3, 1) := by decide +kernel
theorem dX8_isOf_2 : decode cX8_isOf 2 = .ok (.iconst 0, 1) := by decide +kernel
theorem dX8_isOf_3 : decode cX8_isOf 3 = .ok (.istore 4, 2) := by decide +kernel
theorem dX8_isOf_5 : decode cX8_isOf 5 = .ok (.iload 4, 2) := by decide +kernel
theorem dX8_isOf_7 : decode cX8_isOf 7 = .ok (.iload_n 1, 1) := by decide +kernel
theorem dX8_isOf_8 : decode cX8_isOf 8 = .ok (.if_icmp .ge 27, 3) := by decide +kernel
theorem dX8_isOf_11 : decode cX8_isOf 11 = .ok (.iload_n 3, 1) := by decide +kernel
theorem dX8_isOf_12 : decode cX8_isOf 12 = .ok (.ifCond .ne 11, 3) := by decide +kernel
theorem dX8_isOf_15 : decode cX8_isOf 15 = .ok (.aload_n 0, 1) := by decide +kernel
theorem dX8_isOf_16 : decode cX8_isOf 16 = .ok (.iload 4, 2) := by decide +kernel
theorem dX8_isOf_18 : decode cX8_isOf 18 = .ok (.iaload, 1) := by decide +kernel
theorem dX8_isOf_19 : decode cX8_isOf 19 = .ok (.iload_n 2, 1) := by decide +kernel
theorem dX8_isOf_20 : decode cX8_isOf 20 = .ok (.if_icmp .ne 7, 3) := by decide +kernel
theorem dX8_isOf_23 : decode cX8_isOf 23 = .ok (.iconst 1, 1) := by decide +kernel
theorem dX8_isOf_24 : decode cX8_isOf 24 = .ok (.goto 4, 3) := by decide +kernel
theorem dX8_isOf_27 : decode cX8_isOf 27 = .ok (.iconst 0, 1) := by decide +kernel
theorem dX8_isOf_28 : decode cX8_isOf 28 = .ok (.istore_n 3, 1) := by decide +kernel
theorem dX8_isOf_29 : decode cX8_isOf 29 = .ok (.iinc 4 1, 3) := by decide +kernel
theorem dX8_isOf_32 : decode cX8_isOf 32 = .ok (.goto (-27), 3) := by decide +kernel
theorem dX8_isOf_35 : decode cX8_isOf 35 = .ok (.iload_n 3, 1) := by decide +kernel
theorem dX8_isOf_36 : decode cX8_isOf 36 = .ok (.ireturn, 1) := by decide +kernel
set_option maxRecDepth 20000 in
theorem ggX8_isHole_X8_isNumber : GoodIn wsX8_isHole wsX8_isNumber := goodIn_r _ [11, 12, 13, 14, 2, 15, 16, 17, 10, 18, 19, 20, 21, 22, 23, 24, 25, 26, 27, 28, 29, 30, 31, 32, 33, 34, 35, 36, 43, 44, 45, 46, 47, 48, 49, 50, 51, 52, 53, 54, 55, 56, 57, 58, 59, 60, 61, 62, 63, 64, 65, 66, 67, 68, 69, 70, 71, 72, 73, 74, 75, 76] (by decide +kernel) (by decide +kernel)
set_option maxRecDepth 20000 in
theorem gX8_isHole_X8_isNumber : GoodIn wsX8_isHole (wsV RX8 114 RX8 yX8_isNumber wsX8_isNumber) := goodIn_app (goodIn_of _ (by decide +kernel)) ggX8_isHole_X8_isNumber
set_option maxRecDepth 20000 in
theorem ggX8_isHole_X8_has : GoodIn wsX8_isHole wsX8_has := goodIn_r _ [39] (by decide +kernel) (by decide +kernel)
set_option maxRecDepth 20000 in
theorem gX8_isHole_X8_has : GoodIn wsX8_isHole (va_wsS RX8 126 yX8_has wsX8_has) := goodIn_app (goodIn_of _ (by decide +kernel)) ggX8_isHole_X8_has
set_option maxRecDepth 20000 in
theorem ggX8_isHole_X8_isOf : GoodIn wsX8_isHole wsX8_isOf := goodIn_r _ [42] (by decide +kernel) (by decide +kernel)
set_option maxRecDepth 20000 in
theorem gX8_isHole_X8_isOf : GoodIn wsX8_isHole (va_wsS RX8 130 yX8_isOf wsX8_isOf) := goodIn_app (goodIn_of _ (by decide +kernel)) ggX8_isHole_X8_isOf
set_option maxRecDepth 20000 in
theorem ggX8_isHole_X8_fails : GoodIn wsX8_isHole wsX8_fails := goodIn_r _ [35, 22, 36, 43, 44, 45, 46, 47, 48, 49, 50, 51, 52, 53, 54, 55, 56, 57, 58, 59, 60, 61, 62, 63, 64, 65, 66, 67, 68, 69, 70, 71, 72, 73, 74, 75, 76] (by decide +kernel) (by decide +kernel)
set_option maxRecDepth 20000 in
theorem gX8_isHole_X8_fails : GoodIn wsX8_isHole (wsV RX8 110 RX8 yX8_fails wsX8_fails) := goodIn_app (goodIn_of _ (by decide +kernel)) ggX8_isHole_X8_fails
theorem dX8_isHole_0 : decode cX8_isHole 0 = .ok (.aload_n 0, 1) := by decide +kernel
theorem dX8_isHole_1 : decode cX8_isHole 1 = .ok (.iload_n 1, 1) := by decide +kernel
theorem dX8_isHole_2 : decode cX8_isHole 2 = .ok (.iconst 1, 1) := by decide +kernel
theorem dX8_isHole_3 : decode cX8_isHole 3 = .ok (.iadd, 1) := by decide +kernel
theorem dX8_isHole_4 : decode cX8_isHole 4 = .ok (.iconst 0, 1) := by decide +kernel
theorem dX8_isHole_5 : decode cX8_isHole 5 = .ok (.aload_n 0, 1) := by decide +kernel
theorem dX8_isHole_6 : decode cX8_isHole 6 = .ok (.getfield 117, 3) := by decide +kernel
theorem dX8_isHole_9 : decode cX8_isHole 9 = .ok (.iconst 1, 1) := by decide +kernel
theorem dX8_isHole_10 : decode cX8_isHole 10 = .ok (.isub, 1) := by decide +kernel
theorem dX8_isHole_11 : decode cX8_isHole 11 = .ok (.invokevirtual 114, 3) := by decide +kernel
theorem dX8_isHole_14 : decode cX8_isHole 14 = .ok (.ifCond .ne 5, 3) := by decide +kernel
theorem dX8_isHole_17 : decode cX8_isHole 17 = .ok (.iconst 0, 1) := by decide +kernel
theorem dX8_isHole_18 : decode cX8_isHole 18 = .ok (.ireturn, 1) := by decide +kernel
theorem dX8_isHole_19 : decode cX8_isHole 19 = .ok (.aload_n 0, 1) := by decide +kernel
theorem dX8_isHole_20 : decode cX8_isHole 20 = .ok (.getfield 29, 3) := by decide +kernel
theorem dX8_isHole_23 : decode cX8_isHole 23 = .ok (.iload_n 1, 1) := by decide +kernel
theorem dX8_isHole_24 : decode cX8_isHole 24 = .ok (.iconst 1, 1) := by decide +kernel
theorem dX8_isHole_25 : decode cX8_isHole 25 = .ok (.iadd, 1) := by decide +kernel
theorem dX8_isHole_26 : decode cX8_isHole 26 = .ok (.iaload, 1) := by decide +kernel
theorem dX8_isHole_27 : decode cX8_isHole 27 = .ok (.istore_n 2, 1) := by decide +kernel
theorem dX8_isHole_28 : decode cX8_isHole 28 = .ok (.aload_n 0, 1) := by decide +kernel
theorem dX8_isHole_29 : decode cX8_isHole 29 = .ok (.getfield 120, 3) := by decide +kernel
theorem dX8_isHole_32 : decode cX8_isHole 32 = .ok (.iload_n 2, 1) := by decide +kernel
theorem dX8_isHole_33 : decode cX8_isHole 33 = .ok (.invokestatic 126, 3) := by decide +kernel
theorem dX8_isHole_36 : decode cX8_isHole 36 = .ok (.ifCond .ne 33, 3) := by decide +kernel
theorem dX8_isHole_39 : decode cX8_isHole 39 = .ok (.aload_n 0, 1) := by decide +kernel
theorem dX8_isHole_40 : decode cX8_isHole 40 = .ok (.getfield 23, 3) := by decide +kernel
theorem dX8_isHole_43 : decode cX8_isHole 43 = .ok (.aload_n 0, 1) := by decide +kernel
theorem dX8_isHole_44 : decode cX8_isHole 44 = .ok (.getfield 123, 3) := by decide +kernel
theorem dX8_isHole_47 : decode cX8_isHole 47 = .ok (.iload_n 2, 1) := by decide +kernel
theorem dX8_isHole_48 : decode cX8_isHole 48 = .ok (.invokestatic 130, 3) := by decide +kernel
theorem dX8_isHole_51 : decode cX8_isHole 51 = .ok (.ifCond .ne 18, 3) := by decide +kernel
theorem dX8_isHole_54 : decode cX8_isHole 54 = .ok (.aload_n 0, 1) := by decide +kernel
theorem dX8_isHole_55 : decode cX8_isHole 55 = .ok (.getfield 26, 3) := by decide +kernel
theorem dX8_isHole_58 : decode cX8_isHole 58 = .ok (.aload_n 0, 1) := by decide +kernel
theorem dX8_isHole_59 : decode cX8_isHole 59 = .ok (.getfield 123, 3) := by decide +kernel
theorem dX8_isHole_62 : decode cX8_isHole 62 = .ok (.iload_n 2, 1) := by decide +kernel
theorem dX8_isHole_63 : decode cX8_isHole 63 = .ok (.invokestatic 130, 3) := by decide +kernel
theorem dX8_isHole_66 : decode cX8_isHole 66 = .ok (.ifCond .eq 8, 3) := by decide +kernel
theorem dX8_isHole_69 : decode cX8_isHole 69 = .ok (.aload_n 0, 1) := by decide +kernel
theorem dX8_isHole_70 : decode cX8_isHole 70 = .ok (.invokevirtual 110, 3) := by decide +kernel
theorem dX8_isHole_73 : decode cX8_isHole 73 = .ok (.ireturn, 1) := by decide +kernel
theorem dX8_isHole_74 : decode cX8_isHole 74 = .ok (.aload_n 0, 1) := by decide +kernel
theorem dX8_isHole_75 : decode cX8_isHole 75 = .ok (.aload_n 0, 1) := by decide +kernel
theorem dX8_isHole_76 : decode cX8_isHole 76 = .ok (.getfield 120, 3) := by decide +kernel
theorem dX8_isHole_79 : decode cX8_isHole 79 = .ok (.iconst 1, 1) := by decide +kernel
theorem dX8_isHole_80 : decode cX8_isHole 80 = .ok (.iload_n 2, 1) := by decide +kernel
theorem dX8_isHole_81 : decode cX8_isHole 81 = .ok (.ishl, 1) := by decide +kernel
theorem dX8_isHole_82 : decode cX8_isHole 82 = .ok (.ior, 1) := by decide +kernel
theorem dX8_isHole_83 : decode cX8_isHole 83 = .ok (.putfield 120, 3) := by decide +kernel
theorem dX8_isHole_86 : decode cX8_isHole 86 = .ok (.iconst 1, 1) := by decide +kernel
theorem dX8_isHole_87 : decode cX8_isHole 87 = .ok (.ireturn, 1) := by decide +kernel
set_option maxRecDepth 20000 in
theorem ggX8_isManLine_X8_fails : GoodIn wsX8_isManLine wsX8_fails := goodIn_r _ [11, 12, 13, 43, 44, 45, 46, 47, 48, 49, 50, 51, 52, 53, 54, 55, 56, 57, 58, 59, 60, 61, 62, 63, 64, 65, 66, 67, 68, 69, 70, 71, 72, 73, 74, 75, 76] (by decide +kernel) (by decide +kernel)
set_option maxRecDepth 20000 in
theorem gX8_isManLine_X8_fails : GoodIn wsX8_isManLine (wsV RX8 110 RX8 yX8_fails wsX8_fails) := goodIn_app (goodIn_of _ (by decide +kernel)) ggX8_isManLine_X8_fails
set_option maxRecDepth 20000 in
theorem ggX8_isManLine_X8_isNumber : GoodIn wsX8_isManLine wsX8_isNumber := goodIn_r _ [17, 18, 19, 20, 4, 21, 22, 23, 10, 24, 25, 26, 27, 12, 28, 29, 30, 31, 32, 33, 34, 35, 36, 7, 8, 9, 11, 13, 43, 44, 45, 46, 47, 48, 49, 50, 51, 52, 53, 54, 55, 56, 57, 58, 59, 60, 61, 62, 63, 64, 65, 66, 67, 68, 69, 70, 71, 72, 73, 74, 75, 76] (by decide +kernel) (by decide +kernel)
set_option maxRecDepth 20000 in
theorem gX8_isManLine_X8_isNumber : GoodIn wsX8_isManLine (wsV RX8 114 RX8 yX8_isNumber wsX8_isNumber) := goodIn_app (goodIn_of _ (by decide +kernel)) ggX8_isManLine_X8_isNumber
set_option maxRecDepth 20000 in
theorem ggX8_isManLine_X8_has : GoodIn wsX8_isManLine wsX8_has := goodIn_r _ [39] (by decide +kernel) (by decide +kernel)
set_option maxRecDepth 20000 in
theorem gX8_isManLine_X8_has : GoodIn wsX8_isManLine (va_wsS RX8 126 yX8_has wsX8_has) := goodIn_app (goodIn_of _ (by decide +kernel)) ggX8_isManLine_X8_has
set_option maxRecDepth 20000 in
theorem ggX8_isManLine_X8_isOf : GoodIn wsX8_isManLine wsX8_isOf := goodIn_r _ [42] (by decide +kernel) (by decide +kernel)
set_option maxRecDepth 20000 in
theorem gX8_isManLine_X8_isOf : GoodIn wsX8_isManLine (va_wsS RX8 130 yX8_isOf wsX8_isOf) := goodIn_app (goodIn_of _ (by decide +kernel)) ggX8_isManLine_X8_isOf
theorem dX8_isManLine_0 : decode cX8_isManLine 0 = .ok (.aload_n 0, 1) := by decide +kernel
theorem dX8_isManLine_1 : decode cX8_isManLine 1 = .ok (.getfield 123, 3) := by decide +kernel
theorem dX8_isManLine_4 : decode cX8_isManLine 4 = .ok (.iconst 4, 1) := by decide +kernel
theorem dX8_isManLine_5 : decode cX8_isManLine 5 = .ok (.if_icmp .ne 8, 3) := by decide +kernel
theorem dX8_isManLine_8 : decode cX8_isManLine 8 = .ok (.aload_n 0, 1) := by decide +kernel
theorem dX8_isManLine_9 : decode cX8_isManLine 9 = .ok (.invokevirtual 110, 3) := by decide +kernel
theorem dX8_isManLine_12 : decode cX8_isManLine 12 = .ok (.ireturn, 1) := by decide +kernel
theorem dX8_isManLine_13 : decode cX8_isManLine 13 = .ok (.aload_n 0, 1) := by decide +kernel
theorem dX8_isManLine_14 : decode cX8_isManLine 14 = .ok (.iload_n 1, 1) := by decide +kernel
theorem dX8_isManLine_15 : decode cX8_isManLine 15 = .ok (.iconst 1, 1) := by decide +kernel
theorem dX8_isManLine_16 : decode cX8_isManLine 16 = .ok (.iadd, 1) := by decide +kernel
theorem dX8_isManLine_17 : decode cX8_isManLine 17 = .ok (.iconst 0, 1) := by decide +kernel
theorem dX8_isManLine_18 : decode cX8_isManLine 18 = .ok (.iconst 1, 1) := by decide +kernel
theorem dX8_isManLine_19 : decode cX8_isManLine 19 = .ok (.invokevirtual 114, 3) := by decide +kernel
theorem dX8_isManLine_22 : decode cX8_isManLine 22 = .ok (.ifCond .eq 20, 3) := by decide +kernel
theorem dX8_isManLine_25 : decode cX8_isManLine 25 = .ok (.aload_n 0, 1) := by decide +kernel
theorem dX8_isManLine_26 : decode cX8_isManLine 26 = .ok (.iload_n 1, 1) := by decide +kernel
theorem dX8_isManLine_27 : decode cX8_isManLine 27 = .ok (.iconst 2, 1) := by decide +kernel
theorem dX8_isManLine_28 : decode cX8_isManLine 28 = .ok (.iadd, 1) := by decide +kernel
theorem dX8_isManLine_29 : decode cX8_isManLine 29 = .ok (.iconst 0, 1) := by decide +kernel
theorem dX8_isManLine_30 : decode cX8_isManLine 30 = .ok (.aload_n 0, 1) := by decide +kernel
theorem dX8_isManLine_31 : decode cX8_isManLine 31 = .ok (.getfield 117, 3) := by decide +kernel
theorem dX8_isManLine_34 : decode cX8_isManLine 34 = .ok (.iconst 1, 1) := by decide +kernel
theorem dX8_isManLine_35 : decode cX8_isManLine 35 = .ok (.isub, 1) := by decide +kernel
theorem dX8_isManLine_36 : decode cX8_isManLine 36 = .ok (.invokevirtual 114, 3) := by decide +kernel
theorem dX8_isManLine_39 : decode cX8_isManLine 39 = .ok (.ifCond .ne 5, 3) := by decide +kernel
theorem dX8_isManLine_42 : decode cX8_isManLine 42 = .ok (.iconst 0, 1) := by decide +kernel
theorem dX8_isManLine_43 : decode cX8_isManLine 43 = .ok (.ireturn, 1) := by decide +kernel
theorem dX8_isManLine_44 : decode cX8_isManLine 44 = .ok (.aload_n 0, 1) := by decide +kernel
theorem dX8_isManLine_45 : decode cX8_isManLine 45 = .ok (.getfield 120, 3) := by decide +kernel
theorem dX8_isManLine_48 : decode cX8_isManLine 48 = .ok (.aload_n 0, 1) := by decide +kernel
theorem dX8_isManLine_49 : decode cX8_isManLine 49 = .ok (.getfield 29, 3) := by decide +kernel
theorem dX8_isManLine_52 : decode cX8_isManLine 52 = .ok (.iload_n 1, 1) := by decide +kernel
theorem dX8_isManLine_53 : decode cX8_isManLine 53 = .ok (.iconst 2, 1) := by decide +kernel
theorem dX8_isManLine_54 : decode cX8_isManLine 54 = .ok (.iadd, 1) := by decide +kernel
theorem dX8_isManLine_55 : decode cX8_isManLine 55 = .ok (.iaload, 1) := by decide +kernel
theorem dX8_isManLine_56 : decode cX8_isManLine 56 = .ok (.invokestatic 126, 3) := by decide +kernel
theorem dX8_isManLine_59 : decode cX8_isManLine 59 = .ok (.ifCond .ne 25, 3) := by decide +kernel
theorem dX8_isManLine_62 : decode cX8_isManLine 62 = .ok (.aload_n 0, 1) := by decide +kernel
theorem dX8_isManLine_63 : decode cX8_isManLine 63 = .ok (.getfield 23, 3) := by decide +kernel
theorem dX8_isManLine_66 : decode cX8_isManLine 66 = .ok (.aload_n 0, 1) := by decide +kernel
theorem dX8_isManLine_67 : decode cX8_isManLine 67 = .ok (.getfield 123, 3) := by decide +kernel
theorem dX8_isManLine_70 : decode cX8_isManLine 70 = .ok (.aload_n 0, 1) := by decide +kernel
theorem dX8_isManLine_71 : decode cX8_isManLine 71 = .ok (.getfield 29, 3) := by decide +kernel
theorem dX8_isManLine_74 : decode cX8_isManLine 74 = .ok (.iload_n 1, 1) := by decide +kernel
theorem dX8_isManLine_75 : decode cX8_isManLine 75 = .ok (.iconst 2, 1) := by decide +kernel
theorem dX8_isManLine_76 : decode cX8_isManLine 76 = .ok (.iadd, 1) := by decide +kernel
theorem dX8_isManLine_77 : decode cX8_isManLine 77 = .ok (.iaload, 1) := by decide +kernel
theorem dX8_isManLine_78 : decode cX8_isManLine 78 = .ok (.invokestatic 130, 3) := by decide +kernel
theorem dX8_isManLine_81 : decode cX8_isManLine 81 = .ok (.ifCond .eq 8, 3) := by decide +kernel
theorem dX8_isManLine_84 : decode cX8_isManLine 84 = .ok (.aload_n 0, 1) := by decide +kernel
theorem dX8_isManLine_85 : decode cX8_isManLine 85 = .ok (.invokevirtual 110, 3) := by decide +kernel
theorem dX8_isManLine_88 : decode cX8_isManLine 88 = .ok (.ireturn, 1) := by decide +kernel
theorem dX8_isManLine_89 : decode cX8_isManLine 89 = .ok (.aload_n 0, 1) := by decide +kernel
theorem dX8_isManLine_90 : decode cX8_isManLine 90 = .ok (.iload_n 1, 1) := by decide +kernel
theorem dX8_isManLine_91 : decode cX8_isManLine 91 = .ok (.iconst 3, 1) := by decide +kernel
theorem dX8_isManLine_92 : decode cX8_isManLine 92 = .ok (.iadd, 1) := by decide +kernel
theorem dX8_isManLine_93 : decode cX8_isManLine 93 = .ok (.iconst 0, 1) := by decide +kernel
theorem dX8_isManLine_94 : decode cX8_isManLine 94 = .ok (.aload_n 0, 1) := by decide +kernel
theorem dX8_isManLine_95 : decode cX8_isManLine 95 = .ok (.getfield 117, 3) := by decide +kernel
theorem dX8_isManLine_98 : decode cX8_isManLine 98 = .ok (.iconst 1, 1) := by decide +kernel
theorem dX8_isManLine_99 : decode cX8_isManLine 99 = .ok (.isub, 1) := by decide +kernel
theorem dX8_isManLine_100 : decode cX8_isManLine 100 = .ok (.invokevirtual 114, 3) := by decide +kernel
theorem dX8_isManLine_103 : decode cX8_isManLine 103 = .ok (.ifCond .ne 5, 3) := by decide +kernel
theorem dX8_isManLine_106 : decode cX8_isManLine 106 = .ok (.iconst 0, 1) := by decide +kernel
theorem dX8_isManLine_107 : decode cX8_isManLine 107 = .ok (.ireturn, 1) := by decide +kernel
theorem dX8_isManLine_108 : decode cX8_isManLine 108 = .ok (.aload_n 0, 1) := by decide +kernel
theorem dX8_isManLine_109 : decode cX8_isManLine 109 = .ok (.getfield 120, 3) := by decide +kernel
theorem dX8_isManLine_112 : decode cX8_isManLine 112 = .ok (.aload_n 0, 1) := by decide +kernel
theorem dX8_isManLine_113 : decode cX8_isManLine 113 = .ok (.getfield 29, 3) := by decide +kernel
theorem dX8_isManLine_116 : decode cX8_isManLine 116 = .ok (.iload_n 1, 1) := by decide +kernel
theorem dX8_isManLine_117 : decode cX8_isManLine 117 = .ok (.iconst 3, 1) := by decide +kernel
theorem dX8_isManLine_118 : decode cX8_isManLine 118 = .ok (.iadd, 1) := by decide +kernel
theorem dX8_isManLine_119 : decode cX8_isManLine 119 = .ok (.iaload, 1) := by decide +kernel
theorem dX8_isManLine_120 : decode cX8_isManLine 120 = .ok (.invokestatic 126, 3) := by decide +kernel
theorem dX8_isManLine_123 : decode cX8_isManLine 123 = .ok (.ifCond .ne 25, 3) := by decide +kernel
theorem dX8_isManLine_126 : decode cX8_isManLine 126 = .ok (.aload_n 0, 1) := by decide +kernel
theorem dX8_isManLine_127 : decode cX8_isManLine 127 = .ok (.getfield 26, 3) := by decide +kernel
theorem dX8_isManLine_130 : decode cX8_isManLine 130 = .ok (.aload_n 0, 1) := by decide +kernel
theorem dX8_isManLine_131 : decode cX8_isManLine 131 = .ok (.getfield 123, 3) := by decide +kernel
theorem dX8_isManLine_134 : decode cX8_isManLine 134 = .ok (.aload_n 0, 1) := by decide +kernel
theorem dX8_isManLine_135 : decode cX8_isManLine 135 = .ok (.getfield 29, 3) := by decide +kernel
theorem dX8_isManLine_138 : decode cX8_isManLine 138 = .ok (.iload_n 1, 1) := by decide +kernel
theorem dX8_isManLine_139 : decode cX8_isManLine 139 = .ok (.iconst 3, 1) := by decide +kernel
theorem dX8_isManLine_140 : decode cX8_isManLine 140 = .ok (.iadd, 1) := by decide +kernel
theorem dX8_isManLine_141 : decode cX8_isManLine 141 = .ok (.iaload, 1) := by decide +kernel
theorem dX8_isManLine_142 : decode cX8_isManLine 142 = .ok (.invokestatic 130, 3) := by decide +kernel
theorem dX8_isManLine_145 : decode cX8_isManLine 145 = .ok (.ifCond .eq 8, 3) := by decide +kernel
theorem dX8_isManLine_148 : decode cX8_isManLine 148 = .ok (.aload_n 0, 1) := by decide +kernel
theorem dX8_isManLine_149 : decode cX8_isManLine 149 = .ok (.invokevirtual 110, 3) := by decide +kernel
theorem dX8_isManLine_152 : decode cX8_isManLine 152 = .ok (.ireturn, 1) := by decide +kernel
theorem dX8_isManLine_153 : decode cX8_isManLine 153 = .ok (.aload_n 0, 1) := by decide +kernel
theorem dX8_isManLine_154 : decode cX8_isManLine 154 = .ok (.getfield 23, 3) := by decide +kernel
theorem dX8_isManLine_157 : decode cX8_isManLine 157 = .ok (.aload_n 0, 1) := by decide +kernel
theorem dX8_isManLine_158 : decode cX8_isManLine 158 = .ok (.getfield 123, 3) := by decide +kernel
theorem dX8_isManLine_161 : decode cX8_isManLine 161 = .ok (.aload_n 0, 1) := by decide +kernel
theorem dX8_isManLine_162 : decode cX8_isManLine 162 = .ok (.getfield 29, 3) := by decide +kernel
theorem dX8_isManLine_165 : decode cX8_isManLine 165 = .ok (.iload_n 1, 1) := by decide +kernel
theorem dX8_isManLine_166 : decode cX8_isManLine 166 = .ok (.iconst 2, 1) := by decide +kernel
theorem dX8_isManLine_167 : decode cX8_isManLine 167 = .ok (.iadd, 1) := by decide +kernel
theorem dX8_isManLine_168 : decode cX8_isManLine 168 = .ok (.iaload, 1) := by decide +kernel
theorem dX8_isManLine_169 : decode cX8_isManLine 169 = .ok (.iastore, 1) := by decide +kernel
theorem dX8_isManLine_170 : decode cX8_isManLine 170 = .ok (.aload_n 0, 1) := by decide +kernel
theorem dX8_isManLine_171 : decode cX8_isManLine 171 = .ok (.getfield 26, 3) := by decide +kernel
theorem dX8_isManLine_174 : decode cX8_isManLine 174 = .ok (.aload_n 0, 1) := by decide +kernel
theorem dX8_isManLine_175 : decode cX8_isManLine 175 = .ok (.getfield 123, 3) := by decide +kernel
theorem dX8_isManLine_178 : decode cX8_isManLine 178 = .ok (.aload_n 0, 1) := by decide +kernel
theorem dX8_isManLine_179 : decode cX8_isManLine 179 = .ok (.getfield 29, 3) := by decide +kernel
theorem dX8_isManLine_182 : decode cX8_isManLine 182 = .ok (.iload_n 1, 1) := by decide +kernel
theorem dX8_isManLine_183 : decode cX8_isManLine 183 = .ok (.iconst 3, 1) := by decide +kernel
theorem dX8_isManLine_184 : decode cX8_isManLine 184 = .ok (.iadd, 1) := by decide +kernel
theorem dX8_isManLine_185 : decode cX8_isManLine 185 = .ok (.iaload, 1) := by decide +kernel
theorem dX8_isManLine_186 : decode cX8_isManLine 186 = .ok (.iastore, 1) := by decide +kernel
theorem dX8_isManLine_187 : decode cX8_isManLine 187 = .ok (.aload_n 0, 1) := by decide +kernel
theorem dX8_isManLine_188 : decode cX8_isManLine 188 = .ok (.dup, 1) := by decide +kernel
theorem dX8_isManLine_189 : decode cX8_isManLine 189 = .ok (.getfield 123, 3) := by decide +kernel
theorem dX8_isManLine_192 : decode cX8_isManLine 192 = .ok (.iconst 1, 1) := by decide +kernel
theorem dX8_isManLine_193 : decode cX8_isManLine 193 = .ok (.iadd, 1) := by decide +kernel
theorem dX8_isManLine_194 : decode cX8_isManLine 194 = .ok (.putfield 123, 3) := by decide +kernel
theorem dX8_isManLine_197 : decode cX8_isManLine 197 = .ok (.iconst 1, 1) := by decide +kernel
theorem dX8_isManLine_198 : decode cX8_isManLine 198 = .ok (.ireturn, 1) := by decide +kernel
set_option maxRecDepth 20000 in
theorem ggX8_isLine_X8_nextToken : GoodIn wsX8_isLine wsX8_nextToken := goodIn_r _ [18, 19, 20, 21, 22, 23, 24, 25, 1, 26, 27, 28, 29, 30, 31, 32, 17, 33, 65, 66, 67, 68, 69, 70, 71, 72, 73, 74, 75, 76, 77, 78, 79, 80, 81, 82, 83, 84, 85, 86, 87, 88, 89, 90, 91, 92, 93, 94, 95, 96, 97, 98] (by decide +kernel) (by decide +kernel)
set_option maxRecDepth 20000 in
theorem gX8_isLine_X8_nextToken : GoodIn wsX8_isLine (wsV RX8 107 RX8 yX8_nextToken wsX8_nextToken) := goodIn_app (goodIn_of _ (by decide +kernel)) ggX8_isLine_X8_nextToken
set_option maxRecDepth 20000 in
theorem ggX8_isLine_X8_isManLine : GoodIn wsX8_isLine wsX8_isManLine := goodIn_r _ [37, 13, 38, 39, 12, 40, 41, 42, 43, 44, 17, 45, 22, 46, 47, 48, 49, 50, 1, 29, 24, 14, 15, 16, 18, 19, 20, 21, 23, 25, 26, 27, 28, 30, 31, 32, 33, 51, 52, 53, 54, 55, 56, 65, 66, 67, 68, 69, 70, 71, 72, 73, 74, 75, 76, 77, 78, 79, 80, 81, 82, 83, 84, 85, 86, 87, 88, 89, 90, 91, 92, 93, 94, 95, 96, 97, 98] (by decide +kernel) (by decide +kernel)
set_option maxRecDepth 20000 in
theorem gX8_isLine_X8_isManLine : GoodIn wsX8_isLine (wsV RX8 154 RX8 yX8_isManLine wsX8_isManLine) := goodIn_app (goodIn_of _ (by decide +kernel)) ggX8_isLine_X8_isManLine
set_option maxRecDepth 20000 in
theorem ggX8_isLine_X8_isBoard : GoodIn wsX8_isLine wsX8_isBoard := goodIn_r _ [60, 12, 38, 39, 13, 47, 48, 49, 17, 50, 1, 29, 24, 14, 15, 16, 18, 19, 20, 21, 22, 23, 25, 26, 27, 28, 30, 31, 32, 33, 42, 43, 44, 45, 46, 65, 66, 67, 68, 69, 70, 71, 72, 73, 74, 75, 76, 77, 78, 79, 80, 81, 82, 83, 84, 85, 86, 87, 88, 89, 90, 91, 92, 93, 94, 95, 96, 97, 98] (by decide +kernel) (by decide +kernel)
set_option maxRecDepth 20000 in
theorem gX8_isLine_X8_isBoard : GoodIn wsX8_isLine (wsV RX8 158 RX8 yX8_isBoard wsX8_isBoard) := goodIn_app (goodIn_of _ (by decide +kernel)) ggX8_isLine_X8_isBoard
set_option maxRecDepth 20000 in
theorem ggX8_isLine_X8_isHole : GoodIn wsX8_isLine wsX8_isHole := goodIn_r _ [64, 38, 12, 39, 40, 13, 41, 47, 48, 49, 17, 50, 1, 29, 24, 14, 15, 16, 18, 19, 20, 21, 22, 23, 25, 26, 27, 28, 30, 31, 32, 33, 42, 43, 44, 45, 46, 51, 52, 53, 54, 55, 56, 65, 66, 67, 68, 69, 70, 71, 72, 73, 74, 75, 76, 77, 78, 79, 80, 81, 82, 83, 84, 85, 86, 87, 88, 89, 90, 91, 92, 93, 94, 95, 96, 97, 98] (by decide +kernel) (by decide +kernel)
set_option maxRecDepth 20000 in
theorem gX8_isLine_X8_isHole : GoodIn wsX8_isLine (wsV RX8 161 RX8 yX8_isHole wsX8_isHole) := goodIn_app (goodIn_of _ (by decide +kernel)) ggX8_isLine_X8_isHole
set_option maxRecDepth 20000 in
theorem ggX8_isLine_X8_fails : GoodIn wsX8_isLine wsX8_fails := goodIn_r _ [45, 22, 46, 65, 66, 67, 68, 69, 70, 71, 72, 73, 74, 75, 76, 77, 78, 79, 80, 81, 82, 83, 84, 85, 86, 87, 88, 89, 90, 91, 92, 93, 94, 95, 96, 97, 98] (by decide +kernel) (by decide +kernel)
set_option maxRecDepth 20000 in
theorem gX8_isLine_X8_fails : GoodIn wsX8_isLine (wsV RX8 110 RX8 yX8_fails wsX8_fails) := goodIn_app (goodIn_of _ (by decide +kernel)) ggX8_isLine_X8_fails
theorem dX8_isLine_0 : decode cX8_isLine 0 = .ok (.aload_n 0, 1) := by decide +kernel
theorem dX8_isLine_1 : decode cX8_isLine 1 = .ok (.invokevirtual 107, 3) := by decide +kernel
theorem dX8_isLine_4 : decode cX8_isLine 4 = .ok (.aload_n 0, 1) := by decide +kernel
theorem dX8_isLine_5 : decode cX8_isLine 5 = .ok (.getfield 90, 3) := by decide +kernel
theorem dX8_isLine_8 : decode cX8_isLine 8 = .ok (.ldc2_w 134, 3) := by decide +kernel
theorem dX8_isLine_11 : decode cX8_isLine 11 = .ok (.lcmp, 1) := by decide +kernel
theorem dX8_isLine_12 : decode cX8_isLine 12 = .ok (.ifCond .ne 7, 3) := by decide +kernel
theorem dX8_isLine_15 : decode cX8_isLine 15 = .ok (.iconst 0, 1) := by decide +kernel
theorem dX8_isLine_16 : decode cX8_isLine 16 = .ok (.goto 64, 3) := by decide +kernel
theorem dX8_isLine_19 : decode cX8_isLine 19 = .ok (.aload_n 0, 1) := by decide +kernel
theorem dX8_isLine_20 : decode cX8_isLine 20 = .ok (.getfield 90, 3) := by decide +kernel
theorem dX8_isLine_23 : decode cX8_isLine 23 = .ok (.ldc2_w 136, 3) := by decide +kernel
theorem dX8_isLine_26 : decode cX8_isLine 26 = .ok (.lcmp, 1) := by decide +kernel
theorem dX8_isLine_27 : decode cX8_isLine 27 = .ok (.ifCond .ne 7, 3) := by decide +kernel
theorem dX8_isLine_30 : decode cX8_isLine 30 = .ok (.iconst 1, 1) := by decide +kernel
theorem dX8_isLine_31 : decode cX8_isLine 31 = .ok (.goto 49, 3) := by decide +kernel
theorem dX8_isLine_34 : decode cX8_isLine 34 = .ok (.aload_n 0, 1) := by decide +kernel
theorem dX8_isLine_35 : decode cX8_isLine 35 = .ok (.getfield 90, 3) := by decide +kernel
theorem dX8_isLine_38 : decode cX8_isLine 38 = .ok (.ldc2_w 138, 3) := by decide +kernel
theorem dX8_isLine_41 : decode cX8_isLine 41 = .ok (.lcmp, 1) := by decide +kernel
theorem dX8_isLine_42 : decode cX8_isLine 42 = .ok (.ifCond .ne 7, 3) := by decide +kernel
theorem dX8_isLine_45 : decode cX8_isLine 45 = .ok (.iconst 2, 1) := by decide +kernel
theorem dX8_isLine_46 : decode cX8_isLine 46 = .ok (.goto 34, 3) := by decide +kernel
theorem dX8_isLine_49 : decode cX8_isLine 49 = .ok (.aload_n 0, 1) := by decide +kernel
theorem dX8_isLine_50 : decode cX8_isLine 50 = .ok (.getfield 90, 3) := by decide +kernel
theorem dX8_isLine_53 : decode cX8_isLine 53 = .ok (.ldc2_w 140, 3) := by decide +kernel
theorem dX8_isLine_56 : decode cX8_isLine 56 = .ok (.lcmp, 1) := by decide +kernel
theorem dX8_isLine_57 : decode cX8_isLine 57 = .ok (.ifCond .ne 7, 3) := by decide +kernel
theorem dX8_isLine_60 : decode cX8_isLine 60 = .ok (.iconst 3, 1) := by decide +kernel
theorem dX8_isLine_61 : decode cX8_isLine 61 = .ok (.goto 19, 3) := by decide +kernel
theorem dX8_isLine_64 : decode cX8_isLine 64 = .ok (.aload_n 0, 1) := by decide +kernel
theorem dX8_isLine_65 : decode cX8_isLine 65 = .ok (.getfield 90, 3) := by decide +kernel
theorem dX8_isLine_68 : decode cX8_isLine 68 = .ok (.ldc2_w 142, 3) := by decide +kernel
theorem dX8_isLine_71 : decode cX8_isLine 71 = .ok (.lcmp, 1) := by decide +kernel
theorem dX8_isLine_72 : decode cX8_isLine 72 = .ok (.ifCond .ne 7, 3) := by decide +kernel
theorem dX8_isLine_75 : decode cX8_isLine 75 = .ok (.iconst 4, 1) := by decide +kernel
theorem dX8_isLine_76 : decode cX8_isLine 76 = .ok (.goto 4, 3) := by decide +kernel
theorem dX8_isLine_79 : decode cX8_isLine 79 = .ok (.iconst (-1), 1) := by decide +kernel
theorem dX8_isLine_80 : decode cX8_isLine 80 = .ok (.istore_n 2, 1) := by decide +kernel
theorem dX8_isLine_81 : decode cX8_isLine 81 = .ok (.aload_n 0, 1) := by decide +kernel
theorem dX8_isLine_82 : decode cX8_isLine 82 = .ok (.getfield 90, 3) := by decide +kernel
theorem dX8_isLine_85 : decode cX8_isLine 85 = .ok (.ldc2_w 144, 3) := by decide +kernel
theorem dX8_isLine_88 : decode cX8_isLine 88 = .ok (.lcmp, 1) := by decide +kernel
theorem dX8_isLine_89 : decode cX8_isLine 89 = .ok (.ifCond .ne 7, 3) := by decide +kernel
theorem dX8_isLine_92 : decode cX8_isLine 92 = .ok (.iconst 5, 1) := by decide +kernel
theorem dX8_isLine_93 : decode cX8_isLine 93 = .ok (.goto 68, 3) := by decide +kernel
theorem dX8_isLine_96 : decode cX8_isLine 96 = .ok (.aload_n 0, 1) := by decide +kernel
theorem dX8_isLine_97 : decode cX8_isLine 97 = .ok (.getfield 90, 3) := by decide +kernel
theorem dX8_isLine_100 : decode cX8_isLine 100 = .ok (.ldc2_w 146, 3) := by decide +kernel
theorem dX8_isLine_103 : decode cX8_isLine 103 = .ok (.lcmp, 1) := by decide +kernel
theorem dX8_isLine_104 : decode cX8_isLine 104 = .ok (.ifCond .ne 8, 3) := by decide +kernel
theorem dX8_isLine_107 : decode cX8_isLine 107 = .ok (.bipush 6, 2) := by decide +kernel
theorem dX8_isLine_109 : decode cX8_isLine 109 = .ok (.goto 52, 3) := by decide +kernel
theorem dX8_isLine_112 : decode cX8_isLine 112 = .ok (.aload_n 0, 1) := by decide +kernel
theorem dX8_isLine_113 : decode cX8_isLine 113 = .ok (.getfield 90, 3) := by decide +kernel
theorem dX8_isLine_116 : decode cX8_isLine 116 = .ok (.ldc2_w 148, 3) := by decide +kernel
theorem dX8_isLine_119 : decode cX8_isLine 119 = .ok (.lcmp, 1) := by decide +kernel
theorem dX8_isLine_120 : decode cX8_isLine 120 = .ok (.ifCond .ne 8, 3) := by decide +kernel
theorem dX8_isLine_123 : decode cX8_isLine 123 = .ok (.bipush 7, 2) := by decide +kernel
theorem dX8_isLine_125 : decode cX8_isLine 125 = .ok (.goto 36, 3) := by decide +kernel
theorem dX8_isLine_128 : decode cX8_isLine 128 = .ok (.aload_n 0, 1) := by decide +kernel
theorem dX8_isLine_129 : decode cX8_isLine 129 = .ok (.getfield 90, 3) := by decide +kernel
theorem dX8_isLine_132 : decode cX8_isLine 132 = .ok (.ldc2_w 150, 3) := by decide +kernel
theorem dX8_isLine_135 : decode cX8_isLine 135 = .ok (.lcmp, 1) := by decide +kernel
theorem dX8_isLine_136 : decode cX8_isLine 136 = .ok (.ifCond .ne 8, 3) := by decide +kernel
theorem dX8_isLine_139 : decode cX8_isLine 139 = .ok (.bipush 8, 2) := by decide +kernel
theorem dX8_isLine_141 : decode cX8_isLine 141 = .ok (.goto 20, 3) := by decide +kernel
theorem dX8_isLine_144 : decode cX8_isLine 144 = .ok (.aload_n 0, 1) := by decide +kernel
theorem dX8_isLine_145 : decode cX8_isLine 145 = .ok (.getfield 90, 3) := by decide +kernel
theorem dX8_isLine_148 : decode cX8_isLine 148 = .ok (.ldc2_w 152, 3) := by decide +kernel
theorem dX8_isLine_151 : decode cX8_isLine 151 = .ok (.lcmp, 1) := by decide +kernel
theorem dX8_isLine_152 : decode cX8_isLine 152 = .ok (.ifCond .ne 8, 3) := by decide +kernel
theorem dX8_isLine_155 : decode cX8_isLine 155 = .ok (.bipush 9, 2) := by decide +kernel
theorem dX8_isLine_157 : decode cX8_isLine 157 = .ok (.goto 4, 3) := by decide +kernel
theorem dX8_isLine_160 : decode cX8_isLine 160 = .ok (.iconst (-1), 1) := by decide +kernel
theorem dX8_isLine_161 : decode cX8_isLine 161 = .ok (.istore_n 3, 1) := by decide +kernel
theorem dX8_isLine_162 : decode cX8_isLine 162 = .ok (.aload_n 0, 1) := by decide +kernel
theorem dX8_isLine_163 : decode cX8_isLine 163 = .ok (.getfield 29, 3) := by decide +kernel
theorem dX8_isLine_166 : decode cX8_isLine 166 = .ok (.iload_n 1, 1) := by decide +kernel
theorem dX8_isLine_167 : decode cX8_isLine 167 = .ok (.iload_n 2, 1) := by decide +kernel
theorem dX8_isLine_168 : decode cX8_isLine 168 = .ok (.iconst (-1), 1) := by decide +kernel
theorem dX8_isLine_169 : decode cX8_isLine 169 = .ok (.if_icmp .ne 7, 3) := by decide +kernel
theorem dX8_isLine_172 : decode cX8_isLine 172 = .ok (.iload_n 3, 1) := by decide +kernel
theorem dX8_isLine_173 : decode cX8_isLine 173 = .ok (.goto 4, 3) := by decide +kernel
theorem dX8_isLine_176 : decode cX8_isLine 176 = .ok (.iload_n 2, 1) := by decide +kernel
theorem dX8_isLine_177 : decode cX8_isLine 177 = .ok (.iastore, 1) := by decide +kernel
theorem dX8_isLine_178 : decode cX8_isLine 178 = .ok (.aload_n 0, 1) := by decide +kernel
theorem dX8_isLine_179 : decode cX8_isLine 179 = .ok (.getfield 29, 3) := by decide +kernel
theorem dX8_isLine_182 : decode cX8_isLine 182 = .ok (.iload_n 1, 1) := by decide +kernel
theorem dX8_isLine_183 : decode cX8_isLine 183 = .ok (.iaload, 1) := by decide +kernel
theorem dX8_isLine_184 : decode cX8_isLine 184 = .ok (.tableswitch 83 0 9 #[56, 56, 56, 56, 62, 62, 62, 64, 71, 77], 56) := by decide +kernel
theorem dX8_isLine_240 : decode cX8_isLine 240 = .ok (.aload_n 0, 1) := by decide +kernel
theorem dX8_isLine_241 : decode cX8_isLine 241 = .ok (.iload_n 1, 1) := by decide +kernel
theorem dX8_isLine_242 : decode cX8_isLine 242 = .ok (.invokevirtual 154, 3) := by decide +kernel
theorem dX8_isLine_245 : decode cX8_isLine 245 = .ok (.ireturn, 1) := by decide +kernel
theorem dX8_isLine_246 : decode cX8_isLine 246 = .ok (.iconst 1, 1) := by decide +kernel
theorem dX8_isLine_247 : decode cX8_isLine 247 = .ok (.ireturn, 1) := by decide +kernel
theorem dX8_isLine_248 : decode cX8_isLine 248 = .ok (.aload_n 0, 1) := by decide +kernel
theorem dX8_isLine_249 : decode cX8_isLine 249 = .ok (.iconst 0, 1) := by decide +kernel
theorem dX8_isLine_250 : decode cX8_isLine 250 = .ok (.putfield 123, 3) := by decide +kernel
theorem dX8_isLine_253 : decode cX8_isLine 253 = .ok (.iconst 1, 1) := by decide +kernel
theorem dX8_isLine_254 : decode cX8_isLine 254 = .ok (.ireturn, 1) := by decide +kernel
theorem dX8_isLine_255 : decode cX8_isLine 255 = .ok (.aload_n 0, 1) := by decide +kernel
theorem dX8_isLine_256 : decode cX8_isLine 256 = .ok (.iload_n 1, 1) := by decide +kernel
theorem dX8_isLine_257 : decode cX8_isLine 257 = .ok (.invokevirtual 158, 3) := by decide +kernel
theorem dX8_isLine_260 : decode cX8_isLine 260 = .ok (.ireturn, 1) := by decide +kernel
theorem dX8_isLine_261 : decode cX8_isLine 261 = .ok (.aload_n 0, 1) := by decide +kernel
theorem dX8_isLine_262 : decode cX8_isLine 262 = .ok (.iload_n 1, 1) := by decide +kernel
theorem dX8_isLine_263 : decode cX8_isLine 263 = .ok (.invokevirtual 161, 3) := by decide +kernel
theorem dX8_isLine_266 : decode cX8_isLine 266 = .ok (.ireturn, 1) := by decide +kernel
theorem dX8_isLine_267 : decode cX8_isLine 267 = .ok (.aload_n 0, 1) := by decide +kernel
theorem dX8_isLine_268 : decode cX8_isLine 268 = .ok (.invokevirtual 110, 3) := by decide +kernel
theorem dX8_isLine_271 : decode cX8_isLine 271 = .ok (.ireturn, 1) := by decide +kernel
set_option maxRecDepth 20000 in
theorem ggX8_isRead_X8_isLine : GoodIn wsX8_isRead wsX8_isLine := goodIn_r _ [20, 13, 21, 22, 23, 24, 25, 26, 27, 28, 29, 30, 31, 9, 32, 33, 34, 19, 35, 1, 36, 37, 38, 39, 40, 15, 41, 42, 43, 44, 14, 45, 46, 47, 48, 49, 50, 51, 5, 7, 10, 12, 52, 53, 54, 55, 56, 57, 58, 59, 60, 61, 62, 63, 64, 65, 66, 67, 68, 69, 70, 71, 72, 73, 74, 75, 76, 77, 78, 79, 80, 81, 82, 83, 84, 85, 86, 87, 88, 89, 90, 91, 92, 93, 94, 95, 96, 97, 98, 99, 100, 101, 102, 103, 104, 105, 106, 107, 108] (by decide +kernel) (by decide +kernel)
set_option maxRecDepth 20000 in
theorem gX8_isRead_X8_isLine : GoodIn wsX8_isRead (wsV RX8 170 RX8 yX8_isLine wsX8_isLine) := goodIn_app (goodIn_of _ (by decide +kernel)) ggX8_isRead_X8_isLine
set_option maxRecDepth 20000 in
theorem ggX8_isRead_X8_nextToken : GoodIn wsX8_isRead wsX8_nextToken := goodIn_r _ [35, 1, 36, 37, 38, 39, 40, 15, 13, 41, 42, 43, 44, 14, 45, 46, 19, 47, 75, 76, 77, 78, 79, 80, 81, 82, 83, 84, 85, 86, 87, 88, 89, 90, 91, 92, 93, 94, 95, 96, 97, 98, 99, 100, 101, 102, 103, 104, 105, 106, 107, 108] (by decide +kernel) (by decide +kernel)
set_option maxRecDepth 20000 in
theorem gX8_isRead_X8_nextToken : GoodIn wsX8_isRead (wsV RX8 107 RX8 yX8_nextToken wsX8_nextToken) := goodIn_app (goodIn_of _ (by decide +kernel)) ggX8_isRead_X8_nextToken
set_option maxRecDepth 20000 in
theorem ggX8_isRead_X8_fails : GoodIn wsX8_isRead wsX8_fails := goodIn_r _ [55, 38, 56, 75, 76, 77, 78, 79, 80, 81, 82, 83, 84, 85, 86, 87, 88, 89, 90, 91, 92, 93, 94, 95, 96, 97, 98, 99, 100, 101, 102, 103, 104, 105, 106, 107, 108] (by decide +kernel) (by decide +kernel)
set_option maxRecDepth 20000 in
theorem gX8_isRead_X8_fails : GoodIn wsX8_isRead (wsV RX8 110 RX8 yX8_fails wsX8_fails) := goodIn_app (goodIn_of _ (by decide +kernel)) ggX8_isRead_X8_fails
theorem dX8_isRead_0 : decode cX8_isRead 0 = .ok (.aload_n 0, 1) := by decide +kernel
theorem dX8_isRead_1 : decode cX8_isRead 1 = .ok (.iconst 0, 1) := by decide +kernel
theorem dX8_isRead_2 : decode cX8_isRead 2 = .ok (.putfield 76, 3) := by decide +kernel
theorem dX8_isRead_5 : decode cX8_isRead 5 = .ok (.aload_n 0, 1) := by decide +kernel
theorem dX8_isRead_6 : decode cX8_isRead 6 = .ok (.iconst 0, 1) := by decide +kernel
theorem dX8_isRead_7 : decode cX8_isRead 7 = .ok (.putfield 164, 3) := by decide +kernel
theorem dX8_isRead_10 : decode cX8_isRead 10 = .ok (.aload_n 0, 1) := by decide +kernel
theorem dX8_isRead_11 : decode cX8_isRead 11 = .ok (.aload_n 0, 1) := by decide +kernel
theorem dX8_isRead_12 : decode cX8_isRead 12 = .ok (.getfield 7, 3) := by decide +kernel
theorem dX8_isRead_15 : decode cX8_isRead 15 = .ok (.aload_n 0, 1) := by decide +kernel
theorem dX8_isRead_16 : decode cX8_isRead 16 = .ok (.getfield 13, 3) := by decide +kernel
theorem dX8_isRead_19 : decode cX8_isRead 19 = .ok (.imul, 1) := by decide +kernel
theorem dX8_isRead_20 : decode cX8_isRead 20 = .ok (.putfield 117, 3) := by decide +kernel
theorem dX8_isRead_23 : decode cX8_isRead 23 = .ok (.aload_n 0, 1) := by decide +kernel
theorem dX8_isRead_24 : decode cX8_isRead 24 = .ok (.aload_n 0, 1) := by decide +kernel
theorem dX8_isRead_25 : decode cX8_isRead 25 = .ok (.getfield 167, 3) := by decide +kernel
theorem dX8_isRead_28 : decode cX8_isRead 28 = .ok (.putfield 120, 3) := by decide +kernel
theorem dX8_isRead_31 : decode cX8_isRead 31 = .ok (.aload_n 0, 1) := by decide +kernel
theorem dX8_isRead_32 : decode cX8_isRead 32 = .ok (.aload_n 0, 1) := by decide +kernel
theorem dX8_isRead_33 : decode cX8_isRead 33 = .ok (.getfield 68, 3) := by decide +kernel
theorem dX8_isRead_36 : decode cX8_isRead 36 = .ok (.putfield 123, 3) := by decide +kernel
theorem dX8_isRead_39 : decode cX8_isRead 39 = .ok (.iconst 0, 1) := by decide +kernel
theorem dX8_isRead_40 : decode cX8_isRead 40 = .ok (.istore_n 1, 1) := by decide +kernel
theorem dX8_isRead_41 : decode cX8_isRead 41 = .ok (.iload_n 1, 1) := by decide +kernel
theorem dX8_isRead_42 : decode cX8_isRead 42 = .ok (.aload_n 0, 1) := by decide +kernel
theorem dX8_isRead_43 : decode cX8_isRead 43 = .ok (.getfield 68, 3) := by decide +kernel
theorem dX8_isRead_46 : decode cX8_isRead 46 = .ok (.if_icmp .ge 41, 3) := by decide +kernel
theorem dX8_isRead_49 : decode cX8_isRead 49 = .ok (.aload_n 0, 1) := by decide +kernel
theorem dX8_isRead_50 : decode cX8_isRead 50 = .ok (.getfield 23, 3) := by decide +kernel
theorem dX8_isRead_53 : decode cX8_isRead 53 = .ok (.iload_n 1, 1) := by decide +kernel
theorem dX8_isRead_54 : decode cX8_isRead 54 = .ok (.aload_n 0, 1) := by decide +kernel
theorem dX8_isRead_55 : decode cX8_isRead 55 = .ok (.getfield 16, 3) := by decide +kernel
theorem dX8_isRead_58 : decode cX8_isRead 58 = .ok (.iconst 4, 1) := by decide +kernel
theorem dX8_isRead_59 : decode cX8_isRead 59 = .ok (.iload_n 1, 1) := by decide +kernel
theorem dX8_isRead_60 : decode cX8_isRead 60 = .ok (.imul, 1) := by decide +kernel
theorem dX8_isRead_61 : decode cX8_isRead 61 = .ok (.iconst 2, 1) := by decide +kernel
theorem dX8_isRead_62 : decode cX8_isRead 62 = .ok (.iadd, 1) := by decide +kernel
theorem dX8_isRead_63 : decode cX8_isRead 63 = .ok (.iaload, 1) := by decide +kernel
theorem dX8_isRead_64 : decode cX8_isRead 64 = .ok (.iastore, 1) := by decide +kernel
theorem dX8_isRead_65 : decode cX8_isRead 65 = .ok (.aload_n 0, 1) := by decide +kernel
theorem dX8_isRead_66 : decode cX8_isRead 66 = .ok (.getfield 26, 3) := by decide +kernel
theorem dX8_isRead_69 : decode cX8_isRead 69 = .ok (.iload_n 1, 1) := by decide +kernel
theorem dX8_isRead_70 : decode cX8_isRead 70 = .ok (.aload_n 0, 1) := by decide +kernel
theorem dX8_isRead_71 : decode cX8_isRead 71 = .ok (.getfield 16, 3) := by decide +kernel
theorem dX8_isRead_74 : decode cX8_isRead 74 = .ok (.iconst 4, 1) := by decide +kernel
theorem dX8_isRead_75 : decode cX8_isRead 75 = .ok (.iload_n 1, 1) := by decide +kernel
theorem dX8_isRead_76 : decode cX8_isRead 76 = .ok (.imul, 1) := by decide +kernel
theorem dX8_isRead_77 : decode cX8_isRead 77 = .ok (.iconst 3, 1) := by decide +kernel
theorem dX8_isRead_78 : decode cX8_isRead 78 = .ok (.iadd, 1) := by decide +kernel
theorem dX8_isRead_79 : decode cX8_isRead 79 = .ok (.iaload, 1) := by decide +kernel
theorem dX8_isRead_80 : decode cX8_isRead 80 = .ok (.iastore, 1) := by decide +kernel
theorem dX8_isRead_81 : decode cX8_isRead 81 = .ok (.iinc 1 1, 3) := by decide +kernel
theorem dX8_isRead_84 : decode cX8_isRead 84 = .ok (.goto (-43), 3) := by decide +kernel
theorem dX8_isRead_87 : decode cX8_isRead 87 = .ok (.iconst 1, 1) := by decide +kernel
theorem dX8_isRead_88 : decode cX8_isRead 88 = .ok (.istore_n 1, 1) := by decide +kernel
theorem dX8_isRead_89 : decode cX8_isRead 89 = .ok (.iload_n 1, 1) := by decide +kernel
theorem dX8_isRead_90 : decode cX8_isRead 90 = .ok (.ifCond .eq 61, 3) := by decide +kernel
theorem dX8_isRead_93 : decode cX8_isRead 93 = .ok (.aload_n 0, 1) := by decide +kernel
theorem dX8_isRead_94 : decode cX8_isRead 94 = .ok (.iconst 4, 1) := by decide +kernel
theorem dX8_isRead_95 : decode cX8_isRead 95 = .ok (.aload_n 0, 1) := by decide +kernel
theorem dX8_isRead_96 : decode cX8_isRead 96 = .ok (.getfield 164, 3) := by decide +kernel
theorem dX8_isRead_99 : decode cX8_isRead 99 = .ok (.imul, 1) := by decide +kernel
theorem dX8_isRead_100 : decode cX8_isRead 100 = .ok (.invokevirtual 170, 3) := by decide +kernel
theorem dX8_isRead_103 : decode cX8_isRead 103 = .ok (.ifCond .ne 5, 3) := by decide +kernel
theorem dX8_isRead_106 : decode cX8_isRead 106 = .ok (.iconst 0, 1) := by decide +kernel
theorem dX8_isRead_107 : decode cX8_isRead 107 = .ok (.ireturn, 1) := by decide +kernel
theorem dX8_isRead_108 : decode cX8_isRead 108 = .ok (.aload_n 0, 1) := by decide +kernel
theorem dX8_isRead_109 : decode cX8_isRead 109 = .ok (.dup, 1) := by decide +kernel
theorem dX8_isRead_110 : decode cX8_isRead 110 = .ok (.getfield 164, 3) := by decide +kernel
theorem dX8_isRead_113 : decode cX8_isRead 113 = .ok (.iconst 1, 1) := by decide +kernel
theorem dX8_isRead_114 : decode cX8_isRead 114 = .ok (.iadd, 1) := by decide +kernel
theorem dX8_isRead_115 : decode cX8_isRead 115 = .ok (.putfield 164, 3) := by decide +kernel
theorem dX8_isRead_118 : decode cX8_isRead 118 = .ok (.aload_n 0, 1) := by decide +kernel
theorem dX8_isRead_119 : decode cX8_isRead 119 = .ok (.invokevirtual 107, 3) := by decide +kernel
theorem dX8_isRead_122 : decode cX8_isRead 122 = .ok (.aload_n 0, 1) := by decide +kernel
theorem dX8_isRead_123 : decode cX8_isRead 123 = .ok (.getfield 90, 3) := by decide +kernel
theorem dX8_isRead_126 : decode cX8_isRead 126 = .ok (.ldc2_w 102, 3) := by decide +kernel
theorem dX8_isRead_129 : decode cX8_isRead 129 = .ok (.lcmp, 1) := by decide +kernel
theorem dX8_isRead_130 : decode cX8_isRead 130 = .ok (.ifCond .ne 16, 3) := by decide +kernel
theorem dX8_isRead_133 : decode cX8_isRead 133 = .ok (.aload_n 0, 1) := by decide +kernel
theorem dX8_isRead_134 : decode cX8_isRead 134 = .ok (.getfield 164, 3) := by decide +kernel
theorem dX8_isRead_137 : decode cX8_isRead 137 = .ok (.bipush 12, 2) := by decide +kernel
theorem dX8_isRead_139 : decode cX8_isRead 139 = .ok (.if_icmp .ge 7, 3) := by decide +kernel
theorem dX8_isRead_142 : decode cX8_isRead 142 = .ok (.iconst 1, 1) := by decide +kernel
theorem dX8_isRead_143 : decode cX8_isRead 143 = .ok (.goto 4, 3) := by decide +kernel
theorem dX8_isRead_146 : decode cX8_isRead 146 = .ok (.iconst 0, 1) := by decide +kernel
theorem dX8_isRead_147 : decode cX8_isRead 147 = .ok (.istore_n 1, 1) := by decide +kernel
theorem dX8_isRead_148 : decode cX8_isRead 148 = .ok (.goto (-59), 3) := by decide +kernel
theorem dX8_isRead_151 : decode cX8_isRead 151 = .ok (.aload_n 0, 1) := by decide +kernel
theorem dX8_isRead_152 : decode cX8_isRead 152 = .ok (.getfield 90, 3) := by decide +kernel
theorem dX8_isRead_155 : decode cX8_isRead 155 = .ok (.ldc2_w 88, 3) := by decide +kernel
theorem dX8_isRead_158 : decode cX8_isRead 158 = .ok (.lcmp, 1) := by decide +kernel
theorem dX8_isRead_159 : decode cX8_isRead 159 = .ok (.ifCond .eq 10, 3) := by decide +kernel
theorem dX8_isRead_162 : decode cX8_isRead 162 = .ok (.aload_n 0, 1) := by decide +kernel
theorem dX8_isRead_163 : decode cX8_isRead 163 = .ok (.invokevirtual 110, 3) := by decide +kernel
theorem dX8_isRead_166 : decode cX8_isRead 166 = .ok (.ifCond .eq 7, 3) := by decide +kernel
theorem dX8_isRead_169 : decode cX8_isRead 169 = .ok (.iconst 1, 1) := by decide +kernel
theorem dX8_isRead_170 : decode cX8_isRead 170 = .ok (.goto 4, 3) := by decide +kernel
theorem dX8_isRead_173 : decode cX8_isRead 173 = .ok (.iconst 0, 1) := by decide +kernel
theorem dX8_isRead_174 : decode cX8_isRead 174 = .ok (.ireturn, 1) := by decide +kernel
set_option maxRecDepth 20000 in
theorem ggX8_fault_X8_isRead : GoodIn wsX8_fault wsX8_isRead := goodIn_r _ [6, 7, 8, 9, 10, 11, 12, 13, 14, 15, 16, 17, 18, 19, 20, 21, 22, 23, 24, 5, 25, 26, 27, 28, 29, 30, 31, 32, 33, 34, 35, 36, 37, 38, 39, 40, 41, 42, 43, 44, 45, 46, 47, 48, 49, 50, 51, 52, 53, 54, 55, 56, 57, 58, 59, 60, 1, 61, 62, 63, 64, 65, 66, 67, 68, 69, 70, 71, 72, 73, 74, 75, 76, 77, 78, 79, 80, 81, 82, 83, 84, 85, 86, 87, 88, 89, 90, 91, 92, 93, 94, 95, 96, 97, 98, 99, 100, 101, 102, 103, 104, 105, 106, 107, 108, 109, 110, 111, 112] (by decide +kernel) (by decide +kernel)
set_option maxRecDepth 20000 in
theorem gX8_fault_X8_isRead : GoodIn wsX8_fault (wsV RX8 173 RX8 yX8_isRead wsX8_isRead) := goodIn_app (goodIn_of _ (by decide +kernel)) ggX8_fault_X8_isRead
theorem dX8_fault_0 : decode cX8_fault 0 = .ok (.aload_n 0, 1) := by decide +kernel
theorem dX8_fault_1 : decode cX8_fault 1 = .ok (.invokevirtual 173, 3) := by decide +kernel
theorem dX8_fault_4 : decode cX8_fault 4 = .ok (.ifCond .eq 7, 3) := by decide +kernel
theorem dX8_fault_7 : decode cX8_fault 7 = .ok (.iconst (-1), 1) := by decide +kernel
theorem dX8_fault_8 : decode cX8_fault 8 = .ok (.goto 7, 3) := by decide +kernel
theorem dX8_fault_11 : decode cX8_fault 11 = .ok (.aload_n 0, 1) := by decide +kernel
theorem dX8_fault_12 : decode cX8_fault 12 = .ok (.getfield 104, 3) := by decide +kernel
theorem dX8_fault_15 : decode cX8_fault 15 = .ok (.ireturn, 1) := by decide +kernel
theorem dX8_doLine_0 : decode cX8_doLine 0 = .ok (.aload_n 0, 1) := by decide +kernel
theorem dX8_doLine_1 : decode cX8_doLine 1 = .ok (.getfield 29, 3) := by decide +kernel
theorem dX8_doLine_4 : decode cX8_doLine 4 = .ok (.iload_n 1, 1) := by decide +kernel
theorem dX8_doLine_5 : decode cX8_doLine 5 = .ok (.iaload, 1) := by decide +kernel
theorem dX8_doLine_6 : decode cX8_doLine 6 = .ok (.tableswitch 125 4 9 #[38, 38, 38, 53, 61, 103], 38) := by decide +kernel
theorem dX8_doLine_44 : decode cX8_doLine 44 = .ok (.aload_n 0, 1) := by decide +kernel
theorem dX8_doLine_45 : decode cX8_doLine 45 = .ok (.aload_n 0, 1) := by decide +kernel
theorem dX8_doLine_46 : decode cX8_doLine 46 = .ok (.getfield 29, 3) := by decide +kernel
theorem dX8_doLine_49 : decode cX8_doLine 49 = .ok (.iload_n 1, 1) := by decide +kernel
theorem dX8_doLine_50 : decode cX8_doLine 50 = .ok (.iaload, 1) := by decide +kernel
theorem dX8_doLine_51 : decode cX8_doLine 51 = .ok (.iconst 4, 1) := by decide +kernel
theorem dX8_doLine_52 : decode cX8_doLine 52 = .ok (.isub, 1) := by decide +kernel
theorem dX8_doLine_53 : decode cX8_doLine 53 = .ok (.putfield 176, 3) := by decide +kernel
theorem dX8_doLine_56 : decode cX8_doLine 56 = .ok (.goto 119, 3) := by decide +kernel
theorem dX8_doLine_59 : decode cX8_doLine 59 = .ok (.aload_n 0, 1) := by decide +kernel
theorem dX8_doLine_60 : decode cX8_doLine 60 = .ok (.iconst 0, 1) := by decide +kernel
theorem dX8_doLine_61 : decode cX8_doLine 61 = .ok (.putfield 68, 3) := by decide +kernel
theorem dX8_doLine_64 : decode cX8_doLine 64 = .ok (.goto 111, 3) := by decide +kernel
theorem dX8_doLine_67 : decode cX8_doLine 67 = .ok (.aload_n 0, 1) := by decide +kernel
theorem dX8_doLine_68 : decode cX8_doLine 68 = .ok (.aload_n 0, 1) := by decide +kernel
theorem dX8_doLine_69 : decode cX8_doLine 69 = .ok (.getfield 29, 3) := by decide +kernel
theorem dX8_doLine_72 : decode cX8_doLine 72 = .ok (.iload_n 1, 1) := by decide +kernel
theorem dX8_doLine_73 : decode cX8_doLine 73 = .ok (.iconst 1, 1) := by decide +kernel
theorem dX8_doLine_74 : decode cX8_doLine 74 = .ok (.iadd, 1) := by decide +kernel
theorem dX8_doLine_75 : decode cX8_doLine 75 = .ok (.iaload, 1) := by decide +kernel
theorem dX8_doLine_76 : decode cX8_doLine 76 = .ok (.putfield 7, 3) := by decide +kernel
theorem dX8_doLine_79 : decode cX8_doLine 79 = .ok (.aload_n 0, 1) := by decide +kernel
theorem dX8_doLine_80 : decode cX8_doLine 80 = .ok (.aload_n 0, 1) := by decide +kernel
theorem dX8_doLine_81 : decode cX8_doLine 81 = .ok (.getfield 29, 3) := by decide +kernel
theorem dX8_doLine_84 : decode cX8_doLine 84 = .ok (.iload_n 1, 1) := by decide +kernel
theorem dX8_doLine_85 : decode cX8_doLine 85 = .ok (.iconst 2, 1) := by decide +kernel
theorem dX8_doLine_86 : decode cX8_doLine 86 = .ok (.iadd, 1) := by decide +kernel
theorem dX8_doLine_87 : decode cX8_doLine 87 = .ok (.iaload, 1) := by decide +kernel
theorem dX8_doLine_88 : decode cX8_doLine 88 = .ok (.putfield 13, 3) := by decide +kernel
theorem dX8_doLine_91 : decode cX8_doLine 91 = .ok (.aload_n 0, 1) := by decide +kernel
theorem dX8_doLine_92 : decode cX8_doLine 92 = .ok (.iconst 0, 1) := by decide +kernel
theorem dX8_doLine_93 : decode cX8_doLine 93 = .ok (.putfield 167, 3) := by decide +kernel
theorem dX8_doLine_96 : decode cX8_doLine 96 = .ok (.aload_n 0, 1) := by decide +kernel
theorem dX8_doLine_97 : decode cX8_doLine 97 = .ok (.iconst 0, 1) := by decide +kernel
theorem dX8_doLine_98 : decode cX8_doLine 98 = .ok (.putfield 68, 3) := by decide +kernel
theorem dX8_doLine_101 : decode cX8_doLine 101 = .ok (.aload_n 0, 1) := by decide +kernel
theorem dX8_doLine_102 : decode cX8_doLine 102 = .ok (.iconst 0, 1) := by decide +kernel
theorem dX8_doLine_103 : decode cX8_doLine 103 = .ok (.putfield 176, 3) := by decide +kernel
theorem dX8_doLine_106 : decode cX8_doLine 106 = .ok (.goto 69, 3) := by decide +kernel
theorem dX8_doLine_109 : decode cX8_doLine 109 = .ok (.aload_n 0, 1) := by decide +kernel
theorem dX8_doLine_110 : decode cX8_doLine 110 = .ok (.aload_n 0, 1) := by decide +kernel
theorem dX8_doLine_111 : decode cX8_doLine 111 = .ok (.getfield 167, 3) := by decide +kernel
theorem dX8_doLine_114 : decode cX8_doLine 114 = .ok (.iconst 1, 1) := by decide +kernel
theorem dX8_doLine_115 : decode cX8_doLine 115 = .ok (.aload_n 0, 1) := by decide +kernel
theorem dX8_doLine_116 : decode cX8_doLine 116 = .ok (.getfield 29, 3) := by decide +kernel
theorem dX8_doLine_119 : decode cX8_doLine 119 = .ok (.iload_n 1, 1) := by decide +kernel
theorem dX8_doLine_120 : decode cX8_doLine 120 = .ok (.iconst 1, 1) := by decide +kernel
theorem dX8_doLine_121 : decode cX8_doLine 121 = .ok (.iadd, 1) := by decide +kernel
theorem dX8_doLine_122 : decode cX8_doLine 122 = .ok (.iaload, 1) := by decide +kernel
theorem dX8_doLine_123 : decode cX8_doLine 123 = .ok (.ishl, 1) := by decide +kernel
theorem dX8_doLine_124 : decode cX8_doLine 124 = .ok (.ior, 1) := by decide +kernel
theorem dX8_doLine_125 : decode cX8_doLine 125 = .ok (.putfield 167, 3) := by decide +kernel
theorem dX8_doLine_128 : decode cX8_doLine 128 = .ok (.goto 47, 3) := by decide +kernel
theorem dX8_doLine_131 : decode cX8_doLine 131 = .ok (.iconst 0, 1) := by decide +kernel
theorem dX8_doLine_132 : decode cX8_doLine 132 = .ok (.istore_n 2, 1) := by decide +kernel
theorem dX8_doLine_133 : decode cX8_doLine 133 = .ok (.iload_n 2, 1) := by decide +kernel
theorem dX8_doLine_134 : decode cX8_doLine 134 = .ok (.iconst 4, 1) := by decide +kernel
theorem dX8_doLine_135 : decode cX8_doLine 135 = .ok (.if_icmp .ge 30, 3) := by decide +kernel
theorem dX8_doLine_138 : decode cX8_doLine 138 = .ok (.aload_n 0, 1) := by decide +kernel
theorem dX8_doLine_139 : decode cX8_doLine 139 = .ok (.getfield 16, 3) := by decide +kernel
theorem dX8_doLine_142 : decode cX8_doLine 142 = .ok (.iconst 4, 1) := by decide +kernel
theorem dX8_doLine_143 : decode cX8_doLine 143 = .ok (.aload_n 0, 1) := by decide +kernel
theorem dX8_doLine_144 : decode cX8_doLine 144 = .ok (.getfield 68, 3) := by decide +kernel
theorem dX8_doLine_147 : decode cX8_doLine 147 = .ok (.imul, 1) := by decide +kernel
theorem dX8_doLine_148 : decode cX8_doLine 148 = .ok (.iload_n 2, 1) := by decide +kernel
theorem dX8_doLine_149 : decode cX8_doLine 149 = .ok (.iadd, 1) := by decide +kernel
theorem dX8_doLine_150 : decode cX8_doLine 150 = .ok (.aload_n 0, 1) := by decide +kernel
theorem dX8_doLine_151 : decode cX8_doLine 151 = .ok (.getfield 29, 3) := by decide +kernel
theorem dX8_doLine_154 : decode cX8_doLine 154 = .ok (.iload_n 1, 1) := by decide +kernel
theorem dX8_doLine_155 : decode cX8_doLine 155 = .ok (.iload_n 2, 1) := by decide +kernel
theorem dX8_doLine_156 : decode cX8_doLine 156 = .ok (.iadd, 1) := by decide +kernel
theorem dX8_doLine_157 : decode cX8_doLine 157 = .ok (.iaload, 1) := by decide +kernel
theorem dX8_doLine_158 : decode cX8_doLine 158 = .ok (.iastore, 1) := by decide +kernel
theorem dX8_doLine_159 : decode cX8_doLine 159 = .ok (.iinc 2 1, 3) := by decide +kernel
theorem dX8_doLine_162 : decode cX8_doLine 162 = .ok (.goto (-29), 3) := by decide +kernel
theorem dX8_doLine_165 : decode cX8_doLine 165 = .ok (.aload_n 0, 1) := by decide +kernel
theorem dX8_doLine_166 : decode cX8_doLine 166 = .ok (.dup, 1) := by decide +kernel
theorem dX8_doLine_167 : decode cX8_doLine 167 = .ok (.getfield 68, 3) := by decide +kernel
theorem dX8_doLine_170 : decode cX8_doLine 170 = .ok (.iconst 1, 1) := by decide +kernel
theorem dX8_doLine_171 : decode cX8_doLine 171 = .ok (.iadd, 1) := by decide +kernel
theorem dX8_doLine_172 : decode cX8_doLine 172 = .ok (.putfield 68, 3) := by decide +kernel
theorem dX8_doLine_175 : decode cX8_doLine 175 = .ok (.return_, 1) := by decide +kernel
set_option maxRecDepth 20000 in
theorem ggX8_board_X8_isRead : GoodIn wsX8_board wsX8_isRead := goodIn_r _ [13, 14, 1, 15, 16, 17, 18, 19, 3, 20, 21, 5, 22, 23, 24, 25, 26, 27, 28, 12, 29, 30, 31, 32, 33, 34, 35, 36, 37, 38, 39, 40, 41, 42, 43, 44, 2, 45, 46, 47, 48, 49, 50, 51, 52, 53, 54, 55, 56, 57, 58, 59, 60, 61, 62, 63, 64, 65, 66, 67, 68, 69, 70, 71, 72, 73, 74, 75, 76, 77, 78, 79, 80, 81, 82, 88, 89, 90, 91, 92, 93, 94, 95, 96, 97, 98, 99, 100, 101, 102, 103, 104, 105, 106, 107, 108, 109, 110, 111, 112, 113, 114, 115, 116, 117, 118, 119, 120, 121] (by decide +kernel) (by decide +kernel)
set_option maxRecDepth 20000 in
theorem gX8_board_X8_isRead : GoodIn wsX8_board (wsV RX8 173 RX8 yX8_isRead wsX8_isRead) := goodIn_app (goodIn_of _ (by decide +kernel)) ggX8_board_X8_isRead
set_option maxRecDepth 20000 in
theorem ggX8_board_X8_doLine : GoodIn wsX8_board wsX8_doLine := goodIn_r _ [86, 40, 87, 3, 15, 16, 18, 5, 88, 89, 90, 91, 92, 93, 94, 95, 96, 97, 98, 99, 100, 101, 102, 103, 104, 105, 106, 107, 108, 109, 110, 111, 112, 113, 114, 115, 116, 117, 118, 119, 120, 121] (by decide +kernel) (by decide +kernel)
set_option maxRecDepth 20000 in
theorem gX8_board_X8_doLine : GoodIn wsX8_board (wsV RX8 179 RX8 yX8_doLine wsX8_doLine) := goodIn_app (goodIn_of _ (by decide +kernel)) ggX8_board_X8_doLine
theorem dX8_board_0 : decode cX8_board 0 = .ok (.aload_n 0, 1) := by decide +kernel
theorem dX8_board_1 : decode cX8_board 1 = .ok (.invokevirtual 173, 3) := by decide +kernel
theorem dX8_board_4 : decode cX8_board 4 = .ok (.ifCond .ne 6, 3) := by decide +kernel
theorem dX8_board_7 : decode cX8_board 7 = .ok (.bipush (-4), 2) := by decide +kernel
theorem dX8_board_9 : decode cX8_board 9 = .ok (.ireturn, 1) := by decide +kernel
theorem dX8_board_10 : decode cX8_board 10 = .ok (.iconst 0, 1) := by decide +kernel
theorem dX8_board_11 : decode cX8_board 11 = .ok (.istore_n 1, 1) := by decide +kernel
theorem dX8_board_12 : decode cX8_board 12 = .ok (.iload_n 1, 1) := by decide +kernel
theorem dX8_board_13 : decode cX8_board 13 = .ok (.aload_n 0, 1) := by decide +kernel
theorem dX8_board_14 : decode cX8_board 14 = .ok (.getfield 164, 3) := by decide +kernel
theorem dX8_board_17 : decode cX8_board 17 = .ok (.if_icmp .ge 16, 3) := by decide +kernel
theorem dX8_board_20 : decode cX8_board 20 = .ok (.aload_n 0, 1) := by decide +kernel
theorem dX8_board_21 : decode cX8_board 21 = .ok (.iconst 4, 1) := by decide +kernel
theorem dX8_board_22 : decode cX8_board 22 = .ok (.iload_n 1, 1) := by decide +kernel
theorem dX8_board_23 : decode cX8_board 23 = .ok (.imul, 1) := by decide +kernel
theorem dX8_board_24 : decode cX8_board 24 = .ok (.invokevirtual 179, 3) := by decide +kernel
theorem dX8_board_27 : decode cX8_board 27 = .ok (.iinc 1 1, 3) := by decide +kernel
theorem dX8_board_30 : decode cX8_board 30 = .ok (.goto (-18), 3) := by decide +kernel
theorem dX8_board_33 : decode cX8_board 33 = .ok (.aload_n 0, 1) := by decide +kernel
theorem dX8_board_34 : decode cX8_board 34 = .ok (.iconst 0, 1) := by decide +kernel
theorem dX8_board_35 : decode cX8_board 35 = .ok (.putfield 71, 3) := by decide +kernel
theorem dX8_board_38 : decode cX8_board 38 = .ok (.iconst 0, 1) := by decide +kernel
theorem dX8_board_39 : decode cX8_board 39 = .ok (.istore_n 1, 1) := by decide +kernel
theorem dX8_board_40 : decode cX8_board 40 = .ok (.iload_n 1, 1) := by decide +kernel
theorem dX8_board_41 : decode cX8_board 41 = .ok (.aload_n 0, 1) := by decide +kernel
theorem dX8_board_42 : decode cX8_board 42 = .ok (.getfield 68, 3) := by decide +kernel
theorem dX8_board_45 : decode cX8_board 45 = .ok (.if_icmp .ge 25, 3) := by decide +kernel
theorem dX8_board_48 : decode cX8_board 48 = .ok (.aload_n 0, 1) := by decide +kernel
theorem dX8_board_49 : decode cX8_board 49 = .ok (.getfield 32, 3) := by decide +kernel
theorem dX8_board_52 : decode cX8_board 52 = .ok (.iload_n 1, 1) := by decide +kernel
theorem dX8_board_53 : decode cX8_board 53 = .ok (.aload_n 0, 1) := by decide +kernel
theorem dX8_board_54 : decode cX8_board 54 = .ok (.getfield 16, 3) := by decide +kernel
theorem dX8_board_57 : decode cX8_board 57 = .ok (.iconst 4, 1) := by decide +kernel
theorem dX8_board_58 : decode cX8_board 58 = .ok (.iload_n 1, 1) := by decide +kernel
theorem dX8_board_59 : decode cX8_board 59 = .ok (.imul, 1) := by decide +kernel
theorem dX8_board_60 : decode cX8_board 60 = .ok (.iconst 2, 1) := by decide +kernel
theorem dX8_board_61 : decode cX8_board 61 = .ok (.iadd, 1) := by decide +kernel
theorem dX8_board_62 : decode cX8_board 62 = .ok (.iaload, 1) := by decide +kernel
theorem dX8_board_63 : decode cX8_board 63 = .ok (.iastore, 1) := by decide +kernel
theorem dX8_board_64 : decode cX8_board 64 = .ok (.iinc 1 1, 3) := by decide +kernel
theorem dX8_board_67 : decode cX8_board 67 = .ok (.goto (-27), 3) := by decide +kernel
theorem dX8_board_70 : decode cX8_board 70 = .ok (.aload_n 0, 1) := by decide +kernel
theorem dX8_board_71 : decode cX8_board 71 = .ok (.iconst 0, 1) := by decide +kernel
theorem dX8_board_72 : decode cX8_board 72 = .ok (.putfield 183, 3) := by decide +kernel
theorem dX8_board_75 : decode cX8_board 75 = .ok (.aload_n 0, 1) := by decide +kernel
theorem dX8_board_76 : decode cX8_board 76 = .ok (.iconst 0, 1) := by decide +kernel
theorem dX8_board_77 : decode cX8_board 77 = .ok (.putfield 186, 3) := by decide +kernel
theorem dX8_board_80 : decode cX8_board 80 = .ok (.aload_n 0, 1) := by decide +kernel
theorem dX8_board_81 : decode cX8_board 81 = .ok (.getfield 38, 3) := by decide +kernel
theorem dX8_board_84 : decode cX8_board 84 = .ok (.iconst 0, 1) := by decide +kernel
theorem dX8_board_85 : decode cX8_board 85 = .ok (.iconst 0, 1) := by decide +kernel
theorem dX8_board_86 : decode cX8_board 86 = .ok (.bastore, 1) := by decide +kernel
theorem dX8_board_87 : decode cX8_board 87 = .ok (.aload_n 0, 1) := by decide +kernel
theorem dX8_board_88 : decode cX8_board 88 = .ok (.getfield 38, 3) := by decide +kernel
theorem dX8_board_91 : decode cX8_board 91 = .ok (.iconst 1, 1) := by decide +kernel
theorem dX8_board_92 : decode cX8_board 92 = .ok (.iconst 0, 1) := by decide +kernel
theorem dX8_board_93 : decode cX8_board 93 = .ok (.bastore, 1) := by decide +kernel
theorem dX8_board_94 : decode cX8_board 94 = .ok (.aload_n 0, 1) := by decide +kernel
theorem dX8_board_95 : decode cX8_board 95 = .ok (.getfield 164, 3) := by decide +kernel
theorem dX8_board_98 : decode cX8_board 98 = .ok (.ireturn, 1) := by decide +kernel
set_option maxRecDepth 20000 in
theorem ggX8_square_X8_isSquare : GoodIn wsX8_square wsX8_isSquare := goodIn_r _ [9, 10, 11, 12, 13, 8, 14, 15, 16, 17, 18, 19, 20, 21, 22, 23, 24, 25, 26, 27, 28, 29, 30, 31, 32, 33, 34, 35, 36, 37, 38, 39, 40, 41, 42, 43, 44, 45, 46, 47, 48] (by decide +kernel) (by decide +kernel)
set_option maxRecDepth 20000 in
theorem gX8_square_X8_isSquare : GoodIn wsX8_square (wsV RX8 189 RX8 yX8_isSquare wsX8_isSquare) := goodIn_app (goodIn_of _ (by decide +kernel)) ggX8_square_X8_isSquare
theorem dX8_square_0 : decode cX8_square 0 = .ok (.aload_n 0, 1) := by decide +kernel
theorem dX8_square_1 : decode cX8_square 1 = .ok (.iload_n 1, 1) := by decide +kernel
theorem dX8_square_2 : decode cX8_square 2 = .ok (.invokevirtual 189, 3) := by decide +kernel
theorem dX8_square_5 : decode cX8_square 5 = .ok (.ifCond .ne 6, 3) := by decide +kernel
theorem dX8_square_8 : decode cX8_square 8 = .ok (.bipush (-2), 2) := by decide +kernel
theorem dX8_square_10 : decode cX8_square 10 = .ok (.ireturn, 1) := by decide +kernel
theorem dX8_square_11 : decode cX8_square 11 = .ok (.iconst (-1), 1) := by decide +kernel
theorem dX8_square_12 : decode cX8_square 12 = .ok (.istore_n 3, 1) := by decide +kernel
theorem dX8_square_13 : decode cX8_square 13 = .ok (.iconst (-1), 1) := by decide +kernel
theorem dX8_square_14 : decode cX8_square 14 = .ok (.istore 4, 2) := by decide +kernel
theorem dX8_square_16 : decode cX8_square 16 = .ok (.iconst 0, 1) := by decide +kernel
theorem dX8_square_17 : decode cX8_square 17 = .ok (.istore 5, 2) := by decide +kernel
theorem dX8_square_19 : decode cX8_square 19 = .ok (.iload 5, 2) := by decide +kernel
theorem dX8_square_21 : decode cX8_square 21 = .ok (.aload_n 0, 1) := by decide +kernel
theorem dX8_square_22 : decode cX8_square 22 = .ok (.getfield 68, 3) := by decide +kernel
theorem dX8_square_25 : decode cX8_square 25 = .ok (.if_icmp .ge 51, 3) := by decide +kernel
theorem dX8_square_28 : decode cX8_square 28 = .ok (.aload_n 0, 1) := by decide +kernel
theorem dX8_square_29 : decode cX8_square 29 = .ok (.getfield 32, 3) := by decide +kernel
theorem dX8_square_32 : decode cX8_square 32 = .ok (.iload 5, 2) := by decide +kernel
theorem dX8_square_34 : decode cX8_square 34 = .ok (.iaload, 1) := by decide +kernel
theorem dX8_square_35 : decode cX8_square 35 = .ok (.iload_n 1, 1) := by decide +kernel
theorem dX8_square_36 : decode cX8_square 36 = .ok (.if_icmp .ne 8, 3) := by decide +kernel
theorem dX8_square_39 : decode cX8_square 39 = .ok (.iload 5, 2) := by decide +kernel
theorem dX8_square_41 : decode cX8_square 41 = .ok (.goto 4, 3) := by decide +kernel
theorem dX8_square_44 : decode cX8_square 44 = .ok (.iload_n 3, 1) := by decide +kernel
theorem dX8_square_45 : decode cX8_square 45 = .ok (.istore_n 3, 1) := by decide +kernel
theorem dX8_square_46 : decode cX8_square 46 = .ok (.aload_n 0, 1) := by decide +kernel
theorem dX8_square_47 : decode cX8_square 47 = .ok (.getfield 16, 3) := by decide +kernel
theorem dX8_square_50 : decode cX8_square 50 = .ok (.iconst 4, 1) := by decide +kernel
theorem dX8_square_51 : decode cX8_square 51 = .ok (.iload 5, 2) := by decide +kernel
theorem dX8_square_53 : decode cX8_square 53 = .ok (.imul, 1) := by decide +kernel
theorem dX8_square_54 : decode cX8_square 54 = .ok (.iconst 3, 1) := by decide +kernel
theorem dX8_square_55 : decode cX8_square 55 = .ok (.iadd, 1) := by decide +kernel
theorem dX8_square_56 : decode cX8_square 56 = .ok (.iaload, 1) := by decide +kernel
theorem dX8_square_57 : decode cX8_square 57 = .ok (.iload_n 1, 1) := by decide +kernel
theorem dX8_square_58 : decode cX8_square 58 = .ok (.if_icmp .ne 8, 3) := by decide +kernel
theorem dX8_square_61 : decode cX8_square 61 = .ok (.iload 5, 2) := by decide +kernel
theorem dX8_square_63 : decode cX8_square 63 = .ok (.goto 5, 3) := by decide +kernel
theorem dX8_square_66 : decode cX8_square 66 = .ok (.iload 4, 2) := by decide +kernel
theorem dX8_square_68 : decode cX8_square 68 = .ok (.istore 4, 2) := by decide +kernel
theorem dX8_square_70 : decode cX8_square 70 = .ok (.iinc 5 1, 3) := by decide +kernel
theorem dX8_square_73 : decode cX8_square 73 = .ok (.goto (-54), 3) := by decide +kernel
theorem dX8_square_76 : decode cX8_square 76 = .ok (.iload_n 2, 1) := by decide +kernel
theorem dX8_square_77 : decode cX8_square 77 = .ok (.ifCond .ne 14, 3) := by decide +kernel
theorem dX8_square_80 : decode cX8_square 80 = .ok (.aload_n 0, 1) := by decide +kernel
theorem dX8_square_81 : decode cX8_square 81 = .ok (.getfield 167, 3) := by decide +kernel
theorem dX8_square_84 : decode cX8_square 84 = .ok (.iload_n 1, 1) := by decide +kernel
theorem dX8_square_85 : decode cX8_square 85 = .ok (.ishr, 1) := by decide +kernel
theorem dX8_square_86 : decode cX8_square 86 = .ok (.iconst 1, 1) := by decide +kernel
theorem dX8_square_87 : decode cX8_square 87 = .ok (.iand, 1) := by decide +kernel
theorem dX8_square_88 : decode cX8_square 88 = .ok (.goto 24, 3) := by decide +kernel
theorem dX8_square_91 : decode cX8_square 91 = .ok (.iload_n 2, 1) := by decide +kernel
theorem dX8_square_92 : decode cX8_square 92 = .ok (.iconst 1, 1) := by decide +kernel
theorem dX8_square_93 : decode cX8_square 93 = .ok (.if_icmp .ne 7, 3) := by decide +kernel
theorem dX8_square_96 : decode cX8_square 96 = .ok (.iload_n 3, 1) := by decide +kernel
theorem dX8_square_97 : decode cX8_square 97 = .ok (.goto 15, 3) := by decide +kernel
theorem dX8_square_100 : decode cX8_square 100 = .ok (.iload_n 2, 1) := by decide +kernel
theorem dX8_square_101 : decode cX8_square 101 = .ok (.iconst 2, 1) := by decide +kernel
theorem dX8_square_102 : decode cX8_square 102 = .ok (.if_icmp .ne 8, 3) := by decide +kernel
theorem dX8_square_105 : decode cX8_square 105 = .ok (.iload 4, 2) := by decide +kernel
theorem dX8_square_107 : decode cX8_square 107 = .ok (.goto 5, 3) := by decide +kernel
theorem dX8_square_110 : decode cX8_square 110 = .ok (.bipush (-3), 2) := by decide +kernel
theorem dX8_square_112 : decode cX8_square 112 = .ok (.ireturn, 1) := by decide +kernel
set_option maxRecDepth 20000 in
theorem ggX8_man_X8_isMan : GoodIn wsX8_man wsX8_isMan := goodIn_r _ [7, 8, 9, 10, 6, 11, 12, 13, 14, 15, 16, 17, 18, 19, 20, 21, 22, 23, 24, 25, 26, 27, 28, 29, 30, 31, 32, 33, 34, 35, 36, 37, 38, 39, 40, 41, 42, 43, 44, 45] (by decide +kernel) (by decide +kernel)
set_option maxRecDepth 20000 in
theorem gX8_man_X8_isMan : GoodIn wsX8_man (wsV RX8 192 RX8 yX8_isMan wsX8_isMan) := goodIn_app (goodIn_of _ (by decide +kernel)) ggX8_man_X8_isMan
set_option maxRecDepth 20000 in
theorem ggX8_man_X8_in : GoodIn wsX8_man wsX8_in := goodIn_r _ [11] (by decide +kernel) (by decide +kernel)
set_option maxRecDepth 20000 in
theorem gX8_man_X8_in : GoodIn wsX8_man (va_wsS RX8 64 yX8_in wsX8_in) := goodIn_app (goodIn_of _ (by decide +kernel)) ggX8_man_X8_in
theorem dX8_man_0 : decode cX8_man 0 = .ok (.aload_n 0, 1) := by decide +kernel
theorem dX8_man_1 : decode cX8_man 1 = .ok (.iload_n 1, 1) := by decide +kernel
theorem dX8_man_2 : decode cX8_man 2 = .ok (.invokevirtual 192, 3) := by decide +kernel
theorem dX8_man_5 : decode cX8_man 5 = .ok (.ifCond .ne 6, 3) := by decide +kernel
theorem dX8_man_8 : decode cX8_man 8 = .ok (.bipush (-2), 2) := by decide +kernel
theorem dX8_man_10 : decode cX8_man 10 = .ok (.ireturn, 1) := by decide +kernel
theorem dX8_man_11 : decode cX8_man 11 = .ok (.iload_n 2, 1) := by decide +kernel
theorem dX8_man_12 : decode cX8_man 12 = .ok (.iconst 0, 1) := by decide +kernel
theorem dX8_man_13 : decode cX8_man 13 = .ok (.iconst 3, 1) := by decide +kernel
theorem dX8_man_14 : decode cX8_man 14 = .ok (.invokestatic 64, 3) := by decide +kernel
theorem dX8_man_17 : decode cX8_man 17 = .ok (.ifCond .ne 8, 3) := by decide +kernel
theorem dX8_man_20 : decode cX8_man 20 = .ok (.bipush (-3), 2) := by decide +kernel
theorem dX8_man_22 : decode cX8_man 22 = .ok (.goto 27, 3) := by decide +kernel
theorem dX8_man_25 : decode cX8_man 25 = .ok (.iload_n 2, 1) := by decide +kernel
theorem dX8_man_26 : decode cX8_man 26 = .ok (.iconst 2, 1) := by decide +kernel
theorem dX8_man_27 : decode cX8_man 27 = .ok (.if_icmp .ne 12, 3) := by decide +kernel
theorem dX8_man_30 : decode cX8_man 30 = .ok (.aload_n 0, 1) := by decide +kernel
theorem dX8_man_31 : decode cX8_man 31 = .ok (.getfield 32, 3) := by decide +kernel
theorem dX8_man_34 : decode cX8_man 34 = .ok (.iload_n 1, 1) := by decide +kernel
theorem dX8_man_35 : decode cX8_man 35 = .ok (.iaload, 1) := by decide +kernel
theorem dX8_man_36 : decode cX8_man 36 = .ok (.goto 13, 3) := by decide +kernel
theorem dX8_man_39 : decode cX8_man 39 = .ok (.aload_n 0, 1) := by decide +kernel
theorem dX8_man_40 : decode cX8_man 40 = .ok (.getfield 16, 3) := by decide +kernel
theorem dX8_man_43 : decode cX8_man 43 = .ok (.iconst 4, 1) := by decide +kernel
theorem dX8_man_44 : decode cX8_man 44 = .ok (.iload_n 1, 1) := by decide +kernel
theorem dX8_man_45 : decode cX8_man 45 = .ok (.imul, 1) := by decide +kernel
theorem dX8_man_46 : decode cX8_man 46 = .ok (.iload_n 2, 1) := by decide +kernel
theorem dX8_man_47 : decode cX8_man 47 = .ok (.iadd, 1) := by decide +kernel
theorem dX8_man_48 : decode cX8_man 48 = .ok (.iaload, 1) := by decide +kernel
theorem dX8_man_49 : decode cX8_man 49 = .ok (.ireturn, 1) := by decide +kernel
set_option maxRecDepth 20000 in
theorem ggX8_isOn_X8_in : GoodIn wsX8_isOn wsX8_in := goodIn_r _ [7] (by decide +kernel) (by decide +kernel)
set_option maxRecDepth 20000 in
theorem gX8_isOn_X8_in : GoodIn wsX8_isOn (va_wsS RX8 64 yX8_in wsX8_in) := goodIn_app (goodIn_of _ (by decide +kernel)) ggX8_isOn_X8_in
set_option maxRecDepth 20000 in
theorem ggX8_isOn_X8_has : GoodIn wsX8_isOn wsX8_has := goodIn_r _ [10] (by decide +kernel) (by decide +kernel)
set_option maxRecDepth 20000 in
theorem gX8_isOn_X8_has : GoodIn wsX8_isOn (va_wsS RX8 126 yX8_has wsX8_has) := goodIn_app (goodIn_of _ (by decide +kernel)) ggX8_isOn_X8_has
theorem dX8_isOn_0 : decode cX8_isOn 0 = .ok (.iload_n 1, 1) := by decide +kernel
theorem dX8_isOn_1 : decode cX8_isOn 1 = .ok (.iconst 0, 1) := by decide +kernel
theorem dX8_isOn_2 : decode cX8_isOn 2 = .ok (.aload_n 0, 1) := by decide +kernel
theorem dX8_isOn_3 : decode cX8_isOn 3 = .ok (.getfield 7, 3) := by decide +kernel
theorem dX8_isOn_6 : decode cX8_isOn 6 = .ok (.iconst 1, 1) := by decide +kernel
theorem dX8_isOn_7 : decode cX8_isOn 7 = .ok (.isub, 1) := by decide +kernel
theorem dX8_isOn_8 : decode cX8_isOn 8 = .ok (.invokestatic 64, 3) := by decide +kernel
theorem dX8_isOn_11 : decode cX8_isOn 11 = .ok (.ifCond .eq 39, 3) := by decide +kernel
theorem dX8_isOn_14 : decode cX8_isOn 14 = .ok (.iload_n 2, 1) := by decide +kernel
theorem dX8_isOn_15 : decode cX8_isOn 15 = .ok (.iconst 0, 1) := by decide +kernel
theorem dX8_isOn_16 : decode cX8_isOn 16 = .ok (.aload_n 0, 1) := by decide +kernel
theorem dX8_isOn_17 : decode cX8_isOn 17 = .ok (.getfield 13, 3) := by decide +kernel
theorem dX8_isOn_20 : decode cX8_isOn 20 = .ok (.iconst 1, 1) := by decide +kernel
theorem dX8_isOn_21 : decode cX8_isOn 21 = .ok (.isub, 1) := by decide +kernel
theorem dX8_isOn_22 : decode cX8_isOn 22 = .ok (.invokestatic 64, 3) := by decide +kernel
theorem dX8_isOn_25 : decode cX8_isOn 25 = .ok (.ifCond .eq 25, 3) := by decide +kernel
theorem dX8_isOn_28 : decode cX8_isOn 28 = .ok (.aload_n 0, 1) := by decide +kernel
theorem dX8_isOn_29 : decode cX8_isOn 29 = .ok (.getfield 167, 3) := by decide +kernel
theorem dX8_isOn_32 : decode cX8_isOn 32 = .ok (.iload_n 2, 1) := by decide +kernel
theorem dX8_isOn_33 : decode cX8_isOn 33 = .ok (.aload_n 0, 1) := by decide +kernel
theorem dX8_isOn_34 : decode cX8_isOn 34 = .ok (.getfield 7, 3) := by decide +kernel
theorem dX8_isOn_37 : decode cX8_isOn 37 = .ok (.imul, 1) := by decide +kernel
theorem dX8_isOn_38 : decode cX8_isOn 38 = .ok (.iload_n 1, 1) := by decide +kernel
theorem dX8_isOn_39 : decode cX8_isOn 39 = .ok (.iadd, 1) := by decide +kernel
theorem dX8_isOn_40 : decode cX8_isOn 40 = .ok (.invokestatic 126, 3) := by decide +kernel
theorem dX8_isOn_43 : decode cX8_isOn 43 = .ok (.ifCond .ne 7, 3) := by decide +kernel
theorem dX8_isOn_46 : decode cX8_isOn 46 = .ok (.iconst 1, 1) := by decide +kernel
theorem dX8_isOn_47 : decode cX8_isOn 47 = .ok (.goto 4, 3) := by decide +kernel
theorem dX8_isOn_50 : decode cX8_isOn 50 = .ok (.iconst 0, 1) := by decide +kernel
theorem dX8_isOn_51 : decode cX8_isOn 51 = .ok (.ireturn, 1) := by decide +kernel
set_option maxRecDepth 20000 in
theorem ggX8_slide_X8_isOn : GoodIn wsX8_slide wsX8_isOn := goodIn_r _ [6, 1, 7, 8, 9, 10, 5, 11, 12, 13, 14, 15, 16, 17, 18, 19, 20, 21, 22, 23, 24, 25, 26, 27, 28, 29, 30, 31, 32, 33, 34, 35, 36, 37, 38, 39, 40, 41, 42, 43, 44, 45, 46, 47, 48] (by decide +kernel) (by decide +kernel)
set_option maxRecDepth 20000 in
theorem gX8_slide_X8_isOn : GoodIn wsX8_slide (wsV RX8 195 RX8 yX8_isOn wsX8_isOn) := goodIn_app (goodIn_of _ (by decide +kernel)) ggX8_slide_X8_isOn
set_option maxRecDepth 20000 in
theorem ggX8_slide_X8_has : GoodIn wsX8_slide wsX8_has := goodIn_r _ [14] (by decide +kernel) (by decide +kernel)
set_option maxRecDepth 20000 in
theorem gX8_slide_X8_has : GoodIn wsX8_slide (va_wsS RX8 126 yX8_has wsX8_has) := goodIn_app (goodIn_of _ (by decide +kernel)) ggX8_slide_X8_has
theorem dX8_slide_0 : decode cX8_slide 0 = .ok (.iconst 0, 1) := by decide +kernel
theorem dX8_slide_1 : decode cX8_slide 1 = .ok (.istore 5, 2) := by decide +kernel
theorem dX8_slide_3 : decode cX8_slide 3 = .ok (.iload_n 1, 1) := by decide +kernel
theorem dX8_slide_4 : decode cX8_slide 4 = .ok (.aload_n 0, 1) := by decide +kernel
theorem dX8_slide_5 : decode cX8_slide 5 = .ok (.getfield 7, 3) := by decide +kernel
theorem dX8_slide_8 : decode cX8_slide 8 = .ok (.irem, 1) := by decide +kernel
theorem dX8_slide_9 : decode cX8_slide 9 = .ok (.iload_n 2, 1) := by decide +kernel
theorem dX8_slide_10 : decode cX8_slide 10 = .ok (.iadd, 1) := by decide +kernel
theorem dX8_slide_11 : decode cX8_slide 11 = .ok (.istore 6, 2) := by decide +kernel
theorem dX8_slide_13 : decode cX8_slide 13 = .ok (.iload_n 1, 1) := by decide +kernel
theorem dX8_slide_14 : decode cX8_slide 14 = .ok (.aload_n 0, 1) := by decide +kernel
theorem dX8_slide_15 : decode cX8_slide 15 = .ok (.getfield 7, 3) := by decide +kernel
theorem dX8_slide_18 : decode cX8_slide 18 = .ok (.idiv, 1) := by decide +kernel
theorem dX8_slide_19 : decode cX8_slide 19 = .ok (.iload_n 3, 1) := by decide +kernel
theorem dX8_slide_20 : decode cX8_slide 20 = .ok (.iadd, 1) := by decide +kernel
theorem dX8_slide_21 : decode cX8_slide 21 = .ok (.istore 7, 2) := by decide +kernel
theorem dX8_slide_23 : decode cX8_slide 23 = .ok (.aload_n 0, 1) := by decide +kernel
theorem dX8_slide_24 : decode cX8_slide 24 = .ok (.iload 6, 2) := by decide +kernel
theorem dX8_slide_26 : decode cX8_slide 26 = .ok (.iload 7, 2) := by decide +kernel
theorem dX8_slide_28 : decode cX8_slide 28 = .ok (.invokevirtual 195, 3) := by decide +kernel
theorem dX8_slide_31 : decode cX8_slide 31 = .ok (.istore 8, 2) := by decide +kernel
theorem dX8_slide_33 : decode cX8_slide 33 = .ok (.iload 8, 2) := by decide +kernel
theorem dX8_slide_35 : decode cX8_slide 35 = .ok (.ifCond .eq 83, 3) := by decide +kernel
theorem dX8_slide_38 : decode cX8_slide 38 = .ok (.iload 5, 2) := by decide +kernel
theorem dX8_slide_40 : decode cX8_slide 40 = .ok (.iconst 1, 1) := by decide +kernel
theorem dX8_slide_41 : decode cX8_slide 41 = .ok (.iload 7, 2) := by decide +kernel
theorem dX8_slide_43 : decode cX8_slide 43 = .ok (.aload_n 0, 1) := by decide +kernel
theorem dX8_slide_44 : decode cX8_slide 44 = .ok (.getfield 7, 3) := by decide +kernel
theorem dX8_slide_47 : decode cX8_slide 47 = .ok (.imul, 1) := by decide +kernel
theorem dX8_slide_48 : decode cX8_slide 48 = .ok (.iload 6, 2) := by decide +kernel
theorem dX8_slide_50 : decode cX8_slide 50 = .ok (.iadd, 1) := by decide +kernel
theorem dX8_slide_51 : decode cX8_slide 51 = .ok (.ishl, 1) := by decide +kernel
theorem dX8_slide_52 : decode cX8_slide 52 = .ok (.ior, 1) := by decide +kernel
theorem dX8_slide_53 : decode cX8_slide 53 = .ok (.istore 5, 2) := by decide +kernel
theorem dX8_slide_55 : decode cX8_slide 55 = .ok (.iload 4, 2) := by decide +kernel
theorem dX8_slide_57 : decode cX8_slide 57 = .ok (.iload 7, 2) := by decide +kernel
theorem dX8_slide_59 : decode cX8_slide 59 = .ok (.aload_n 0, 1) := by decide +kernel
theorem dX8_slide_60 : decode cX8_slide 60 = .ok (.getfield 7, 3) := by decide +kernel
theorem dX8_slide_63 : decode cX8_slide 63 = .ok (.imul, 1) := by decide +kernel
theorem dX8_slide_64 : decode cX8_slide 64 = .ok (.iload 6, 2) := by decide +kernel
theorem dX8_slide_66 : decode cX8_slide 66 = .ok (.iadd, 1) := by decide +kernel
theorem dX8_slide_67 : decode cX8_slide 67 = .ok (.invokestatic 126, 3) := by decide +kernel
theorem dX8_slide_70 : decode cX8_slide 70 = .ok (.ifCond .ne 7, 3) := by decide +kernel
theorem dX8_slide_73 : decode cX8_slide 73 = .ok (.iconst 1, 1) := by decide +kernel
theorem dX8_slide_74 : decode cX8_slide 74 = .ok (.goto 4, 3) := by decide +kernel
theorem dX8_slide_77 : decode cX8_slide 77 = .ok (.iconst 0, 1) := by decide +kernel
theorem dX8_slide_78 : decode cX8_slide 78 = .ok (.istore 8, 2) := by decide +kernel
theorem dX8_slide_80 : decode cX8_slide 80 = .ok (.iload 6, 2) := by decide +kernel
theorem dX8_slide_82 : decode cX8_slide 82 = .ok (.iload_n 2, 1) := by decide +kernel
theorem dX8_slide_83 : decode cX8_slide 83 = .ok (.iadd, 1) := by decide +kernel
theorem dX8_slide_84 : decode cX8_slide 84 = .ok (.istore 6, 2) := by decide +kernel
theorem dX8_slide_86 : decode cX8_slide 86 = .ok (.iload 7, 2) := by decide +kernel
theorem dX8_slide_88 : decode cX8_slide 88 = .ok (.iload_n 3, 1) := by decide +kernel
theorem dX8_slide_89 : decode cX8_slide 89 = .ok (.iadd, 1) := by decide +kernel
theorem dX8_slide_90 : decode cX8_slide 90 = .ok (.istore 7, 2) := by decide +kernel
theorem dX8_slide_92 : decode cX8_slide 92 = .ok (.iload 8, 2) := by decide +kernel
theorem dX8_slide_94 : decode cX8_slide 94 = .ok (.ifCond .eq 18, 3) := by decide +kernel
theorem dX8_slide_97 : decode cX8_slide 97 = .ok (.aload_n 0, 1) := by decide +kernel
theorem dX8_slide_98 : decode cX8_slide 98 = .ok (.iload 6, 2) := by decide +kernel
theorem dX8_slide_100 : decode cX8_slide 100 = .ok (.iload 7, 2) := by decide +kernel
theorem dX8_slide_102 : decode cX8_slide 102 = .ok (.invokevirtual 195, 3) := by decide +kernel
theorem dX8_slide_105 : decode cX8_slide 105 = .ok (.ifCond .eq 7, 3) := by decide +kernel
theorem dX8_slide_108 : decode cX8_slide 108 = .ok (.iconst 1, 1) := by decide +kernel
theorem dX8_slide_109 : decode cX8_slide 109 = .ok (.goto 4, 3) := by decide +kernel
theorem dX8_slide_112 : decode cX8_slide 112 = .ok (.iconst 0, 1) := by decide +kernel
theorem dX8_slide_113 : decode cX8_slide 113 = .ok (.istore 8, 2) := by decide +kernel
theorem dX8_slide_115 : decode cX8_slide 115 = .ok (.goto (-82), 3) := by decide +kernel
theorem dX8_slide_118 : decode cX8_slide 118 = .ok (.iload 5, 2) := by decide +kernel
theorem dX8_slide_120 : decode cX8_slide 120 = .ok (.ireturn, 1) := by decide +kernel
set_option maxRecDepth 20000 in
theorem ggX8_reachOf_X8_isOn : GoodIn wsX8_reachOf wsX8_isOn := goodIn_r _ [6, 1, 7, 8, 9, 10, 5, 11, 12, 13, 14, 19, 20, 21, 22, 23, 24, 25, 26, 27, 28, 29, 30, 31, 32, 33, 34, 35, 36, 37, 38, 39, 40, 41, 42, 43, 44, 45, 46, 47, 48, 49, 50, 51, 52] (by decide +kernel) (by decide +kernel)
set_option maxRecDepth 20000 in
theorem gX8_reachOf_X8_isOn : GoodIn wsX8_reachOf (wsV RX8 195 RX8 yX8_isOn wsX8_isOn) := goodIn_app (goodIn_of _ (by decide +kernel)) ggX8_reachOf_X8_isOn
set_option maxRecDepth 20000 in
theorem ggX8_reachOf_X8_slide : GoodIn wsX8_reachOf wsX8_slide := goodIn_r _ [18, 1, 2, 3, 4, 5, 6, 7, 8, 9, 10, 11, 12, 13, 14, 19, 20, 21, 22, 23, 24, 25, 26, 27, 28, 29, 30, 31, 32, 33, 34, 35, 36, 37, 38, 39, 40, 41, 42, 43, 44, 45, 46, 47, 48, 49, 50, 51, 52] (by decide +kernel) (by decide +kernel)
set_option maxRecDepth 20000 in
theorem gX8_reachOf_X8_slide : GoodIn wsX8_reachOf (wsV RX8 198 RX8 yX8_slide wsX8_slide) := goodIn_app (goodIn_of _ (by decide +kernel)) ggX8_reachOf_X8_slide
theorem dX8_reachOf_0 : decode cX8_reachOf 0 = .ok (.iconst 0, 1) := by decide +kernel
theorem dX8_reachOf_1 : decode cX8_reachOf 1 = .ok (.istore 4, 2) := by decide +kernel
theorem dX8_reachOf_3 : decode cX8_reachOf 3 = .ok (.bipush (-2), 2) := by decide +kernel
theorem dX8_reachOf_5 : decode cX8_reachOf 5 = .ok (.istore 5, 2) := by decide +kernel
theorem dX8_reachOf_7 : decode cX8_reachOf 7 = .ok (.iload 5, 2) := by decide +kernel
theorem dX8_reachOf_9 : decode cX8_reachOf 9 = .ok (.iconst 3, 1) := by decide +kernel
theorem dX8_reachOf_10 : decode cX8_reachOf 10 = .ok (.if_icmp .ge 221, 3) := by decide +kernel
theorem dX8_reachOf_13 : decode cX8_reachOf 13 = .ok (.bipush (-2), 2) := by decide +kernel
theorem dX8_reachOf_15 : decode cX8_reachOf 15 = .ok (.istore 6, 2) := by decide +kernel
theorem dX8_reachOf_17 : decode cX8_reachOf 17 = .ok (.iload 6, 2) := by decide +kernel
theorem dX8_reachOf_19 : decode cX8_reachOf 19 = .ok (.iconst 3, 1) := by decide +kernel
theorem dX8_reachOf_20 : decode cX8_reachOf 20 = .ok (.if_icmp .ge 205, 3) := by decide +kernel
theorem dX8_reachOf_23 : decode cX8_reachOf 23 = .ok (.iload 5, 2) := by decide +kernel
theorem dX8_reachOf_25 : decode cX8_reachOf 25 = .ok (.ifCond .ge 9, 3) := by decide +kernel
theorem dX8_reachOf_28 : decode cX8_reachOf 28 = .ok (.iload 5, 2) := by decide +kernel
theorem dX8_reachOf_30 : decode cX8_reachOf 30 = .ok (.ineg, 1) := by decide +kernel
theorem dX8_reachOf_31 : decode cX8_reachOf 31 = .ok (.goto 5, 3) := by decide +kernel
theorem dX8_reachOf_34 : decode cX8_reachOf 34 = .ok (.iload 5, 2) := by decide +kernel
theorem dX8_reachOf_36 : decode cX8_reachOf 36 = .ok (.istore 7, 2) := by decide +kernel
theorem dX8_reachOf_38 : decode cX8_reachOf 38 = .ok (.iload 6, 2) := by decide +kernel
theorem dX8_reachOf_40 : decode cX8_reachOf 40 = .ok (.ifCond .ge 9, 3) := by decide +kernel
theorem dX8_reachOf_43 : decode cX8_reachOf 43 = .ok (.iload 6, 2) := by decide +kernel
theorem dX8_reachOf_45 : decode cX8_reachOf 45 = .ok (.ineg, 1) := by decide +kernel
theorem dX8_reachOf_46 : decode cX8_reachOf 46 = .ok (.goto 5, 3) := by decide +kernel
theorem dX8_reachOf_49 : decode cX8_reachOf 49 = .ok (.iload 6, 2) := by decide +kernel
theorem dX8_reachOf_51 : decode cX8_reachOf 51 = .ok (.istore 8, 2) := by decide +kernel
theorem dX8_reachOf_53 : decode cX8_reachOf 53 = .ok (.iload 7, 2) := by decide +kernel
theorem dX8_reachOf_55 : decode cX8_reachOf 55 = .ok (.iconst 2, 1) := by decide +kernel
theorem dX8_reachOf_56 : decode cX8_reachOf 56 = .ok (.if_icmp .ge 21, 3) := by decide +kernel
theorem dX8_reachOf_59 : decode cX8_reachOf 59 = .ok (.iload 8, 2) := by decide +kernel
theorem dX8_reachOf_61 : decode cX8_reachOf 61 = .ok (.iconst 2, 1) := by decide +kernel
theorem dX8_reachOf_62 : decode cX8_reachOf 62 = .ok (.if_icmp .ge 15, 3) := by decide +kernel
theorem dX8_reachOf_65 : decode cX8_reachOf 65 = .ok (.iload 7, 2) := by decide +kernel
theorem dX8_reachOf_67 : decode cX8_reachOf 67 = .ok (.iload 8, 2) := by decide +kernel
theorem dX8_reachOf_69 : decode cX8_reachOf 69 = .ok (.iadd, 1) := by decide +kernel
theorem dX8_reachOf_70 : decode cX8_reachOf 70 = .ok (.ifCond .le 7, 3) := by decide +kernel
theorem dX8_reachOf_73 : decode cX8_reachOf 73 = .ok (.iconst 1, 1) := by decide +kernel
theorem dX8_reachOf_74 : decode cX8_reachOf 74 = .ok (.goto 4, 3) := by decide +kernel
