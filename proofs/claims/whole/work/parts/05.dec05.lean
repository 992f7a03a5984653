theorem dX8_layLine_57 : decode cX8_layLine 57 = .ok (.iload_n 2, 1) := by decide +kernel
theorem dX8_layLine_58 : decode cX8_layLine 58 = .ok (.aload_n 0, 1) := by decide +kernel
theorem dX8_layLine_59 : decode cX8_layLine 59 = .ok (.getfield 241, 3) := by decide +kernel
theorem dX8_layLine_62 : decode cX8_layLine 62 = .ok (.if_icmp .ge 194, 3) := by decide +kernel
theorem dX8_layLine_65 : decode cX8_layLine 65 = .ok (.aload_n 0, 1) := by decide +kernel
theorem dX8_layLine_66 : decode cX8_layLine 66 = .ok (.getfield 49, 3) := by decide +kernel
theorem dX8_layLine_69 : decode cX8_layLine 69 = .ok (.iload_n 2, 1) := by decide +kernel
theorem dX8_layLine_70 : decode cX8_layLine 70 = .ok (.iaload, 1) := by decide +kernel
theorem dX8_layLine_71 : decode cX8_layLine 71 = .ok (.istore_n 3, 1) := by decide +kernel
theorem dX8_layLine_72 : decode cX8_layLine 72 = .ok (.aload_n 0, 1) := by decide +kernel
theorem dX8_layLine_73 : decode cX8_layLine 73 = .ok (.getfield 183, 3) := by decide +kernel
theorem dX8_layLine_76 : decode cX8_layLine 76 = .ok (.aload_n 0, 1) := by decide +kernel
theorem dX8_layLine_77 : decode cX8_layLine 77 = .ok (.getfield 46, 3) := by decide +kernel
theorem dX8_layLine_80 : decode cX8_layLine 80 = .ok (.iload_n 3, 1) := by decide +kernel
theorem dX8_layLine_81 : decode cX8_layLine 81 = .ok (.iaload, 1) := by decide +kernel
theorem dX8_layLine_82 : decode cX8_layLine 82 = .ok (.iadd, 1) := by decide +kernel
theorem dX8_layLine_83 : decode cX8_layLine 83 = .ok (.iconst 2, 1) := by decide +kernel
theorem dX8_layLine_84 : decode cX8_layLine 84 = .ok (.irem, 1) := by decide +kernel
theorem dX8_layLine_85 : decode cX8_layLine 85 = .ok (.istore 4, 2) := by decide +kernel
theorem dX8_layLine_87 : decode cX8_layLine 87 = .ok (.iconst 0, 1) := by decide +kernel
theorem dX8_layLine_88 : decode cX8_layLine 88 = .ok (.istore 5, 2) := by decide +kernel
theorem dX8_layLine_90 : decode cX8_layLine 90 = .ok (.iload 5, 2) := by decide +kernel
theorem dX8_layLine_92 : decode cX8_layLine 92 = .ok (.aload_n 0, 1) := by decide +kernel
theorem dX8_layLine_93 : decode cX8_layLine 93 = .ok (.getfield 68, 3) := by decide +kernel
theorem dX8_layLine_96 : decode cX8_layLine 96 = .ok (.if_icmp .ge 154, 3) := by decide +kernel
theorem dX8_layLine_99 : decode cX8_layLine 99 = .ok (.aload_n 0, 1) := by decide +kernel
theorem dX8_layLine_100 : decode cX8_layLine 100 = .ok (.iload_n 3, 1) := by decide +kernel
theorem dX8_layLine_101 : decode cX8_layLine 101 = .ok (.invokevirtual 244, 3) := by decide +kernel
theorem dX8_layLine_104 : decode cX8_layLine 104 = .ok (.aload_n 0, 1) := by decide +kernel
theorem dX8_layLine_105 : decode cX8_layLine 105 = .ok (.aload_n 0, 1) := by decide +kernel
theorem dX8_layLine_106 : decode cX8_layLine 106 = .ok (.getfield 58, 3) := by decide +kernel
theorem dX8_layLine_109 : decode cX8_layLine 109 = .ok (.iload 5, 2) := by decide +kernel
theorem dX8_layLine_111 : decode cX8_layLine 111 = .ok (.iload 4, 2) := by decide +kernel
theorem dX8_layLine_113 : decode cX8_layLine 113 = .ok (.invokevirtual 213, 3) := by decide +kernel
theorem dX8_layLine_116 : decode cX8_layLine 116 = .ok (.istore 6, 2) := by decide +kernel
theorem dX8_layLine_118 : decode cX8_layLine 118 = .ok (.iconst 0, 1) := by decide +kernel
theorem dX8_layLine_119 : decode cX8_layLine 119 = .ok (.istore 7, 2) := by decide +kernel
theorem dX8_layLine_121 : decode cX8_layLine 121 = .ok (.iload 7, 2) := by decide +kernel
theorem dX8_layLine_123 : decode cX8_layLine 123 = .ok (.aload_n 0, 1) := by decide +kernel
theorem dX8_layLine_124 : decode cX8_layLine 124 = .ok (.getfield 7, 3) := by decide +kernel
theorem dX8_layLine_127 : decode cX8_layLine 127 = .ok (.aload_n 0, 1) := by decide +kernel
theorem dX8_layLine_128 : decode cX8_layLine 128 = .ok (.getfield 13, 3) := by decide +kernel
theorem dX8_layLine_131 : decode cX8_layLine 131 = .ok (.imul, 1) := by decide +kernel
theorem dX8_layLine_132 : decode cX8_layLine 132 = .ok (.if_icmp .ge 112, 3) := by decide +kernel
theorem dX8_layLine_135 : decode cX8_layLine 135 = .ok (.iload 6, 2) := by decide +kernel
theorem dX8_layLine_137 : decode cX8_layLine 137 = .ok (.iload 7, 2) := by decide +kernel
theorem dX8_layLine_139 : decode cX8_layLine 139 = .ok (.invokestatic 126, 3) := by decide +kernel
theorem dX8_layLine_142 : decode cX8_layLine 142 = .ok (.ifCond .eq 96, 3) := by decide +kernel
theorem dX8_layLine_145 : decode cX8_layLine 145 = .ok (.aload_n 0, 1) := by decide +kernel
theorem dX8_layLine_146 : decode cX8_layLine 146 = .ok (.getfield 58, 3) := by decide +kernel
theorem dX8_layLine_149 : decode cX8_layLine 149 = .ok (.iload 5, 2) := by decide +kernel
theorem dX8_layLine_151 : decode cX8_layLine 151 = .ok (.iload 7, 2) := by decide +kernel
theorem dX8_layLine_153 : decode cX8_layLine 153 = .ok (.iastore, 1) := by decide +kernel
theorem dX8_layLine_154 : decode cX8_layLine 154 = .ok (.aload_n 0, 1) := by decide +kernel
theorem dX8_layLine_155 : decode cX8_layLine 155 = .ok (.aload_n 0, 1) := by decide +kernel
theorem dX8_layLine_156 : decode cX8_layLine 156 = .ok (.getfield 58, 3) := by decide +kernel
theorem dX8_layLine_159 : decode cX8_layLine 159 = .ok (.iconst 1, 1) := by decide +kernel
theorem dX8_layLine_160 : decode cX8_layLine 160 = .ok (.iload 4, 2) := by decide +kernel
theorem dX8_layLine_162 : decode cX8_layLine 162 = .ok (.isub, 1) := by decide +kernel
theorem dX8_layLine_163 : decode cX8_layLine 163 = .ok (.invokevirtual 237, 3) := by decide +kernel
theorem dX8_layLine_166 : decode cX8_layLine 166 = .ok (.istore 8, 2) := by decide +kernel
theorem dX8_layLine_168 : decode cX8_layLine 168 = .ok (.aload_n 0, 1) := by decide +kernel
theorem dX8_layLine_169 : decode cX8_layLine 169 = .ok (.getfield 46, 3) := by decide +kernel
theorem dX8_layLine_172 : decode cX8_layLine 172 = .ok (.iload 8, 2) := by decide +kernel
theorem dX8_layLine_174 : decode cX8_layLine 174 = .ok (.iaload, 1) := by decide +kernel
theorem dX8_layLine_175 : decode cX8_layLine 175 = .ok (.iconst (-1), 1) := by decide +kernel
theorem dX8_layLine_176 : decode cX8_layLine 176 = .ok (.if_icmp .ne 62, 3) := by decide +kernel
theorem dX8_layLine_179 : decode cX8_layLine 179 = .ok (.aload_n 0, 1) := by decide +kernel
theorem dX8_layLine_180 : decode cX8_layLine 180 = .ok (.getfield 46, 3) := by decide +kernel
theorem dX8_layLine_183 : decode cX8_layLine 183 = .ok (.iload 8, 2) := by decide +kernel
theorem dX8_layLine_185 : decode cX8_layLine 185 = .ok (.aload_n 0, 1) := by decide +kernel
theorem dX8_layLine_186 : decode cX8_layLine 186 = .ok (.getfield 46, 3) := by decide +kernel
theorem dX8_layLine_189 : decode cX8_layLine 189 = .ok (.iload_n 3, 1) := by decide +kernel
theorem dX8_layLine_190 : decode cX8_layLine 190 = .ok (.iaload, 1) := by decide +kernel
theorem dX8_layLine_191 : decode cX8_layLine 191 = .ok (.iconst 1, 1) := by decide +kernel
theorem dX8_layLine_192 : decode cX8_layLine 192 = .ok (.iadd, 1) := by decide +kernel
theorem dX8_layLine_193 : decode cX8_layLine 193 = .ok (.iastore, 1) := by decide +kernel
theorem dX8_layLine_194 : decode cX8_layLine 194 = .ok (.aload_n 0, 1) := by decide +kernel
theorem dX8_layLine_195 : decode cX8_layLine 195 = .ok (.getfield 52, 3) := by decide +kernel
theorem dX8_layLine_198 : decode cX8_layLine 198 = .ok (.iload 8, 2) := by decide +kernel
theorem dX8_layLine_200 : decode cX8_layLine 200 = .ok (.iload_n 3, 1) := by decide +kernel
theorem dX8_layLine_201 : decode cX8_layLine 201 = .ok (.iastore, 1) := by decide +kernel
theorem dX8_layLine_202 : decode cX8_layLine 202 = .ok (.aload_n 0, 1) := by decide +kernel
theorem dX8_layLine_203 : decode cX8_layLine 203 = .ok (.getfield 55, 3) := by decide +kernel
theorem dX8_layLine_206 : decode cX8_layLine 206 = .ok (.iload 8, 2) := by decide +kernel
theorem dX8_layLine_208 : decode cX8_layLine 208 = .ok (.bipush 12, 2) := by decide +kernel
theorem dX8_layLine_210 : decode cX8_layLine 210 = .ok (.iload 5, 2) := by decide +kernel
theorem dX8_layLine_212 : decode cX8_layLine 212 = .ok (.imul, 1) := by decide +kernel
theorem dX8_layLine_213 : decode cX8_layLine 213 = .ok (.iload 7, 2) := by decide +kernel
theorem dX8_layLine_215 : decode cX8_layLine 215 = .ok (.iadd, 1) := by decide +kernel
theorem dX8_layLine_216 : decode cX8_layLine 216 = .ok (.iastore, 1) := by decide +kernel
theorem dX8_layLine_217 : decode cX8_layLine 217 = .ok (.aload_n 0, 1) := by decide +kernel
theorem dX8_layLine_218 : decode cX8_layLine 218 = .ok (.getfield 49, 3) := by decide +kernel
theorem dX8_layLine_221 : decode cX8_layLine 221 = .ok (.aload_n 0, 1) := by decide +kernel
theorem dX8_layLine_222 : decode cX8_layLine 222 = .ok (.getfield 241, 3) := by decide +kernel
theorem dX8_layLine_225 : decode cX8_layLine 225 = .ok (.iload 8, 2) := by decide +kernel
theorem dX8_layLine_227 : decode cX8_layLine 227 = .ok (.iastore, 1) := by decide +kernel
theorem dX8_layLine_228 : decode cX8_layLine 228 = .ok (.aload_n 0, 1) := by decide +kernel
theorem dX8_layLine_229 : decode cX8_layLine 229 = .ok (.dup, 1) := by decide +kernel
theorem dX8_layLine_230 : decode cX8_layLine 230 = .ok (.getfield 241, 3) := by decide +kernel
theorem dX8_layLine_233 : decode cX8_layLine 233 = .ok (.iconst 1, 1) := by decide +kernel
theorem dX8_layLine_234 : decode cX8_layLine 234 = .ok (.iadd, 1) := by decide +kernel
theorem dX8_layLine_235 : decode cX8_layLine 235 = .ok (.putfield 241, 3) := by decide +kernel
theorem dX8_layLine_238 : decode cX8_layLine 238 = .ok (.iinc 7 1, 3) := by decide +kernel
theorem dX8_layLine_241 : decode cX8_layLine 241 = .ok (.goto (-120), 3) := by decide +kernel
theorem dX8_layLine_244 : decode cX8_layLine 244 = .ok (.iinc 5 1, 3) := by decide +kernel
theorem dX8_layLine_247 : decode cX8_layLine 247 = .ok (.goto (-157), 3) := by decide +kernel
theorem dX8_layLine_250 : decode cX8_layLine 250 = .ok (.iinc 2 1, 3) := by decide +kernel
theorem dX8_layLine_253 : decode cX8_layLine 253 = .ok (.goto (-196), 3) := by decide +kernel
theorem dX8_layLine_256 : decode cX8_layLine 256 = .ok (.return_, 1) := by decide +kernel
theorem dX8_areHome_0 : decode cX8_areHome 0 = .ok (.iconst 1, 1) := by decide +kernel
theorem dX8_areHome_1 : decode cX8_areHome 1 = .ok (.istore_n 2, 1) := by decide +kernel
theorem dX8_areHome_2 : decode cX8_areHome 2 = .ok (.iconst 0, 1) := by decide +kernel
theorem dX8_areHome_3 : decode cX8_areHome 3 = .ok (.istore_n 3, 1) := by decide +kernel
theorem dX8_areHome_4 : decode cX8_areHome 4 = .ok (.iload_n 3, 1) := by decide +kernel
theorem dX8_areHome_5 : decode cX8_areHome 5 = .ok (.aload_n 0, 1) := by decide +kernel
theorem dX8_areHome_6 : decode cX8_areHome 6 = .ok (.getfield 68, 3) := by decide +kernel
theorem dX8_areHome_9 : decode cX8_areHome 9 = .ok (.if_icmp .ge 143, 3) := by decide +kernel
theorem dX8_areHome_12 : decode cX8_areHome 12 = .ok (.iconst 0, 1) := by decide +kernel
theorem dX8_areHome_13 : decode cX8_areHome 13 = .ok (.istore 4, 2) := by decide +kernel
theorem dX8_areHome_15 : decode cX8_areHome 15 = .ok (.iconst 0, 1) := by decide +kernel
theorem dX8_areHome_16 : decode cX8_areHome 16 = .ok (.istore 5, 2) := by decide +kernel
theorem dX8_areHome_18 : decode cX8_areHome 18 = .ok (.iload 5, 2) := by decide +kernel
theorem dX8_areHome_20 : decode cX8_areHome 20 = .ok (.aload_n 0, 1) := by decide +kernel
theorem dX8_areHome_21 : decode cX8_areHome 21 = .ok (.getfield 68, 3) := by decide +kernel
theorem dX8_areHome_24 : decode cX8_areHome 24 = .ok (.if_icmp .ge 107, 3) := by decide +kernel
theorem dX8_areHome_27 : decode cX8_areHome 27 = .ok (.iload_n 3, 1) := by decide +kernel
theorem dX8_areHome_28 : decode cX8_areHome 28 = .ok (.iload 5, 2) := by decide +kernel
theorem dX8_areHome_30 : decode cX8_areHome 30 = .ok (.if_icmp .eq 51, 3) := by decide +kernel
theorem dX8_areHome_33 : decode cX8_areHome 33 = .ok (.iload_n 1, 1) := by decide +kernel
theorem dX8_areHome_34 : decode cX8_areHome 34 = .ok (.ifCond .eq 51, 3) := by decide +kernel
theorem dX8_areHome_37 : decode cX8_areHome 37 = .ok (.aload_n 0, 1) := by decide +kernel
theorem dX8_areHome_38 : decode cX8_areHome 38 = .ok (.getfield 16, 3) := by decide +kernel
theorem dX8_areHome_41 : decode cX8_areHome 41 = .ok (.iconst 4, 1) := by decide +kernel
theorem dX8_areHome_42 : decode cX8_areHome 42 = .ok (.iload_n 3, 1) := by decide +kernel
theorem dX8_areHome_43 : decode cX8_areHome 43 = .ok (.imul, 1) := by decide +kernel
theorem dX8_areHome_44 : decode cX8_areHome 44 = .ok (.iaload, 1) := by decide +kernel
theorem dX8_areHome_45 : decode cX8_areHome 45 = .ok (.aload_n 0, 1) := by decide +kernel
theorem dX8_areHome_46 : decode cX8_areHome 46 = .ok (.getfield 16, 3) := by decide +kernel
theorem dX8_areHome_49 : decode cX8_areHome 49 = .ok (.iconst 4, 1) := by decide +kernel
theorem dX8_areHome_50 : decode cX8_areHome 50 = .ok (.iload 5, 2) := by decide +kernel
theorem dX8_areHome_52 : decode cX8_areHome 52 = .ok (.imul, 1) := by decide +kernel
theorem dX8_areHome_53 : decode cX8_areHome 53 = .ok (.iaload, 1) := by decide +kernel
theorem dX8_areHome_54 : decode cX8_areHome 54 = .ok (.if_icmp .ne 31, 3) := by decide +kernel
theorem dX8_areHome_57 : decode cX8_areHome 57 = .ok (.aload_n 0, 1) := by decide +kernel
theorem dX8_areHome_58 : decode cX8_areHome 58 = .ok (.getfield 16, 3) := by decide +kernel
theorem dX8_areHome_61 : decode cX8_areHome 61 = .ok (.iconst 4, 1) := by decide +kernel
theorem dX8_areHome_62 : decode cX8_areHome 62 = .ok (.iload_n 3, 1) := by decide +kernel
theorem dX8_areHome_63 : decode cX8_areHome 63 = .ok (.imul, 1) := by decide +kernel
theorem dX8_areHome_64 : decode cX8_areHome 64 = .ok (.iconst 1, 1) := by decide +kernel
theorem dX8_areHome_65 : decode cX8_areHome 65 = .ok (.iadd, 1) := by decide +kernel
theorem dX8_areHome_66 : decode cX8_areHome 66 = .ok (.iaload, 1) := by decide +kernel
theorem dX8_areHome_67 : decode cX8_areHome 67 = .ok (.aload_n 0, 1) := by decide +kernel
theorem dX8_areHome_68 : decode cX8_areHome 68 = .ok (.getfield 16, 3) := by decide +kernel
theorem dX8_areHome_71 : decode cX8_areHome 71 = .ok (.iconst 4, 1) := by decide +kernel
theorem dX8_areHome_72 : decode cX8_areHome 72 = .ok (.iload 5, 2) := by decide +kernel
theorem dX8_areHome_74 : decode cX8_areHome 74 = .ok (.imul, 1) := by decide +kernel
theorem dX8_areHome_75 : decode cX8_areHome 75 = .ok (.iconst 1, 1) := by decide +kernel
theorem dX8_areHome_76 : decode cX8_areHome 76 = .ok (.iadd, 1) := by decide +kernel
theorem dX8_areHome_77 : decode cX8_areHome 77 = .ok (.iaload, 1) := by decide +kernel
theorem dX8_areHome_78 : decode cX8_areHome 78 = .ok (.if_icmp .ne 7, 3) := by decide +kernel
theorem dX8_areHome_81 : decode cX8_areHome 81 = .ok (.iconst 1, 1) := by decide +kernel
theorem dX8_areHome_82 : decode cX8_areHome 82 = .ok (.goto 4, 3) := by decide +kernel
theorem dX8_areHome_85 : decode cX8_areHome 85 = .ok (.iconst 0, 1) := by decide +kernel
theorem dX8_areHome_86 : decode cX8_areHome 86 = .ok (.istore 6, 2) := by decide +kernel
theorem dX8_areHome_88 : decode cX8_areHome 88 = .ok (.iload 4, 2) := by decide +kernel
theorem dX8_areHome_90 : decode cX8_areHome 90 = .ok (.ifCond .ne 28, 3) := by decide +kernel
theorem dX8_areHome_93 : decode cX8_areHome 93 = .ok (.iload 6, 2) := by decide +kernel
theorem dX8_areHome_95 : decode cX8_areHome 95 = .ok (.ifCond .eq 27, 3) := by decide +kernel
theorem dX8_areHome_98 : decode cX8_areHome 98 = .ok (.aload_n 0, 1) := by decide +kernel
theorem dX8_areHome_99 : decode cX8_areHome 99 = .ok (.getfield 58, 3) := by decide +kernel
theorem dX8_areHome_102 : decode cX8_areHome 102 = .ok (.iload_n 3, 1) := by decide +kernel
theorem dX8_areHome_103 : decode cX8_areHome 103 = .ok (.iaload, 1) := by decide +kernel
theorem dX8_areHome_104 : decode cX8_areHome 104 = .ok (.aload_n 0, 1) := by decide +kernel
theorem dX8_areHome_105 : decode cX8_areHome 105 = .ok (.getfield 16, 3) := by decide +kernel
theorem dX8_areHome_108 : decode cX8_areHome 108 = .ok (.iconst 4, 1) := by decide +kernel
theorem dX8_areHome_109 : decode cX8_areHome 109 = .ok (.iload 5, 2) := by decide +kernel
theorem dX8_areHome_111 : decode cX8_areHome 111 = .ok (.imul, 1) := by decide +kernel
theorem dX8_areHome_112 : decode cX8_areHome 112 = .ok (.iconst 3, 1) := by decide +kernel
theorem dX8_areHome_113 : decode cX8_areHome 113 = .ok (.iadd, 1) := by decide +kernel
theorem dX8_areHome_114 : decode cX8_areHome 114 = .ok (.iaload, 1) := by decide +kernel
theorem dX8_areHome_115 : decode cX8_areHome 115 = .ok (.if_icmp .ne 7, 3) := by decide +kernel
theorem dX8_areHome_118 : decode cX8_areHome 118 = .ok (.iconst 1, 1) := by decide +kernel
theorem dX8_areHome_119 : decode cX8_areHome 119 = .ok (.goto 4, 3) := by decide +kernel
theorem dX8_areHome_122 : decode cX8_areHome 122 = .ok (.iconst 0, 1) := by decide +kernel
theorem dX8_areHome_123 : decode cX8_areHome 123 = .ok (.istore 4, 2) := by decide +kernel
theorem dX8_areHome_125 : decode cX8_areHome 125 = .ok (.iinc 5 1, 3) := by decide +kernel
theorem dX8_areHome_128 : decode cX8_areHome 128 = .ok (.goto (-110), 3) := by decide +kernel
theorem dX8_areHome_131 : decode cX8_areHome 131 = .ok (.iload_n 2, 1) := by decide +kernel
theorem dX8_areHome_132 : decode cX8_areHome 132 = .ok (.ifCond .eq 12, 3) := by decide +kernel
theorem dX8_areHome_135 : decode cX8_areHome 135 = .ok (.iload 4, 2) := by decide +kernel
theorem dX8_areHome_137 : decode cX8_areHome 137 = .ok (.ifCond .eq 7, 3) := by decide +kernel
theorem dX8_areHome_140 : decode cX8_areHome 140 = .ok (.iconst 1, 1) := by decide +kernel
theorem dX8_areHome_141 : decode cX8_areHome 141 = .ok (.goto 4, 3) := by decide +kernel
theorem dX8_areHome_144 : decode cX8_areHome 144 = .ok (.iconst 0, 1) := by decide +kernel
theorem dX8_areHome_145 : decode cX8_areHome 145 = .ok (.istore_n 2, 1) := by decide +kernel
theorem dX8_areHome_146 : decode cX8_areHome 146 = .ok (.iinc 3 1, 3) := by decide +kernel
theorem dX8_areHome_149 : decode cX8_areHome 149 = .ok (.goto (-145), 3) := by decide +kernel
theorem dX8_areHome_152 : decode cX8_areHome 152 = .ok (.iload_n 2, 1) := by decide +kernel
theorem dX8_areHome_153 : decode cX8_areHome 153 = .ok (.ireturn, 1) := by decide +kernel
set_option maxRecDepth 20000 in
theorem ggX8_firstHome_X8_layLine : GoodIn wsX8_firstHome wsX8_layLine := goodIn_r _ [7, 8, 9, 10, 11, 2, 1, 12, 13, 14, 15, 16, 17, 18, 19, 20, 6, 21, 22, 23, 24, 25, 26, 27, 28, 29, 30, 31, 32, 33, 34, 35, 36, 37, 38, 39, 40, 41, 42, 43, 44, 45, 46, 47, 48, 49, 50, 51, 52, 53, 54, 55, 56, 57, 58, 63, 64, 65, 66, 67, 68, 69, 70, 71, 72, 73, 74, 75, 76, 77, 78, 79, 80, 81, 82, 83, 84, 85, 86, 87, 88, 89, 90, 91, 92, 93, 94, 95, 96] (by decide +kernel) (by decide +kernel)
set_option maxRecDepth 20000 in
theorem gX8_firstHome_X8_layLine : GoodIn wsX8_firstHome (wsV RX8 247 RX8 yX8_layLine wsX8_layLine) := goodIn_app (goodIn_of _ (by decide +kernel)) ggX8_firstHome_X8_layLine
set_option maxRecDepth 20000 in
theorem ggX8_firstHome_X8_place : GoodIn wsX8_firstHome wsX8_place := goodIn_r _ [26, 12, 13, 63, 64, 65, 66, 67, 68, 69, 70, 71, 72, 73, 74, 75, 76, 77, 78, 79, 80, 81, 82, 83, 84, 85, 86, 87, 88, 89, 90, 91, 92, 93, 94, 95, 96] (by decide +kernel) (by decide +kernel)
set_option maxRecDepth 20000 in
theorem gX8_firstHome_X8_place : GoodIn wsX8_firstHome (wsV RX8 244 RX8 yX8_place wsX8_place) := goodIn_app (goodIn_of _ (by decide +kernel)) ggX8_firstHome_X8_place
set_option maxRecDepth 20000 in
theorem ggX8_firstHome_X8_areHome : GoodIn wsX8_firstHome wsX8_areHome := goodIn_r _ [62, 12, 31, 13, 63, 64, 65, 66, 67, 68, 69, 70, 71, 72, 73, 74, 75, 76, 77, 78, 79, 80, 81, 82, 83, 84, 85, 86, 87, 88, 89, 90, 91, 92, 93, 94, 95, 96] (by decide +kernel) (by decide +kernel)
set_option maxRecDepth 20000 in
theorem gX8_firstHome_X8_areHome : GoodIn wsX8_firstHome (wsV RX8 250 RX8 yX8_areHome wsX8_areHome) := goodIn_app (goodIn_of _ (by decide +kernel)) ggX8_firstHome_X8_areHome
theorem dX8_firstHome_0 : decode cX8_firstHome 0 = .ok (.aload_n 0, 1) := by decide +kernel
theorem dX8_firstHome_1 : decode cX8_firstHome 1 = .ok (.invokevirtual 247, 3) := by decide +kernel
theorem dX8_firstHome_4 : decode cX8_firstHome 4 = .ok (.iconst 0, 1) := by decide +kernel
theorem dX8_firstHome_5 : decode cX8_firstHome 5 = .ok (.istore_n 2, 1) := by decide +kernel
theorem dX8_firstHome_6 : decode cX8_firstHome 6 = .ok (.iload_n 2, 1) := by decide +kernel
theorem dX8_firstHome_7 : decode cX8_firstHome 7 = .ok (.aload_n 0, 1) := by decide +kernel
theorem dX8_firstHome_8 : decode cX8_firstHome 8 = .ok (.getfield 241, 3) := by decide +kernel
theorem dX8_firstHome_11 : decode cX8_firstHome 11 = .ok (.if_icmp .ge 34, 3) := by decide +kernel
theorem dX8_firstHome_14 : decode cX8_firstHome 14 = .ok (.aload_n 0, 1) := by decide +kernel
theorem dX8_firstHome_15 : decode cX8_firstHome 15 = .ok (.aload_n 0, 1) := by decide +kernel
theorem dX8_firstHome_16 : decode cX8_firstHome 16 = .ok (.getfield 49, 3) := by decide +kernel
theorem dX8_firstHome_19 : decode cX8_firstHome 19 = .ok (.iload_n 2, 1) := by decide +kernel
theorem dX8_firstHome_20 : decode cX8_firstHome 20 = .ok (.iaload, 1) := by decide +kernel
theorem dX8_firstHome_21 : decode cX8_firstHome 21 = .ok (.invokevirtual 244, 3) := by decide +kernel
theorem dX8_firstHome_24 : decode cX8_firstHome 24 = .ok (.aload_n 0, 1) := by decide +kernel
theorem dX8_firstHome_25 : decode cX8_firstHome 25 = .ok (.iload_n 1, 1) := by decide +kernel
theorem dX8_firstHome_26 : decode cX8_firstHome 26 = .ok (.invokevirtual 250, 3) := by decide +kernel
theorem dX8_firstHome_29 : decode cX8_firstHome 29 = .ok (.ifCond .eq 10, 3) := by decide +kernel
theorem dX8_firstHome_32 : decode cX8_firstHome 32 = .ok (.aload_n 0, 1) := by decide +kernel
theorem dX8_firstHome_33 : decode cX8_firstHome 33 = .ok (.getfield 49, 3) := by decide +kernel
theorem dX8_firstHome_36 : decode cX8_firstHome 36 = .ok (.iload_n 2, 1) := by decide +kernel
theorem dX8_firstHome_37 : decode cX8_firstHome 37 = .ok (.iaload, 1) := by decide +kernel
theorem dX8_firstHome_38 : decode cX8_firstHome 38 = .ok (.ireturn, 1) := by decide +kernel
theorem dX8_firstHome_39 : decode cX8_firstHome 39 = .ok (.iinc 2 1, 3) := by decide +kernel
theorem dX8_firstHome_42 : decode cX8_firstHome 42 = .ok (.goto (-36), 3) := by decide +kernel
theorem dX8_firstHome_45 : decode cX8_firstHome 45 = .ok (.iconst (-1), 1) := by decide +kernel
theorem dX8_firstHome_46 : decode cX8_firstHome 46 = .ok (.ireturn, 1) := by decide +kernel
set_option maxRecDepth 20000 in
theorem ggX8_fewestBy_X8_firstHome : GoodIn wsX8_fewestBy wsX8_firstHome := goodIn_r _ [6, 7, 8, 9, 10, 11, 5, 12, 13, 1, 14, 15, 16, 17, 18, 19, 20, 21, 22, 23, 24, 25, 26, 27, 28, 29, 30, 31, 32, 33, 34, 35, 36, 37, 38, 39, 40, 41, 42, 43, 44, 45, 46, 47, 48, 49, 50, 51, 52, 53, 54, 55, 56, 57, 58, 59, 60, 61, 62, 63, 64, 65, 66, 67, 68, 69, 70, 71, 72, 73, 74, 75, 76, 77, 78, 79, 80, 81, 82, 83, 84, 85, 86, 87, 88, 89, 90, 91, 92, 93, 94, 95, 96, 97, 98, 99, 100] (by decide +kernel) (by decide +kernel)
set_option maxRecDepth 20000 in
theorem gX8_fewestBy_X8_firstHome : GoodIn wsX8_fewestBy (wsV RX8 254 RX8 yX8_firstHome wsX8_firstHome) := goodIn_app (goodIn_of _ (by decide +kernel)) ggX8_fewestBy_X8_firstHome
theorem dX8_fewestBy_0 : decode cX8_fewestBy 0 = .ok (.aload_n 0, 1) := by decide +kernel
theorem dX8_fewestBy_1 : decode cX8_fewestBy 1 = .ok (.iload_n 1, 1) := by decide +kernel
theorem dX8_fewestBy_2 : decode cX8_fewestBy 2 = .ok (.invokevirtual 254, 3) := by decide +kernel
theorem dX8_fewestBy_5 : decode cX8_fewestBy 5 = .ok (.istore_n 2, 1) := by decide +kernel
theorem dX8_fewestBy_6 : decode cX8_fewestBy 6 = .ok (.iload_n 2, 1) := by decide +kernel
theorem dX8_fewestBy_7 : decode cX8_fewestBy 7 = .ok (.iconst (-1), 1) := by decide +kernel
theorem dX8_fewestBy_8 : decode cX8_fewestBy 8 = .ok (.if_icmp .ne 7, 3) := by decide +kernel
theorem dX8_fewestBy_11 : decode cX8_fewestBy 11 = .ok (.iconst (-1), 1) := by decide +kernel
theorem dX8_fewestBy_12 : decode cX8_fewestBy 12 = .ok (.goto 9, 3) := by decide +kernel
theorem dX8_fewestBy_15 : decode cX8_fewestBy 15 = .ok (.aload_n 0, 1) := by decide +kernel
theorem dX8_fewestBy_16 : decode cX8_fewestBy 16 = .ok (.getfield 46, 3) := by decide +kernel
theorem dX8_fewestBy_19 : decode cX8_fewestBy 19 = .ok (.iload_n 2, 1) := by decide +kernel
theorem dX8_fewestBy_20 : decode cX8_fewestBy 20 = .ok (.iaload, 1) := by decide +kernel
theorem dX8_fewestBy_21 : decode cX8_fewestBy 21 = .ok (.ireturn, 1) := by decide +kernel
set_option maxRecDepth 20000 in
theorem ggX8_fewest_X8_fewestBy : GoodIn wsX8_fewest wsX8_fewestBy := goodIn_r _ [5, 6, 7, 8, 9, 4, 10, 11, 12, 13, 14, 15, 16, 17, 18, 19, 20, 21, 22, 23, 24, 25, 26, 27, 28, 29, 30, 31, 32, 33, 34, 35, 36, 37, 38, 39, 40, 41, 42, 43, 44, 45, 46, 47, 48, 49, 50, 51, 52, 53, 54, 55, 56, 57, 58, 59, 60, 61, 62, 63, 64, 65, 66, 67, 68, 69, 70, 71, 72, 73, 74, 75, 76, 77, 78, 79, 80, 81, 82, 83, 84, 85, 86, 87, 88, 89, 90, 91, 92, 93, 94, 95, 96, 97, 98, 99, 100, 101, 102, 103, 104] (by decide +kernel) (by decide +kernel)
set_option maxRecDepth 20000 in
theorem gX8_fewest_X8_fewestBy : GoodIn wsX8_fewest (wsV RX8 258 RX8 yX8_fewestBy wsX8_fewestBy) := goodIn_app (goodIn_of _ (by decide +kernel)) ggX8_fewest_X8_fewestBy
theorem dX8_fewest_0 : decode cX8_fewest 0 = .ok (.aload_n 0, 1) := by decide +kernel
theorem dX8_fewest_1 : decode cX8_fewest 1 = .ok (.iconst 0, 1) := by decide +kernel
theorem dX8_fewest_2 : decode cX8_fewest 2 = .ok (.invokevirtual 258, 3) := by decide +kernel
theorem dX8_fewest_5 : decode cX8_fewest 5 = .ok (.ireturn, 1) := by decide +kernel
set_option maxRecDepth 20000 in
theorem ggX8_way_X8_in : GoodIn wsX8_way wsX8_in := goodIn_r _ [7] (by decide +kernel) (by decide +kernel)
set_option maxRecDepth 20000 in
theorem gX8_way_X8_in : GoodIn wsX8_way (va_wsS RX8 64 yX8_in wsX8_in) := goodIn_app (goodIn_of _ (by decide +kernel)) ggX8_way_X8_in
set_option maxRecDepth 20000 in
theorem ggX8_way_X8_firstHome : GoodIn wsX8_way wsX8_firstHome := goodIn_r _ [11, 12, 13, 14, 15, 16, 6, 17, 18, 1, 19, 20, 21, 22, 23, 24, 2, 3, 25, 26, 27, 28, 29, 30, 31, 32, 33, 34, 35, 36, 37, 38, 39, 40, 41, 42, 43, 44, 45, 46, 47, 48, 49, 50, 51, 4, 5, 7, 52, 53, 54, 55, 56, 57, 58, 59, 60, 61, 62, 63, 64, 65, 66, 67, 68, 69, 70, 71, 72, 73, 74, 75, 76, 77, 78, 79, 80, 81, 82, 83, 84, 85, 86, 87, 88, 89, 90, 91, 92, 93, 94, 95, 96, 97, 98, 99, 100] (by decide +kernel) (by decide +kernel)
set_option maxRecDepth 20000 in
theorem gX8_way_X8_firstHome : GoodIn wsX8_way (wsV RX8 254 RX8 yX8_firstHome wsX8_firstHome) := goodIn_app (goodIn_of _ (by decide +kernel)) ggX8_way_X8_firstHome
theorem dX8_way_0 : decode cX8_way 0 = .ok (.iload_n 1, 1) := by decide +kernel
theorem dX8_way_1 : decode cX8_way 1 = .ok (.ifCond .lt 12, 3) := by decide +kernel
theorem dX8_way_4 : decode cX8_way 4 = .ok (.iload_n 2, 1) := by decide +kernel
theorem dX8_way_5 : decode cX8_way 5 = .ok (.iconst 0, 1) := by decide +kernel
theorem dX8_way_6 : decode cX8_way 6 = .ok (.iconst 1, 1) := by decide +kernel
theorem dX8_way_7 : decode cX8_way 7 = .ok (.invokestatic 64, 3) := by decide +kernel
theorem dX8_way_10 : decode cX8_way 10 = .ok (.ifCond .ne 6, 3) := by decide +kernel
theorem dX8_way_13 : decode cX8_way 13 = .ok (.bipush (-3), 2) := by decide +kernel
theorem dX8_way_15 : decode cX8_way 15 = .ok (.ireturn, 1) := by decide +kernel
theorem dX8_way_16 : decode cX8_way 16 = .ok (.aload_n 0, 1) := by decide +kernel
theorem dX8_way_17 : decode cX8_way 17 = .ok (.iconst 0, 1) := by decide +kernel
theorem dX8_way_18 : decode cX8_way 18 = .ok (.invokevirtual 254, 3) := by decide +kernel
theorem dX8_way_21 : decode cX8_way 21 = .ok (.istore_n 3, 1) := by decide +kernel
theorem dX8_way_22 : decode cX8_way 22 = .ok (.iload_n 3, 1) := by decide +kernel
theorem dX8_way_23 : decode cX8_way 23 = .ok (.iconst (-1), 1) := by decide +kernel
theorem dX8_way_24 : decode cX8_way 24 = .ok (.if_icmp .eq 13, 3) := by decide +kernel
theorem dX8_way_27 : decode cX8_way 27 = .ok (.iload_n 1, 1) := by decide +kernel
theorem dX8_way_28 : decode cX8_way 28 = .ok (.aload_n 0, 1) := by decide +kernel
theorem dX8_way_29 : decode cX8_way 29 = .ok (.getfield 46, 3) := by decide +kernel
theorem dX8_way_32 : decode cX8_way 32 = .ok (.iload_n 3, 1) := by decide +kernel
theorem dX8_way_33 : decode cX8_way 33 = .ok (.iaload, 1) := by decide +kernel
theorem dX8_way_34 : decode cX8_way 34 = .ok (.if_icmp .lt 5, 3) := by decide +kernel
theorem dX8_way_37 : decode cX8_way 37 = .ok (.iconst (-1), 1) := by decide +kernel
theorem dX8_way_38 : decode cX8_way 38 = .ok (.ireturn, 1) := by decide +kernel
theorem dX8_way_39 : decode cX8_way 39 = .ok (.aload_n 0, 1) := by decide +kernel
theorem dX8_way_40 : decode cX8_way 40 = .ok (.getfield 46, 3) := by decide +kernel
theorem dX8_way_43 : decode cX8_way 43 = .ok (.iload_n 3, 1) := by decide +kernel
theorem dX8_way_44 : decode cX8_way 44 = .ok (.iaload, 1) := by decide +kernel
theorem dX8_way_45 : decode cX8_way 45 = .ok (.iload_n 1, 1) := by decide +kernel
theorem dX8_way_46 : decode cX8_way 46 = .ok (.iconst 1, 1) := by decide +kernel
theorem dX8_way_47 : decode cX8_way 47 = .ok (.iadd, 1) := by decide +kernel
theorem dX8_way_48 : decode cX8_way 48 = .ok (.if_icmp .le 13, 3) := by decide +kernel
theorem dX8_way_51 : decode cX8_way 51 = .ok (.aload_n 0, 1) := by decide +kernel
theorem dX8_way_52 : decode cX8_way 52 = .ok (.getfield 52, 3) := by decide +kernel
theorem dX8_way_55 : decode cX8_way 55 = .ok (.iload_n 3, 1) := by decide +kernel
theorem dX8_way_56 : decode cX8_way 56 = .ok (.iaload, 1) := by decide +kernel
theorem dX8_way_57 : decode cX8_way 57 = .ok (.istore_n 3, 1) := by decide +kernel
theorem dX8_way_58 : decode cX8_way 58 = .ok (.goto (-19), 3) := by decide +kernel
theorem dX8_way_61 : decode cX8_way 61 = .ok (.iload_n 2, 1) := by decide +kernel
theorem dX8_way_62 : decode cX8_way 62 = .ok (.ifCond .ne 15, 3) := by decide +kernel
theorem dX8_way_65 : decode cX8_way 65 = .ok (.aload_n 0, 1) := by decide +kernel
theorem dX8_way_66 : decode cX8_way 66 = .ok (.getfield 55, 3) := by decide +kernel
theorem dX8_way_69 : decode cX8_way 69 = .ok (.iload_n 3, 1) := by decide +kernel
theorem dX8_way_70 : decode cX8_way 70 = .ok (.iaload, 1) := by decide +kernel
theorem dX8_way_71 : decode cX8_way 71 = .ok (.bipush 12, 2) := by decide +kernel
theorem dX8_way_73 : decode cX8_way 73 = .ok (.idiv, 1) := by decide +kernel
theorem dX8_way_74 : decode cX8_way 74 = .ok (.goto 12, 3) := by decide +kernel
theorem dX8_way_77 : decode cX8_way 77 = .ok (.aload_n 0, 1) := by decide +kernel
theorem dX8_way_78 : decode cX8_way 78 = .ok (.getfield 55, 3) := by decide +kernel
theorem dX8_way_81 : decode cX8_way 81 = .ok (.iload_n 3, 1) := by decide +kernel
theorem dX8_way_82 : decode cX8_way 82 = .ok (.iaload, 1) := by decide +kernel
theorem dX8_way_83 : decode cX8_way 83 = .ok (.bipush 12, 2) := by decide +kernel
theorem dX8_way_85 : decode cX8_way 85 = .ok (.irem, 1) := by decide +kernel
theorem dX8_way_86 : decode cX8_way 86 = .ok (.ireturn, 1) := by decide +kernel
set_option maxRecDepth 20000 in
theorem ggX8_alike_X8_fewestBy : GoodIn wsX8_alike wsX8_fewestBy := goodIn_r _ [5, 6, 7, 8, 9, 4, 10, 11, 12, 13, 14, 15, 16, 17, 18, 19, 20, 21, 22, 23, 24, 25, 26, 27, 28, 29, 30, 31, 32, 33, 34, 35, 36, 37, 38, 39, 40, 41, 42, 43, 44, 45, 46, 47, 48, 49, 50, 51, 52, 53, 54, 55, 56, 57, 58, 59, 60, 61, 62, 63, 64, 65, 66, 67, 68, 69, 70, 71, 72, 73, 74, 75, 76, 77, 78, 79, 80, 81, 82, 83, 84, 85, 86, 87, 88, 89, 90, 91, 92, 93, 94, 95, 96, 97, 98, 99, 100, 101, 102, 103, 104] (by decide +kernel) (by decide +kernel)
set_option maxRecDepth 20000 in
theorem gX8_alike_X8_fewestBy : GoodIn wsX8_alike (wsV RX8 258 RX8 yX8_fewestBy wsX8_fewestBy) := goodIn_app (goodIn_of _ (by decide +kernel)) ggX8_alike_X8_fewestBy
theorem dX8_alike_0 : decode cX8_alike 0 = .ok (.aload_n 0, 1) := by decide +kernel
theorem dX8_alike_1 : decode cX8_alike 1 = .ok (.iconst 1, 1) := by decide +kernel
theorem dX8_alike_2 : decode cX8_alike 2 = .ok (.invokevirtual 258, 3) := by decide +kernel
theorem dX8_alike_5 : decode cX8_alike 5 = .ok (.ireturn, 1) := by decide +kernel
set_option maxRecDepth 20000 in
theorem ggX8_many_X8_layLine : GoodIn wsX8_many wsX8_layLine := goodIn_r _ [8, 9, 2, 10, 11, 3, 1, 12, 13, 14, 15, 16, 17, 18, 19, 20, 7, 21, 22, 23, 24, 25, 26, 27, 28, 29, 30, 31, 32, 33, 34, 35, 36, 37, 38, 39, 40, 41, 42, 43, 44, 45, 46, 47, 48, 49, 50, 51, 52, 53, 54, 55, 56, 57, 58, 59, 60, 61, 62, 63, 64, 65, 66, 67, 68, 69, 70, 71, 72, 73, 74, 75, 76, 77, 78, 79, 80, 81, 82, 83, 84, 85, 86, 87, 88, 89, 90, 91, 92] (by decide +kernel) (by decide +kernel)
set_option maxRecDepth 20000 in
theorem gX8_many_X8_layLine : GoodIn wsX8_many (wsV RX8 247 RX8 yX8_layLine wsX8_layLine) := goodIn_app (goodIn_of _ (by decide +kernel)) ggX8_many_X8_layLine
theorem dX8_many_0 : decode cX8_many 0 = .ok (.iload_n 1, 1) := by decide +kernel
theorem dX8_many_1 : decode cX8_many 1 = .ok (.ifCond .ge 6, 3) := by decide +kernel
theorem dX8_many_4 : decode cX8_many 4 = .ok (.bipush (-3), 2) := by decide +kernel
theorem dX8_many_6 : decode cX8_many 6 = .ok (.ireturn, 1) := by decide +kernel
theorem dX8_many_7 : decode cX8_many 7 = .ok (.aload_n 0, 1) := by decide +kernel
theorem dX8_many_8 : decode cX8_many 8 = .ok (.invokevirtual 247, 3) := by decide +kernel
theorem dX8_many_11 : decode cX8_many 11 = .ok (.iconst 0, 1) := by decide +kernel
theorem dX8_many_12 : decode cX8_many 12 = .ok (.istore_n 2, 1) := by decide +kernel
theorem dX8_many_13 : decode cX8_many 13 = .ok (.iconst 0, 1) := by decide +kernel
theorem dX8_many_14 : decode cX8_many 14 = .ok (.istore_n 3, 1) := by decide +kernel
theorem dX8_many_15 : decode cX8_many 15 = .ok (.iload_n 3, 1) := by decide +kernel
theorem dX8_many_16 : decode cX8_many 16 = .ok (.aload_n 0, 1) := by decide +kernel
theorem dX8_many_17 : decode cX8_many 17 = .ok (.getfield 241, 3) := by decide +kernel
theorem dX8_many_20 : decode cX8_many 20 = .ok (.if_icmp .ge 32, 3) := by decide +kernel
theorem dX8_many_23 : decode cX8_many 23 = .ok (.iload_n 2, 1) := by decide +kernel
theorem dX8_many_24 : decode cX8_many 24 = .ok (.aload_n 0, 1) := by decide +kernel
theorem dX8_many_25 : decode cX8_many 25 = .ok (.getfield 46, 3) := by decide +kernel
theorem dX8_many_28 : decode cX8_many 28 = .ok (.aload_n 0, 1) := by decide +kernel
theorem dX8_many_29 : decode cX8_many 29 = .ok (.getfield 49, 3) := by decide +kernel
theorem dX8_many_32 : decode cX8_many 32 = .ok (.iload_n 3, 1) := by decide +kernel
theorem dX8_many_33 : decode cX8_many 33 = .ok (.iaload, 1) := by decide +kernel
theorem dX8_many_34 : decode cX8_many 34 = .ok (.iaload, 1) := by decide +kernel
theorem dX8_many_35 : decode cX8_many 35 = .ok (.iload_n 1, 1) := by decide +kernel
theorem dX8_many_36 : decode cX8_many 36 = .ok (.if_icmp .ne 7, 3) := by decide +kernel
theorem dX8_many_39 : decode cX8_many 39 = .ok (.iconst 1, 1) := by decide +kernel
theorem dX8_many_40 : decode cX8_many 40 = .ok (.goto 4, 3) := by decide +kernel
theorem dX8_many_43 : decode cX8_many 43 = .ok (.iconst 0, 1) := by decide +kernel
theorem dX8_many_44 : decode cX8_many 44 = .ok (.iadd, 1) := by decide +kernel
theorem dX8_many_45 : decode cX8_many 45 = .ok (.istore_n 2, 1) := by decide +kernel
theorem dX8_many_46 : decode cX8_many 46 = .ok (.iinc 3 1, 3) := by decide +kernel
theorem dX8_many_49 : decode cX8_many 49 = .ok (.goto (-34), 3) := by decide +kernel
theorem dX8_many_52 : decode cX8_many 52 = .ok (.iload_n 2, 1) := by decide +kernel
theorem dX8_many_53 : decode cX8_many 53 = .ok (.ireturn, 1) := by decide +kernel
set_option maxRecDepth 20000 in
theorem ggX8_farthest_X8_in : GoodIn wsX8_farthest wsX8_in := goodIn_r _ [7] (by decide +kernel) (by decide +kernel)
set_option maxRecDepth 20000 in
theorem gX8_farthest_X8_in : GoodIn wsX8_farthest (va_wsS RX8 64 yX8_in wsX8_in) := goodIn_app (goodIn_of _ (by decide +kernel)) ggX8_farthest_X8_in
set_option maxRecDepth 20000 in
theorem ggX8_farthest_X8_layLine : GoodIn wsX8_farthest wsX8_layLine := goodIn_r _ [11, 12, 1, 13, 14, 2, 3, 15, 16, 17, 18, 19, 20, 21, 22, 23, 6, 24, 25, 26, 27, 28, 29, 30, 31, 32, 33, 34, 35, 36, 37, 38, 39, 40, 41, 42, 43, 44, 45, 46, 47, 4, 5, 7, 48, 49, 50, 51, 52, 53, 54, 55, 56, 57, 58, 59, 60, 61, 62, 63, 64, 65, 66, 67, 68, 69, 70, 71, 72, 73, 74, 75, 76, 77, 78, 79, 80, 81, 82, 83, 84, 85, 86, 87, 88, 89, 90, 91, 92] (by decide +kernel) (by decide +kernel)
set_option maxRecDepth 20000 in
theorem gX8_farthest_X8_layLine : GoodIn wsX8_farthest (wsV RX8 247 RX8 yX8_layLine wsX8_layLine) := goodIn_app (goodIn_of _ (by decide +kernel)) ggX8_farthest_X8_layLine
theorem dX8_farthest_0 : decode cX8_farthest 0 = .ok (.iload_n 1, 1) := by decide +kernel
theorem dX8_farthest_1 : decode cX8_farthest 1 = .ok (.iconst 0, 1) := by decide +kernel
theorem dX8_farthest_2 : decode cX8_farthest 2 = .ok (.iconst 1, 1) := by decide +kernel
theorem dX8_farthest_3 : decode cX8_farthest 3 = .ok (.invokestatic 64, 3) := by decide +kernel
theorem dX8_farthest_6 : decode cX8_farthest 6 = .ok (.ifCond .ne 6, 3) := by decide +kernel
theorem dX8_farthest_9 : decode cX8_farthest 9 = .ok (.bipush (-3), 2) := by decide +kernel
theorem dX8_farthest_11 : decode cX8_farthest 11 = .ok (.ireturn, 1) := by decide +kernel
theorem dX8_farthest_12 : decode cX8_farthest 12 = .ok (.aload_n 0, 1) := by decide +kernel
theorem dX8_farthest_13 : decode cX8_farthest 13 = .ok (.invokevirtual 247, 3) := by decide +kernel
theorem dX8_farthest_16 : decode cX8_farthest 16 = .ok (.aload_n 0, 1) := by decide +kernel
theorem dX8_farthest_17 : decode cX8_farthest 17 = .ok (.getfield 46, 3) := by decide +kernel
theorem dX8_farthest_20 : decode cX8_farthest 20 = .ok (.aload_n 0, 1) := by decide +kernel
theorem dX8_farthest_21 : decode cX8_farthest 21 = .ok (.getfield 49, 3) := by decide +kernel
theorem dX8_farthest_24 : decode cX8_farthest 24 = .ok (.aload_n 0, 1) := by decide +kernel
theorem dX8_farthest_25 : decode cX8_farthest 25 = .ok (.getfield 241, 3) := by decide +kernel
theorem dX8_farthest_28 : decode cX8_farthest 28 = .ok (.iconst 1, 1) := by decide +kernel
theorem dX8_farthest_29 : decode cX8_farthest 29 = .ok (.isub, 1) := by decide +kernel
theorem dX8_farthest_30 : decode cX8_farthest 30 = .ok (.iaload, 1) := by decide +kernel
theorem dX8_farthest_31 : decode cX8_farthest 31 = .ok (.iaload, 1) := by decide +kernel
theorem dX8_farthest_32 : decode cX8_farthest 32 = .ok (.istore_n 2, 1) := by decide +kernel
theorem dX8_farthest_33 : decode cX8_farthest 33 = .ok (.iconst 0, 1) := by decide +kernel
theorem dX8_farthest_34 : decode cX8_farthest 34 = .ok (.istore_n 3, 1) := by decide +kernel
theorem dX8_farthest_35 : decode cX8_farthest 35 = .ok (.iconst 0, 1) := by decide +kernel
theorem dX8_farthest_36 : decode cX8_farthest 36 = .ok (.istore 4, 2) := by decide +kernel
theorem dX8_farthest_38 : decode cX8_farthest 38 = .ok (.iload 4, 2) := by decide +kernel
theorem dX8_farthest_40 : decode cX8_farthest 40 = .ok (.aload_n 0, 1) := by decide +kernel
theorem dX8_farthest_41 : decode cX8_farthest 41 = .ok (.getfield 241, 3) := by decide +kernel
theorem dX8_farthest_44 : decode cX8_farthest 44 = .ok (.if_icmp .ge 33, 3) := by decide +kernel
theorem dX8_farthest_47 : decode cX8_farthest 47 = .ok (.iload_n 3, 1) := by decide +kernel
theorem dX8_farthest_48 : decode cX8_farthest 48 = .ok (.aload_n 0, 1) := by decide +kernel
theorem dX8_farthest_49 : decode cX8_farthest 49 = .ok (.getfield 46, 3) := by decide +kernel
theorem dX8_farthest_52 : decode cX8_farthest 52 = .ok (.aload_n 0, 1) := by decide +kernel
theorem dX8_farthest_53 : decode cX8_farthest 53 = .ok (.getfield 49, 3) := by decide +kernel
theorem dX8_farthest_56 : decode cX8_farthest 56 = .ok (.iload 4, 2) := by decide +kernel
theorem dX8_farthest_58 : decode cX8_farthest 58 = .ok (.iaload, 1) := by decide +kernel
theorem dX8_farthest_59 : decode cX8_farthest 59 = .ok (.iaload, 1) := by decide +kernel
theorem dX8_farthest_60 : decode cX8_farthest 60 = .ok (.iload_n 2, 1) := by decide +kernel
theorem dX8_farthest_61 : decode cX8_farthest 61 = .ok (.if_icmp .ne 7, 3) := by decide +kernel
theorem dX8_farthest_64 : decode cX8_farthest 64 = .ok (.iconst 1, 1) := by decide +kernel
theorem dX8_farthest_65 : decode cX8_farthest 65 = .ok (.goto 4, 3) := by decide +kernel
theorem dX8_farthest_68 : decode cX8_farthest 68 = .ok (.iconst 0, 1) := by decide +kernel
theorem dX8_farthest_69 : decode cX8_farthest 69 = .ok (.iadd, 1) := by decide +kernel
theorem dX8_farthest_70 : decode cX8_farthest 70 = .ok (.istore_n 3, 1) := by decide +kernel
theorem dX8_farthest_71 : decode cX8_farthest 71 = .ok (.iinc 4 1, 3) := by decide +kernel
theorem dX8_farthest_74 : decode cX8_farthest 74 = .ok (.goto (-36), 3) := by decide +kernel
theorem dX8_farthest_77 : decode cX8_farthest 77 = .ok (.iload_n 1, 1) := by decide +kernel
theorem dX8_farthest_78 : decode cX8_farthest 78 = .ok (.ifCond .ne 7, 3) := by decide +kernel
theorem dX8_farthest_81 : decode cX8_farthest 81 = .ok (.iload_n 2, 1) := by decide +kernel
theorem dX8_farthest_82 : decode cX8_farthest 82 = .ok (.goto 4, 3) := by decide +kernel
theorem dX8_farthest_85 : decode cX8_farthest 85 = .ok (.iload_n 3, 1) := by decide +kernel
theorem dX8_farthest_86 : decode cX8_farthest 86 = .ok (.ireturn, 1) := by decide +kernel
set_option maxRecDepth 20000 in
theorem ggX8_left_X8_isSquare : GoodIn wsX8_left wsX8_isSquare := goodIn_r _ [9, 10, 11, 12, 13, 8, 14, 75, 76, 77, 78, 79, 80, 81, 82, 83, 84, 85, 86, 87, 88, 89, 90, 91, 92, 93, 94, 95, 96, 97, 98, 99, 100, 101, 102, 103, 104, 105, 106, 107, 108] (by decide +kernel) (by decide +kernel)
set_option maxRecDepth 20000 in
theorem gX8_left_X8_isSquare : GoodIn wsX8_left (wsV RX8 189 RX8 yX8_isSquare wsX8_isSquare) := goodIn_app (goodIn_of _ (by decide +kernel)) ggX8_left_X8_isSquare
set_option maxRecDepth 20000 in
theorem ggX8_left_X8_has : GoodIn wsX8_left wsX8_has := goodIn_r _ [17] (by decide +kernel) (by decide +kernel)
set_option maxRecDepth 20000 in
theorem gX8_left_X8_has : GoodIn wsX8_left (va_wsS RX8 126 yX8_has wsX8_has) := goodIn_app (goodIn_of _ (by decide +kernel)) ggX8_left_X8_has
set_option maxRecDepth 20000 in
theorem ggX8_left_X8_fewestBy : GoodIn wsX8_left wsX8_fewestBy := goodIn_r _ [21, 22, 23, 24, 25, 8, 26, 27, 28, 29, 30, 31, 32, 33, 3, 34, 2, 35, 10, 11, 36, 37, 38, 39, 40, 41, 42, 43, 44, 45, 46, 47, 48, 49, 50, 4, 51, 52, 53, 54, 55, 56, 57, 58, 59, 60, 61, 62, 1, 12, 13, 14, 15, 16, 17, 63, 64, 65, 66, 67, 68, 69, 70, 71, 72, 73, 74, 75, 76, 77, 78, 79, 80, 81, 82, 83, 84, 85, 86, 87, 88, 89, 90, 91, 92, 93, 94, 95, 96, 97, 98, 99, 100, 101, 102, 103, 104, 105, 106, 107, 108] (by decide +kernel) (by decide +kernel)
set_option maxRecDepth 20000 in
theorem gX8_left_X8_fewestBy : GoodIn wsX8_left (wsV RX8 258 RX8 yX8_fewestBy wsX8_fewestBy) := goodIn_app (goodIn_of _ (by decide +kernel)) ggX8_left_X8_fewestBy
theorem dX8_left_0 : decode cX8_left 0 = .ok (.aload_n 0, 1) := by decide +kernel
theorem dX8_left_1 : decode cX8_left 1 = .ok (.iload_n 1, 1) := by decide +kernel
theorem dX8_left_2 : decode cX8_left 2 = .ok (.invokevirtual 189, 3) := by decide +kernel
theorem dX8_left_5 : decode cX8_left 5 = .ok (.ifCond .ne 6, 3) := by decide +kernel
theorem dX8_left_8 : decode cX8_left 8 = .ok (.bipush (-2), 2) := by decide +kernel
theorem dX8_left_10 : decode cX8_left 10 = .ok (.ireturn, 1) := by decide +kernel
theorem dX8_left_11 : decode cX8_left 11 = .ok (.aload_n 0, 1) := by decide +kernel
theorem dX8_left_12 : decode cX8_left 12 = .ok (.getfield 167, 3) := by decide +kernel
theorem dX8_left_15 : decode cX8_left 15 = .ok (.iload_n 1, 1) := by decide +kernel
theorem dX8_left_16 : decode cX8_left 16 = .ok (.invokestatic 126, 3) := by decide +kernel
theorem dX8_left_19 : decode cX8_left 19 = .ok (.istore_n 2, 1) := by decide +kernel
theorem dX8_left_20 : decode cX8_left 20 = .ok (.iconst 0, 1) := by decide +kernel
theorem dX8_left_21 : decode cX8_left 21 = .ok (.istore_n 3, 1) := by decide +kernel
theorem dX8_left_22 : decode cX8_left 22 = .ok (.iload_n 3, 1) := by decide +kernel
theorem dX8_left_23 : decode cX8_left 23 = .ok (.aload_n 0, 1) := by decide +kernel
theorem dX8_left_24 : decode cX8_left 24 = .ok (.getfield 68, 3) := by decide +kernel
theorem dX8_left_27 : decode cX8_left 27 = .ok (.if_icmp .ge 43, 3) := by decide +kernel
theorem dX8_left_30 : decode cX8_left 30 = .ok (.iload_n 2, 1) := by decide +kernel
theorem dX8_left_31 : decode cX8_left 31 = .ok (.ifCond .ne 27, 3) := by decide +kernel
theorem dX8_left_34 : decode cX8_left 34 = .ok (.aload_n 0, 1) := by decide +kernel
theorem dX8_left_35 : decode cX8_left 35 = .ok (.getfield 32, 3) := by decide +kernel
theorem dX8_left_38 : decode cX8_left 38 = .ok (.iload_n 3, 1) := by decide +kernel
theorem dX8_left_39 : decode cX8_left 39 = .ok (.iaload, 1) := by decide +kernel
theorem dX8_left_40 : decode cX8_left 40 = .ok (.iload_n 1, 1) := by decide +kernel
theorem dX8_left_41 : decode cX8_left 41 = .ok (.if_icmp .eq 17, 3) := by decide +kernel
theorem dX8_left_44 : decode cX8_left 44 = .ok (.aload_n 0, 1) := by decide +kernel
theorem dX8_left_45 : decode cX8_left 45 = .ok (.getfield 16, 3) := by decide +kernel
theorem dX8_left_48 : decode cX8_left 48 = .ok (.iconst 4, 1) := by decide +kernel
theorem dX8_left_49 : decode cX8_left 49 = .ok (.iload_n 3, 1) := by decide +kernel
theorem dX8_left_50 : decode cX8_left 50 = .ok (.imul, 1) := by decide +kernel
theorem dX8_left_51 : decode cX8_left 51 = .ok (.iconst 3, 1) := by decide +kernel
theorem dX8_left_52 : decode cX8_left 52 = .ok (.iadd, 1) := by decide +kernel
theorem dX8_left_53 : decode cX8_left 53 = .ok (.iaload, 1) := by decide +kernel
theorem dX8_left_54 : decode cX8_left 54 = .ok (.iload_n 1, 1) := by decide +kernel
theorem dX8_left_55 : decode cX8_left 55 = .ok (.if_icmp .ne 7, 3) := by decide +kernel
theorem dX8_left_58 : decode cX8_left 58 = .ok (.iconst 1, 1) := by decide +kernel
theorem dX8_left_59 : decode cX8_left 59 = .ok (.goto 4, 3) := by decide +kernel
theorem dX8_left_62 : decode cX8_left 62 = .ok (.iconst 0, 1) := by decide +kernel
theorem dX8_left_63 : decode cX8_left 63 = .ok (.istore_n 2, 1) := by decide +kernel
theorem dX8_left_64 : decode cX8_left 64 = .ok (.iinc 3 1, 3) := by decide +kernel
theorem dX8_left_67 : decode cX8_left 67 = .ok (.goto (-45), 3) := by decide +kernel
theorem dX8_left_70 : decode cX8_left 70 = .ok (.iload_n 2, 1) := by decide +kernel
theorem dX8_left_71 : decode cX8_left 71 = .ok (.ifCond .eq 6, 3) := by decide +kernel
theorem dX8_left_74 : decode cX8_left 74 = .ok (.bipush (-4), 2) := by decide +kernel
theorem dX8_left_76 : decode cX8_left 76 = .ok (.ireturn, 1) := by decide +kernel
theorem dX8_left_77 : decode cX8_left 77 = .ok (.aload_n 0, 1) := by decide +kernel
theorem dX8_left_78 : decode cX8_left 78 = .ok (.aload_n 0, 1) := by decide +kernel
theorem dX8_left_79 : decode cX8_left 79 = .ok (.getfield 167, 3) := by decide +kernel
theorem dX8_left_82 : decode cX8_left 82 = .ok (.iconst 1, 1) := by decide +kernel
theorem dX8_left_83 : decode cX8_left 83 = .ok (.iload_n 1, 1) := by decide +kernel
theorem dX8_left_84 : decode cX8_left 84 = .ok (.ishl, 1) := by decide +kernel
theorem dX8_left_85 : decode cX8_left 85 = .ok (.ior, 1) := by decide +kernel
theorem dX8_left_86 : decode cX8_left 86 = .ok (.putfield 167, 3) := by decide +kernel
theorem dX8_left_89 : decode cX8_left 89 = .ok (.aload_n 0, 1) := by decide +kernel
theorem dX8_left_90 : decode cX8_left 90 = .ok (.iconst 0, 1) := by decide +kernel
theorem dX8_left_91 : decode cX8_left 91 = .ok (.invokevirtual 258, 3) := by decide +kernel
theorem dX8_left_94 : decode cX8_left 94 = .ok (.istore_n 3, 1) := by decide +kernel
theorem dX8_left_95 : decode cX8_left 95 = .ok (.aload_n 0, 1) := by decide +kernel
theorem dX8_left_96 : decode cX8_left 96 = .ok (.aload_n 0, 1) := by decide +kernel
theorem dX8_left_97 : decode cX8_left 97 = .ok (.getfield 167, 3) := by decide +kernel
theorem dX8_left_100 : decode cX8_left 100 = .ok (.iconst 1, 1) := by decide +kernel
theorem dX8_left_101 : decode cX8_left 101 = .ok (.iload_n 1, 1) := by decide +kernel
theorem dX8_left_102 : decode cX8_left 102 = .ok (.ishl, 1) := by decide +kernel
theorem dX8_left_103 : decode cX8_left 103 = .ok (.iconst (-1), 1) := by decide +kernel
theorem dX8_left_104 : decode cX8_left 104 = .ok (.ixor, 1) := by decide +kernel
theorem dX8_left_105 : decode cX8_left 105 = .ok (.iand, 1) := by decide +kernel
theorem dX8_left_106 : decode cX8_left 106 = .ok (.putfield 167, 3) := by decide +kernel
theorem dX8_left_109 : decode cX8_left 109 = .ok (.iload_n 3, 1) := by decide +kernel
theorem dX8_left_110 : decode cX8_left 110 = .ok (.ireturn, 1) := by decide +kernel
set_option maxRecDepth 20000 in
theorem ggX8_added_X8_isSquare : GoodIn wsX8_added wsX8_isSquare := goodIn_r _ [6, 7, 8, 9, 10, 5, 11, 75, 76, 77, 78, 79, 80, 81, 82, 83, 84, 85, 86, 87, 88, 89, 90, 91, 92, 93, 94, 95, 96, 97, 98, 99, 100, 101, 102, 103, 104, 105, 106, 107, 108] (by decide +kernel) (by decide +kernel)
set_option maxRecDepth 20000 in
theorem gX8_added_X8_isSquare : GoodIn wsX8_added (wsV RX8 189 RX8 yX8_isSquare wsX8_isSquare) := goodIn_app (goodIn_of _ (by decide +kernel)) ggX8_added_X8_isSquare
set_option maxRecDepth 20000 in
theorem ggX8_added_X8_has : GoodIn wsX8_added wsX8_has := goodIn_r _ [14] (by decide +kernel) (by decide +kernel)
set_option maxRecDepth 20000 in
theorem gX8_added_X8_has : GoodIn wsX8_added (va_wsS RX8 126 yX8_has wsX8_has) := goodIn_app (goodIn_of _ (by decide +kernel)) ggX8_added_X8_has
set_option maxRecDepth 20000 in
theorem ggX8_added_X8_fewestBy : GoodIn wsX8_added wsX8_fewestBy := goodIn_r _ [18, 19, 20, 21, 22, 5, 23, 24, 25, 26, 27, 28, 29, 30, 31, 32, 33, 34, 7, 8, 35, 36, 37, 38, 39, 40, 41, 42, 43, 44, 45, 46, 47, 48, 49, 50, 51, 52, 53, 54, 55, 56, 57, 58, 59, 60, 61, 62, 1, 9, 10, 11, 12, 13, 14, 63, 64, 65, 66, 67, 68, 69, 70, 71, 72, 73, 74, 75, 76, 77, 78, 79, 80, 81, 82, 83, 84, 85, 86, 87, 88, 89, 90, 91, 92, 93, 94, 95, 96, 97, 98, 99, 100, 101, 102, 103, 104, 105, 106, 107, 108] (by decide +kernel) (by decide +kernel)
set_option maxRecDepth 20000 in
theorem gX8_added_X8_fewestBy : GoodIn wsX8_added (wsV RX8 258 RX8 yX8_fewestBy wsX8_fewestBy) := goodIn_app (goodIn_of _ (by decide +kernel)) ggX8_added_X8_fewestBy
theorem dX8_added_0 : decode cX8_added 0 = .ok (.aload_n 0, 1) := by decide +kernel
theorem dX8_added_1 : decode cX8_added 1 = .ok (.iload_n 1, 1) := by decide +kernel
theorem dX8_added_2 : decode cX8_added 2 = .ok (.invokevirtual 189, 3) := by decide +kernel
theorem dX8_added_5 : decode cX8_added 5 = .ok (.ifCond .ne 6, 3) := by decide +kernel
theorem dX8_added_8 : decode cX8_added 8 = .ok (.bipush (-2), 2) := by decide +kernel
theorem dX8_added_10 : decode cX8_added 10 = .ok (.ireturn, 1) := by decide +kernel
theorem dX8_added_11 : decode cX8_added 11 = .ok (.aload_n 0, 1) := by decide +kernel
theorem dX8_added_12 : decode cX8_added 12 = .ok (.getfield 167, 3) := by decide +kernel
theorem dX8_added_15 : decode cX8_added 15 = .ok (.iload_n 1, 1) := by decide +kernel
theorem dX8_added_16 : decode cX8_added 16 = .ok (.invokestatic 126, 3) := by decide +kernel
theorem dX8_added_19 : decode cX8_added 19 = .ok (.ifCond .ne 6, 3) := by decide +kernel
theorem dX8_added_22 : decode cX8_added 22 = .ok (.bipush (-4), 2) := by decide +kernel
theorem dX8_added_24 : decode cX8_added 24 = .ok (.ireturn, 1) := by decide +kernel
theorem dX8_added_25 : decode cX8_added 25 = .ok (.aload_n 0, 1) := by decide +kernel
theorem dX8_added_26 : decode cX8_added 26 = .ok (.aload_n 0, 1) := by decide +kernel
theorem dX8_added_27 : decode cX8_added 27 = .ok (.getfield 167, 3) := by decide +kernel
theorem dX8_added_30 : decode cX8_added 30 = .ok (.iconst 1, 1) := by decide +kernel
theorem dX8_added_31 : decode cX8_added 31 = .ok (.iload_n 1, 1) := by decide +kernel
theorem dX8_added_32 : decode cX8_added 32 = .ok (.ishl, 1) := by decide +kernel
theorem dX8_added_33 : decode cX8_added 33 = .ok (.iconst (-1), 1) := by decide +kernel
theorem dX8_added_34 : decode cX8_added 34 = .ok (.ixor, 1) := by decide +kernel
theorem dX8_added_35 : decode cX8_added 35 = .ok (.iand, 1) := by decide +kernel
theorem dX8_added_36 : decode cX8_added 36 = .ok (.putfield 167, 3) := by decide +kernel
theorem dX8_added_39 : decode cX8_added 39 = .ok (.aload_n 0, 1) := by decide +kernel
theorem dX8_added_40 : decode cX8_added 40 = .ok (.iconst 0, 1) := by decide +kernel
theorem dX8_added_41 : decode cX8_added 41 = .ok (.invokevirtual 258, 3) := by decide +kernel
theorem dX8_added_44 : decode cX8_added 44 = .ok (.istore_n 2, 1) := by decide +kernel
theorem dX8_added_45 : decode cX8_added 45 = .ok (.aload_n 0, 1) := by decide +kernel
theorem dX8_added_46 : decode cX8_added 46 = .ok (.aload_n 0, 1) := by decide +kernel
theorem dX8_added_47 : decode cX8_added 47 = .ok (.getfield 167, 3) := by decide +kernel
theorem dX8_added_50 : decode cX8_added 50 = .ok (.iconst 1, 1) := by decide +kernel
theorem dX8_added_51 : decode cX8_added 51 = .ok (.iload_n 1, 1) := by decide +kernel
theorem dX8_added_52 : decode cX8_added 52 = .ok (.ishl, 1) := by decide +kernel
theorem dX8_added_53 : decode cX8_added 53 = .ok (.ior, 1) := by decide +kernel
theorem dX8_added_54 : decode cX8_added 54 = .ok (.putfield 167, 3) := by decide +kernel
theorem dX8_added_57 : decode cX8_added 57 = .ok (.iload_n 2, 1) := by decide +kernel
theorem dX8_added_58 : decode cX8_added 58 = .ok (.ireturn, 1) := by decide +kernel
set_option maxRecDepth 20000 in
theorem ggX8_row_X8_isMan : GoodIn wsX8_row wsX8_isMan := goodIn_r _ [7, 8, 9, 10, 6, 11, 18, 19, 20, 21, 22, 23, 24, 25, 26, 27, 28, 29, 30, 31, 32, 33, 34, 35, 36, 37, 38, 39, 40, 41, 42, 43, 44, 45, 46, 47, 48, 49, 50, 51] (by decide +kernel) (by decide +kernel)
set_option maxRecDepth 20000 in
theorem gX8_row_X8_isMan : GoodIn wsX8_row (wsV RX8 192 RX8 yX8_isMan wsX8_isMan) := goodIn_app (goodIn_of _ (by decide +kernel)) ggX8_row_X8_isMan
set_option maxRecDepth 20000 in
theorem ggX8_row_X8_isSquare : GoodIn wsX8_row wsX8_isSquare := goodIn_r _ [15, 16, 17, 9, 10, 6, 11, 18, 19, 20, 21, 22, 23, 24, 25, 26, 27, 28, 29, 30, 31, 32, 33, 34, 35, 36, 37, 38, 39, 40, 41, 42, 43, 44, 45, 46, 47, 48, 49, 50, 51] (by decide +kernel) (by decide +kernel)
set_option maxRecDepth 20000 in
theorem gX8_row_X8_isSquare : GoodIn wsX8_row (wsV RX8 189 RX8 yX8_isSquare wsX8_isSquare) := goodIn_app (goodIn_of _ (by decide +kernel)) ggX8_row_X8_isSquare
theorem dX8_row_0 : decode cX8_row 0 = .ok (.aload_n 0, 1) := by decide +kernel
theorem dX8_row_1 : decode cX8_row 1 = .ok (.iload_n 1, 1) := by decide +kernel
theorem dX8_row_2 : decode cX8_row 2 = .ok (.invokevirtual 192, 3) := by decide +kernel
theorem dX8_row_5 : decode cX8_row 5 = .ok (.ifCond .eq 11, 3) := by decide +kernel
theorem dX8_row_8 : decode cX8_row 8 = .ok (.aload_n 0, 1) := by decide +kernel
theorem dX8_row_9 : decode cX8_row 9 = .ok (.iload_n 2, 1) := by decide +kernel
theorem dX8_row_10 : decode cX8_row 10 = .ok (.invokevirtual 189, 3) := by decide +kernel
theorem dX8_row_13 : decode cX8_row 13 = .ok (.ifCond .ne 6, 3) := by decide +kernel
theorem dX8_row_16 : decode cX8_row 16 = .ok (.bipush (-2), 2) := by decide +kernel
theorem dX8_row_18 : decode cX8_row 18 = .ok (.ireturn, 1) := by decide +kernel
theorem dX8_row_19 : decode cX8_row 19 = .ok (.aload_n 0, 1) := by decide +kernel
theorem dX8_row_20 : decode cX8_row 20 = .ok (.getfield 186, 3) := by decide +kernel
theorem dX8_row_23 : decode cX8_row 23 = .ok (.bipush 12, 2) := by decide +kernel
theorem dX8_row_25 : decode cX8_row 25 = .ok (.if_icmp .ne 6, 3) := by decide +kernel
theorem dX8_row_28 : decode cX8_row 28 = .ok (.bipush (-5), 2) := by decide +kernel
theorem dX8_row_30 : decode cX8_row 30 = .ok (.ireturn, 1) := by decide +kernel
theorem dX8_row_31 : decode cX8_row 31 = .ok (.aload_n 0, 1) := by decide +kernel
theorem dX8_row_32 : decode cX8_row 32 = .ok (.getfield 42, 3) := by decide +kernel
theorem dX8_row_35 : decode cX8_row 35 = .ok (.iconst 2, 1) := by decide +kernel
theorem dX8_row_36 : decode cX8_row 36 = .ok (.aload_n 0, 1) := by decide +kernel
theorem dX8_row_37 : decode cX8_row 37 = .ok (.getfield 186, 3) := by decide +kernel
theorem dX8_row_40 : decode cX8_row 40 = .ok (.imul, 1) := by decide +kernel
theorem dX8_row_41 : decode cX8_row 41 = .ok (.iload_n 1, 1) := by decide +kernel
theorem dX8_row_42 : decode cX8_row 42 = .ok (.iastore, 1) := by decide +kernel
theorem dX8_row_43 : decode cX8_row 43 = .ok (.aload_n 0, 1) := by decide +kernel
theorem dX8_row_44 : decode cX8_row 44 = .ok (.getfield 42, 3) := by decide +kernel
theorem dX8_row_47 : decode cX8_row 47 = .ok (.iconst 2, 1) := by decide +kernel
theorem dX8_row_48 : decode cX8_row 48 = .ok (.aload_n 0, 1) := by decide +kernel
theorem dX8_row_49 : decode cX8_row 49 = .ok (.getfield 186, 3) := by decide +kernel
theorem dX8_row_52 : decode cX8_row 52 = .ok (.imul, 1) := by decide +kernel
theorem dX8_row_53 : decode cX8_row 53 = .ok (.iconst 1, 1) := by decide +kernel
theorem dX8_row_54 : decode cX8_row 54 = .ok (.iadd, 1) := by decide +kernel
theorem dX8_row_55 : decode cX8_row 55 = .ok (.iload_n 2, 1) := by decide +kernel
theorem dX8_row_56 : decode cX8_row 56 = .ok (.iastore, 1) := by decide +kernel
theorem dX8_row_57 : decode cX8_row 57 = .ok (.aload_n 0, 1) := by decide +kernel
theorem dX8_row_58 : decode cX8_row 58 = .ok (.dup, 1) := by decide +kernel
theorem dX8_row_59 : decode cX8_row 59 = .ok (.getfield 186, 3) := by decide +kernel
theorem dX8_row_62 : decode cX8_row 62 = .ok (.iconst 1, 1) := by decide +kernel
theorem dX8_row_63 : decode cX8_row 63 = .ok (.iadd, 1) := by decide +kernel
theorem dX8_row_64 : decode cX8_row 64 = .ok (.putfield 186, 3) := by decide +kernel
theorem dX8_row_67 : decode cX8_row 67 = .ok (.aload_n 0, 1) := by decide +kernel
theorem dX8_row_68 : decode cX8_row 68 = .ok (.getfield 186, 3) := by decide +kernel
theorem dX8_row_71 : decode cX8_row 71 = .ok (.ireturn, 1) := by decide +kernel
theorem dX8_burn_0 : decode cX8_burn 0 = .ok (.aload_n 0, 1) := by decide +kernel
theorem dX8_burn_1 : decode cX8_burn 1 = .ok (.getfield 186, 3) := by decide +kernel
theorem dX8_burn_4 : decode cX8_burn 4 = .ok (.istore_n 1, 1) := by decide +kernel
theorem dX8_burn_5 : decode cX8_burn 5 = .ok (.aload_n 0, 1) := by decide +kernel
theorem dX8_burn_6 : decode cX8_burn 6 = .ok (.iconst 0, 1) := by decide +kernel
theorem dX8_burn_7 : decode cX8_burn 7 = .ok (.putfield 186, 3) := by decide +kernel
theorem dX8_burn_10 : decode cX8_burn 10 = .ok (.iload_n 1, 1) := by decide +kernel
theorem dX8_burn_11 : decode cX8_burn 11 = .ok (.ireturn, 1) := by decide +kernel
set_option maxRecDepth 20000 in
theorem ggX8_judge_X8_mayOf : GoodIn wsX8_judge wsX8_mayOf := goodIn_r _ [11, 12, 13, 14, 15, 16, 17, 18, 10, 19, 1, 20, 21, 22, 23, 24, 25, 26, 27, 28, 29, 30, 31, 32, 33, 34, 35, 36, 37, 38, 39, 40, 41, 42, 43, 44, 45, 46, 47, 48, 49, 50, 51, 52, 53, 54, 55, 56, 57, 58, 59, 60, 61, 62, 63, 64, 65, 66, 67, 68, 69, 70, 71, 72, 73, 74, 75, 76] (by decide +kernel) (by decide +kernel)
set_option maxRecDepth 20000 in
theorem gX8_judge_X8_mayOf : GoodIn wsX8_judge (wsV RX8 213 RX8 yX8_mayOf wsX8_mayOf) := goodIn_app (goodIn_of _ (by decide +kernel)) ggX8_judge_X8_mayOf
set_option maxRecDepth 20000 in
theorem ggX8_judge_X8_has : GoodIn wsX8_judge wsX8_has := goodIn_r _ [34] (by decide +kernel) (by decide +kernel)
set_option maxRecDepth 20000 in
theorem gX8_judge_X8_has : GoodIn wsX8_judge (va_wsS RX8 126 yX8_has wsX8_has) := goodIn_app (goodIn_of _ (by decide +kernel)) ggX8_judge_X8_has
theorem dX8_judge_0 : decode cX8_judge 0 = .ok (.iconst 0, 1) := by decide +kernel
theorem dX8_judge_1 : decode cX8_judge 1 = .ok (.istore_n 1, 1) := by decide +kernel
theorem dX8_judge_2 : decode cX8_judge 2 = .ok (.iload_n 1, 1) := by decide +kernel
theorem dX8_judge_3 : decode cX8_judge 3 = .ok (.aload_n 0, 1) := by decide +kernel
theorem dX8_judge_4 : decode cX8_judge 4 = .ok (.getfield 68, 3) := by decide +kernel
theorem dX8_judge_7 : decode cX8_judge 7 = .ok (.if_icmp .ge 21, 3) := by decide +kernel
theorem dX8_judge_10 : decode cX8_judge 10 = .ok (.aload_n 0, 1) := by decide +kernel
theorem dX8_judge_11 : decode cX8_judge 11 = .ok (.getfield 58, 3) := by decide +kernel
theorem dX8_judge_14 : decode cX8_judge 14 = .ok (.iload_n 1, 1) := by decide +kernel
theorem dX8_judge_15 : decode cX8_judge 15 = .ok (.aload_n 0, 1) := by decide +kernel
theorem dX8_judge_16 : decode cX8_judge 16 = .ok (.getfield 32, 3) := by decide +kernel
theorem dX8_judge_19 : decode cX8_judge 19 = .ok (.iload_n 1, 1) := by decide +kernel
theorem dX8_judge_20 : decode cX8_judge 20 = .ok (.iaload, 1) := by decide +kernel
theorem dX8_judge_21 : decode cX8_judge 21 = .ok (.iastore, 1) := by decide +kernel
theorem dX8_judge_22 : decode cX8_judge 22 = .ok (.iinc 1 1, 3) := by decide +kernel
theorem dX8_judge_25 : decode cX8_judge 25 = .ok (.goto (-23), 3) := by decide +kernel
theorem dX8_judge_28 : decode cX8_judge 28 = .ok (.iconst 0, 1) := by decide +kernel
theorem dX8_judge_29 : decode cX8_judge 29 = .ok (.istore_n 1, 1) := by decide +kernel
theorem dX8_judge_30 : decode cX8_judge 30 = .ok (.iload_n 1, 1) := by decide +kernel
theorem dX8_judge_31 : decode cX8_judge 31 = .ok (.aload_n 0, 1) := by decide +kernel
theorem dX8_judge_32 : decode cX8_judge 32 = .ok (.getfield 186, 3) := by decide +kernel
theorem dX8_judge_35 : decode cX8_judge 35 = .ok (.if_icmp .ge 74, 3) := by decide +kernel
theorem dX8_judge_38 : decode cX8_judge 38 = .ok (.aload_n 0, 1) := by decide +kernel
theorem dX8_judge_39 : decode cX8_judge 39 = .ok (.aload_n 0, 1) := by decide +kernel
theorem dX8_judge_40 : decode cX8_judge 40 = .ok (.getfield 58, 3) := by decide +kernel
theorem dX8_judge_43 : decode cX8_judge 43 = .ok (.aload_n 0, 1) := by decide +kernel
theorem dX8_judge_44 : decode cX8_judge 44 = .ok (.getfield 42, 3) := by decide +kernel
theorem dX8_judge_47 : decode cX8_judge 47 = .ok (.iconst 2, 1) := by decide +kernel
theorem dX8_judge_48 : decode cX8_judge 48 = .ok (.iload_n 1, 1) := by decide +kernel
theorem dX8_judge_49 : decode cX8_judge 49 = .ok (.imul, 1) := by decide +kernel
theorem dX8_judge_50 : decode cX8_judge 50 = .ok (.iaload, 1) := by decide +kernel
theorem dX8_judge_51 : decode cX8_judge 51 = .ok (.aload_n 0, 1) := by decide +kernel
theorem dX8_judge_52 : decode cX8_judge 52 = .ok (.getfield 183, 3) := by decide +kernel
theorem dX8_judge_55 : decode cX8_judge 55 = .ok (.iload_n 1, 1) := by decide +kernel
theorem dX8_judge_56 : decode cX8_judge 56 = .ok (.iadd, 1) := by decide +kernel
theorem dX8_judge_57 : decode cX8_judge 57 = .ok (.iconst 2, 1) := by decide +kernel
theorem dX8_judge_58 : decode cX8_judge 58 = .ok (.irem, 1) := by decide +kernel
theorem dX8_judge_59 : decode cX8_judge 59 = .ok (.invokevirtual 213, 3) := by decide +kernel
theorem dX8_judge_62 : decode cX8_judge 62 = .ok (.aload_n 0, 1) := by decide +kernel
theorem dX8_judge_63 : decode cX8_judge 63 = .ok (.getfield 42, 3) := by decide +kernel
theorem dX8_judge_66 : decode cX8_judge 66 = .ok (.iconst 2, 1) := by decide +kernel
theorem dX8_judge_67 : decode cX8_judge 67 = .ok (.iload_n 1, 1) := by decide +kernel
theorem dX8_judge_68 : decode cX8_judge 68 = .ok (.imul, 1) := by decide +kernel
theorem dX8_judge_69 : decode cX8_judge 69 = .ok (.iconst 1, 1) := by decide +kernel
theorem dX8_judge_70 : decode cX8_judge 70 = .ok (.iadd, 1) := by decide +kernel
theorem dX8_judge_71 : decode cX8_judge 71 = .ok (.iaload, 1) := by decide +kernel
theorem dX8_judge_72 : decode cX8_judge 72 = .ok (.invokestatic 126, 3) := by decide +kernel
theorem dX8_judge_75 : decode cX8_judge 75 = .ok (.ifCond .ne 5, 3) := by decide +kernel
theorem dX8_judge_78 : decode cX8_judge 78 = .ok (.iload_n 1, 1) := by decide +kernel
theorem dX8_judge_79 : decode cX8_judge 79 = .ok (.ireturn, 1) := by decide +kernel
theorem dX8_judge_80 : decode cX8_judge 80 = .ok (.aload_n 0, 1) := by decide +kernel
theorem dX8_judge_81 : decode cX8_judge 81 = .ok (.getfield 58, 3) := by decide +kernel
theorem dX8_judge_84 : decode cX8_judge 84 = .ok (.aload_n 0, 1) := by decide +kernel
theorem dX8_judge_85 : decode cX8_judge 85 = .ok (.getfield 42, 3) := by decide +kernel
theorem dX8_judge_88 : decode cX8_judge 88 = .ok (.iconst 2, 1) := by decide +kernel
theorem dX8_judge_89 : decode cX8_judge 89 = .ok (.iload_n 1, 1) := by decide +kernel
theorem dX8_judge_90 : decode cX8_judge 90 = .ok (.imul, 1) := by decide +kernel
theorem dX8_judge_91 : decode cX8_judge 91 = .ok (.iaload, 1) := by decide +kernel
theorem dX8_judge_92 : decode cX8_judge 92 = .ok (.aload_n 0, 1) := by decide +kernel
theorem dX8_judge_93 : decode cX8_judge 93 = .ok (.getfield 42, 3) := by decide +kernel
theorem dX8_judge_96 : decode cX8_judge 96 = .ok (.iconst 2, 1) := by decide +kernel
theorem dX8_judge_97 : decode cX8_judge 97 = .ok (.iload_n 1, 1) := by decide +kernel
theorem dX8_judge_98 : decode cX8_judge 98 = .ok (.imul, 1) := by decide +kernel
theorem dX8_judge_99 : decode cX8_judge 99 = .ok (.iconst 1, 1) := by decide +kernel
theorem dX8_judge_100 : decode cX8_judge 100 = .ok (.iadd, 1) := by decide +kernel
theorem dX8_judge_101 : decode cX8_judge 101 = .ok (.iaload, 1) := by decide +kernel
theorem dX8_judge_102 : decode cX8_judge 102 = .ok (.iastore, 1) := by decide +kernel
theorem dX8_judge_103 : decode cX8_judge 103 = .ok (.iinc 1 1, 3) := by decide +kernel
theorem dX8_judge_106 : decode cX8_judge 106 = .ok (.goto (-76), 3) := by decide +kernel
theorem dX8_judge_109 : decode cX8_judge 109 = .ok (.iconst (-1), 1) := by decide +kernel
theorem dX8_judge_110 : decode cX8_judge 110 = .ok (.ireturn, 1) := by decide +kernel
theorem dX8_count_0 : decode cX8_count 0 = .ok (.iconst 0, 1) := by decide +kernel
theorem dX8_count_1 : decode cX8_count 1 = .ok (.istore_n 2, 1) := by decide +kernel
theorem dX8_count_2 : decode cX8_count 2 = .ok (.iconst 0, 1) := by decide +kernel
theorem dX8_count_3 : decode cX8_count 3 = .ok (.istore_n 3, 1) := by decide +kernel
theorem dX8_count_4 : decode cX8_count 4 = .ok (.iload_n 3, 1) := by decide +kernel
theorem dX8_count_5 : decode cX8_count 5 = .ok (.aload_n 0, 1) := by decide +kernel
theorem dX8_count_6 : decode cX8_count 6 = .ok (.getfield 68, 3) := by decide +kernel
theorem dX8_count_9 : decode cX8_count 9 = .ok (.if_icmp .ge 38, 3) := by decide +kernel
theorem dX8_count_12 : decode cX8_count 12 = .ok (.iload_n 2, 1) := by decide +kernel
theorem dX8_count_13 : decode cX8_count 13 = .ok (.aload_n 0, 1) := by decide +kernel
theorem dX8_count_14 : decode cX8_count 14 = .ok (.getfield 32, 3) := by decide +kernel
theorem dX8_count_17 : decode cX8_count 17 = .ok (.iload_n 3, 1) := by decide +kernel
theorem dX8_count_18 : decode cX8_count 18 = .ok (.iaload, 1) := by decide +kernel
theorem dX8_count_19 : decode cX8_count 19 = .ok (.aload_n 0, 1) := by decide +kernel
theorem dX8_count_20 : decode cX8_count 20 = .ok (.getfield 16, 3) := by decide +kernel
theorem dX8_count_23 : decode cX8_count 23 = .ok (.iconst 4, 1) := by decide +kernel
theorem dX8_count_24 : decode cX8_count 24 = .ok (.iload_n 3, 1) := by decide +kernel
theorem dX8_count_25 : decode cX8_count 25 = .ok (.imul, 1) := by decide +kernel
theorem dX8_count_26 : decode cX8_count 26 = .ok (.iconst 3, 1) := by decide +kernel
theorem dX8_count_27 : decode cX8_count 27 = .ok (.iadd, 1) := by decide +kernel
theorem dX8_count_28 : decode cX8_count 28 = .ok (.iaload, 1) := by decide +kernel
theorem dX8_count_29 : decode cX8_count 29 = .ok (.if_icmp .ne 9, 3) := by decide +kernel
theorem dX8_count_32 : decode cX8_count 32 = .ok (.iconst 1, 1) := by decide +kernel
theorem dX8_count_33 : decode cX8_count 33 = .ok (.iload_n 3, 1) := by decide +kernel
theorem dX8_count_34 : decode cX8_count 34 = .ok (.ishl, 1) := by decide +kernel
theorem dX8_count_35 : decode cX8_count 35 = .ok (.goto 4, 3) := by decide +kernel
theorem dX8_count_38 : decode cX8_count 38 = .ok (.iconst 0, 1) := by decide +kernel
theorem dX8_count_39 : decode cX8_count 39 = .ok (.ior, 1) := by decide +kernel
theorem dX8_count_40 : decode cX8_count 40 = .ok (.istore_n 2, 1) := by decide +kernel
theorem dX8_count_41 : decode cX8_count 41 = .ok (.iinc 3 1, 3) := by decide +kernel
theorem dX8_count_44 : decode cX8_count 44 = .ok (.goto (-40), 3) := by decide +kernel
theorem dX8_count_47 : decode cX8_count 47 = .ok (.iload_n 1, 1) := by decide +kernel
theorem dX8_count_48 : decode cX8_count 48 = .ok (.tableswitch 94 0 8 #[52, 57, 62, 67, 72, 77, 82, 84, 89], 52) := by decide +kernel
theorem dX8_count_100 : decode cX8_count 100 = .ok (.aload_n 0, 1) := by decide +kernel
theorem dX8_count_101 : decode cX8_count 101 = .ok (.getfield 7, 3) := by decide +kernel
theorem dX8_count_104 : decode cX8_count 104 = .ok (.ireturn, 1) := by decide +kernel
theorem dX8_count_105 : decode cX8_count 105 = .ok (.aload_n 0, 1) := by decide +kernel
theorem dX8_count_106 : decode cX8_count 106 = .ok (.getfield 13, 3) := by decide +kernel
theorem dX8_count_109 : decode cX8_count 109 = .ok (.ireturn, 1) := by decide +kernel
theorem dX8_count_110 : decode cX8_count 110 = .ok (.aload_n 0, 1) := by decide +kernel
theorem dX8_count_111 : decode cX8_count 111 = .ok (.getfield 68, 3) := by decide +kernel
theorem dX8_count_114 : decode cX8_count 114 = .ok (.ireturn, 1) := by decide +kernel
theorem dX8_count_115 : decode cX8_count 115 = .ok (.aload_n 0, 1) := by decide +kernel
theorem dX8_count_116 : decode cX8_count 116 = .ok (.getfield 167, 3) := by decide +kernel
theorem dX8_count_119 : decode cX8_count 119 = .ok (.ireturn, 1) := by decide +kernel
theorem dX8_count_120 : decode cX8_count 120 = .ok (.aload_n 0, 1) := by decide +kernel
theorem dX8_count_121 : decode cX8_count 121 = .ok (.getfield 176, 3) := by decide +kernel
theorem dX8_count_124 : decode cX8_count 124 = .ok (.ireturn, 1) := by decide +kernel
theorem dX8_count_125 : decode cX8_count 125 = .ok (.aload_n 0, 1) := by decide +kernel
theorem dX8_count_126 : decode cX8_count 126 = .ok (.getfield 183, 3) := by decide +kernel
theorem dX8_count_129 : decode cX8_count 129 = .ok (.ireturn, 1) := by decide +kernel
theorem dX8_count_130 : decode cX8_count 130 = .ok (.iload_n 2, 1) := by decide +kernel
theorem dX8_count_131 : decode cX8_count 131 = .ok (.ireturn, 1) := by decide +kernel
theorem dX8_count_132 : decode cX8_count 132 = .ok (.aload_n 0, 1) := by decide +kernel
theorem dX8_count_133 : decode cX8_count 133 = .ok (.getfield 186, 3) := by decide +kernel
theorem dX8_count_136 : decode cX8_count 136 = .ok (.ireturn, 1) := by decide +kernel
theorem dX8_count_137 : decode cX8_count 137 = .ok (.aload_n 0, 1) := by decide +kernel
theorem dX8_count_138 : decode cX8_count 138 = .ok (.getfield 71, 3) := by decide +kernel
theorem dX8_count_141 : decode cX8_count 141 = .ok (.ireturn, 1) := by decide +kernel
theorem dX8_count_142 : decode cX8_count 142 = .ok (.bipush (-3), 2) := by decide +kernel
theorem dX8_count_144 : decode cX8_count 144 = .ok (.ireturn, 1) := by decide +kernel
theorem dJ6_numberOfTrailingZeros_0f7a4_0 : decode cJ6_numberOfTrailingZeros_0f7a4 0 = .ok (.iload_n 0, 1) := by decide +kernel
theorem dJ6_numberOfTrailingZeros_0f7a4_1 : decode cJ6_numberOfTrailingZeros_0f7a4 1 = .ok (.iconst (-1), 1) := by decide +kernel
theorem dJ6_numberOfTrailingZeros_0f7a4_2 : decode cJ6_numberOfTrailingZeros_0f7a4 2 = .ok (.ixor, 1) := by decide +kernel
theorem dJ6_numberOfTrailingZeros_0f7a4_3 : decode cJ6_numberOfTrailingZeros_0f7a4 3 = .ok (.iload_n 0, 1) := by decide +kernel
theorem dJ6_numberOfTrailingZeros_0f7a4_4 : decode cJ6_numberOfTrailingZeros_0f7a4 4 = .ok (.iconst 1, 1) := by decide +kernel
theorem dJ6_numberOfTrailingZeros_0f7a4_5 : decode cJ6_numberOfTrailingZeros_0f7a4 5 = .ok (.isub, 1) := by decide +kernel
theorem dJ6_numberOfTrailingZeros_0f7a4_6 : decode cJ6_numberOfTrailingZeros_0f7a4 6 = .ok (.iand, 1) := by decide +kernel
theorem dJ6_numberOfTrailingZeros_0f7a4_7 : decode cJ6_numberOfTrailingZeros_0f7a4 7 = .ok (.istore_n 0, 1) := by decide +kernel
theorem dJ6_numberOfTrailingZeros_0f7a4_8 : decode cJ6_numberOfTrailingZeros_0f7a4 8 = .ok (.iload_n 0, 1) := by decide +kernel
theorem dJ6_numberOfTrailingZeros_0f7a4_9 : decode cJ6_numberOfTrailingZeros_0f7a4 9 = .ok (.ifCond .gt 8, 3) := by decide +kernel
theorem dJ6_numberOfTrailingZeros_0f7a4_12 : decode cJ6_numberOfTrailingZeros_0f7a4 12 = .ok (.iload_n 0, 1) := by decide +kernel
theorem dJ6_numberOfTrailingZeros_0f7a4_13 : decode cJ6_numberOfTrailingZeros_0f7a4 13 = .ok (.bipush 32, 2) := by decide +kernel
theorem dJ6_numberOfTrailingZeros_0f7a4_15 : decode cJ6_numberOfTrailingZeros_0f7a4 15 = .ok (.iand, 1) := by decide +kernel
theorem dJ6_numberOfTrailingZeros_0f7a4_16 : decode cJ6_numberOfTrailingZeros_0f7a4 16 = .ok (.ireturn, 1) := by decide +kernel
theorem dJ6_numberOfTrailingZeros_0f7a4_17 : decode cJ6_numberOfTrailingZeros_0f7a4 17 = .ok (.iconst 1, 1) := by decide +kernel
theorem dJ6_numberOfTrailingZeros_0f7a4_18 : decode cJ6_numberOfTrailingZeros_0f7a4 18 = .ok (.istore_n 1, 1) := by decide +kernel
theorem dJ6_numberOfTrailingZeros_0f7a4_19 : decode cJ6_numberOfTrailingZeros_0f7a4 19 = .ok (.iload_n 0, 1) := by decide +kernel
theorem dJ6_numberOfTrailingZeros_0f7a4_20 : decode cJ6_numberOfTrailingZeros_0f7a4 20 = .ok (.ldc_w 264, 3) := by decide +kernel
theorem dJ6_numberOfTrailingZeros_0f7a4_23 : decode cJ6_numberOfTrailingZeros_0f7a4 23 = .ok (.if_icmp .le 11, 3) := by decide +kernel
theorem dJ6_numberOfTrailingZeros_0f7a4_26 : decode cJ6_numberOfTrailingZeros_0f7a4 26 = .ok (.iinc 1 16, 3) := by decide +kernel
theorem dJ6_numberOfTrailingZeros_0f7a4_29 : decode cJ6_numberOfTrailingZeros_0f7a4 29 = .ok (.iload_n 0, 1) := by decide +kernel
theorem dJ6_numberOfTrailingZeros_0f7a4_30 : decode cJ6_numberOfTrailingZeros_0f7a4 30 = .ok (.bipush 16, 2) := by decide +kernel
theorem dJ6_numberOfTrailingZeros_0f7a4_32 : decode cJ6_numberOfTrailingZeros_0f7a4 32 = .ok (.iushr, 1) := by decide +kernel
theorem dJ6_numberOfTrailingZeros_0f7a4_33 : decode cJ6_numberOfTrailingZeros_0f7a4 33 = .ok (.istore_n 0, 1) := by decide +kernel
theorem dJ6_numberOfTrailingZeros_0f7a4_34 : decode cJ6_numberOfTrailingZeros_0f7a4 34 = .ok (.iload_n 0, 1) := by decide +kernel
theorem dJ6_numberOfTrailingZeros_0f7a4_35 : decode cJ6_numberOfTrailingZeros_0f7a4 35 = .ok (.sipush 256, 3) := by decide +kernel
theorem dJ6_numberOfTrailingZeros_0f7a4_38 : decode cJ6_numberOfTrailingZeros_0f7a4 38 = .ok (.if_icmp .le 11, 3) := by decide +kernel
theorem dJ6_numberOfTrailingZeros_0f7a4_41 : decode cJ6_numberOfTrailingZeros_0f7a4 41 = .ok (.iinc 1 8, 3) := by decide +kernel
theorem dJ6_numberOfTrailingZeros_0f7a4_44 : decode cJ6_numberOfTrailingZeros_0f7a4 44 = .ok (.iload_n 0, 1) := by decide +kernel
theorem dJ6_numberOfTrailingZeros_0f7a4_45 : decode cJ6_numberOfTrailingZeros_0f7a4 45 = .ok (.bipush 8, 2) := by decide +kernel
theorem dJ6_numberOfTrailingZeros_0f7a4_47 : decode cJ6_numberOfTrailingZeros_0f7a4 47 = .ok (.iushr, 1) := by decide +kernel
theorem dJ6_numberOfTrailingZeros_0f7a4_48 : decode cJ6_numberOfTrailingZeros_0f7a4 48 = .ok (.istore_n 0, 1) := by decide +kernel
theorem dJ6_numberOfTrailingZeros_0f7a4_49 : decode cJ6_numberOfTrailingZeros_0f7a4 49 = .ok (.iload_n 0, 1) := by decide +kernel
theorem dJ6_numberOfTrailingZeros_0f7a4_50 : decode cJ6_numberOfTrailingZeros_0f7a4 50 = .ok (.bipush 16, 2) := by decide +kernel
theorem dJ6_numberOfTrailingZeros_0f7a4_52 : decode cJ6_numberOfTrailingZeros_0f7a4 52 = .ok (.if_icmp .le 10, 3) := by decide +kernel
theorem dJ6_numberOfTrailingZeros_0f7a4_55 : decode cJ6_numberOfTrailingZeros_0f7a4 55 = .ok (.iinc 1 4, 3) := by decide +kernel
theorem dJ6_numberOfTrailingZeros_0f7a4_58 : decode cJ6_numberOfTrailingZeros_0f7a4 58 = .ok (.iload_n 0, 1) := by decide +kernel
theorem dJ6_numberOfTrailingZeros_0f7a4_59 : decode cJ6_numberOfTrailingZeros_0f7a4 59 = .ok (.iconst 4, 1) := by decide +kernel
theorem dJ6_numberOfTrailingZeros_0f7a4_60 : decode cJ6_numberOfTrailingZeros_0f7a4 60 = .ok (.iushr, 1) := by decide +kernel
theorem dJ6_numberOfTrailingZeros_0f7a4_61 : decode cJ6_numberOfTrailingZeros_0f7a4 61 = .ok (.istore_n 0, 1) := by decide +kernel
theorem dJ6_numberOfTrailingZeros_0f7a4_62 : decode cJ6_numberOfTrailingZeros_0f7a4 62 = .ok (.iload_n 0, 1) := by decide +kernel
theorem dJ6_numberOfTrailingZeros_0f7a4_63 : decode cJ6_numberOfTrailingZeros_0f7a4 63 = .ok (.iconst 4, 1) := by decide +kernel
theorem dJ6_numberOfTrailingZeros_0f7a4_64 : decode cJ6_numberOfTrailingZeros_0f7a4 64 = .ok (.if_icmp .le 10, 3) := by decide +kernel
theorem dJ6_numberOfTrailingZeros_0f7a4_67 : decode cJ6_numberOfTrailingZeros_0f7a4 67 = .ok (.iinc 1 2, 3) := by decide +kernel
theorem dJ6_numberOfTrailingZeros_0f7a4_70 : decode cJ6_numberOfTrailingZeros_0f7a4 70 = .ok (.iload_n 0, 1) := by decide +kernel
theorem dJ6_numberOfTrailingZeros_0f7a4_71 : decode cJ6_numberOfTrailingZeros_0f7a4 71 = .ok (.iconst 2, 1) := by decide +kernel
theorem dJ6_numberOfTrailingZeros_0f7a4_72 : decode cJ6_numberOfTrailingZeros_0f7a4 72 = .ok (.iushr, 1) := by decide +kernel
theorem dJ6_numberOfTrailingZeros_0f7a4_73 : decode cJ6_numberOfTrailingZeros_0f7a4 73 = .ok (.istore_n 0, 1) := by decide +kernel
theorem dJ6_numberOfTrailingZeros_0f7a4_74 : decode cJ6_numberOfTrailingZeros_0f7a4 74 = .ok (.iload_n 1, 1) := by decide +kernel
theorem dJ6_numberOfTrailingZeros_0f7a4_75 : decode cJ6_numberOfTrailingZeros_0f7a4 75 = .ok (.iload_n 0, 1) := by decide +kernel
theorem dJ6_numberOfTrailingZeros_0f7a4_76 : decode cJ6_numberOfTrailingZeros_0f7a4 76 = .ok (.iconst 1, 1) := by decide +kernel
theorem dJ6_numberOfTrailingZeros_0f7a4_77 : decode cJ6_numberOfTrailingZeros_0f7a4 77 = .ok (.iushr, 1) := by decide +kernel
theorem dJ6_numberOfTrailingZeros_0f7a4_78 : decode cJ6_numberOfTrailingZeros_0f7a4 78 = .ok (.iadd, 1) := by decide +kernel
theorem dJ6_numberOfTrailingZeros_0f7a4_79 : decode cJ6_numberOfTrailingZeros_0f7a4 79 = .ok (.ireturn, 1) := by decide +kernel
theorem dJ6_bitCount_0f7a4_0 : decode cJ6_bitCount_0f7a4 0 = .ok (.iload_n 0, 1) := by decide +kernel
theorem dJ6_bitCount_0f7a4_1 : decode cJ6_bitCount_0f7a4 1 = .ok (.iload_n 0, 1) := by decide +kernel
theorem dJ6_bitCount_0f7a4_2 : decode cJ6_bitCount_0f7a4 2 = .ok (.iconst 1, 1) := by decide +kernel
theorem dJ6_bitCount_0f7a4_3 : decode cJ6_bitCount_0f7a4 3 = .ok (.iushr, 1) := by decide +kernel
theorem dJ6_bitCount_0f7a4_4 : decode cJ6_bitCount_0f7a4 4 = .ok (.ldc_w 265, 3) := by decide +kernel
theorem dJ6_bitCount_0f7a4_7 : decode cJ6_bitCount_0f7a4 7 = .ok (.iand, 1) := by decide +kernel
theorem dJ6_bitCount_0f7a4_8 : decode cJ6_bitCount_0f7a4 8 = .ok (.isub, 1) := by decide +kernel
theorem dJ6_bitCount_0f7a4_9 : decode cJ6_bitCount_0f7a4 9 = .ok (.istore_n 0, 1) := by decide +kernel
theorem dJ6_bitCount_0f7a4_10 : decode cJ6_bitCount_0f7a4 10 = .ok (.iload_n 0, 1) := by decide +kernel
theorem dJ6_bitCount_0f7a4_11 : decode cJ6_bitCount_0f7a4 11 = .ok (.ldc_w 266, 3) := by decide +kernel
theorem dJ6_bitCount_0f7a4_14 : decode cJ6_bitCount_0f7a4 14 = .ok (.iand, 1) := by decide +kernel
theorem dJ6_bitCount_0f7a4_15 : decode cJ6_bitCount_0f7a4 15 = .ok (.iload_n 0, 1) := by decide +kernel
theorem dJ6_bitCount_0f7a4_16 : decode cJ6_bitCount_0f7a4 16 = .ok (.iconst 2, 1) := by decide +kernel
theorem dJ6_bitCount_0f7a4_17 : decode cJ6_bitCount_0f7a4 17 = .ok (.iushr, 1) := by decide +kernel
theorem dJ6_bitCount_0f7a4_18 : decode cJ6_bitCount_0f7a4 18 = .ok (.ldc_w 266, 3) := by decide +kernel
theorem dJ6_bitCount_0f7a4_21 : decode cJ6_bitCount_0f7a4 21 = .ok (.iand, 1) := by decide +kernel
theorem dJ6_bitCount_0f7a4_22 : decode cJ6_bitCount_0f7a4 22 = .ok (.iadd, 1) := by decide +kernel
theorem dJ6_bitCount_0f7a4_23 : decode cJ6_bitCount_0f7a4 23 = .ok (.istore_n 0, 1) := by decide +kernel
theorem dJ6_bitCount_0f7a4_24 : decode cJ6_bitCount_0f7a4 24 = .ok (.iload_n 0, 1) := by decide +kernel
theorem dJ6_bitCount_0f7a4_25 : decode cJ6_bitCount_0f7a4 25 = .ok (.iload_n 0, 1) := by decide +kernel
theorem dJ6_bitCount_0f7a4_26 : decode cJ6_bitCount_0f7a4 26 = .ok (.iconst 4, 1) := by decide +kernel
theorem dJ6_bitCount_0f7a4_27 : decode cJ6_bitCount_0f7a4 27 = .ok (.iushr, 1) := by decide +kernel
theorem dJ6_bitCount_0f7a4_28 : decode cJ6_bitCount_0f7a4 28 = .ok (.iadd, 1) := by decide +kernel
theorem dJ6_bitCount_0f7a4_29 : decode cJ6_bitCount_0f7a4 29 = .ok (.ldc_w 267, 3) := by decide +kernel
theorem dJ6_bitCount_0f7a4_32 : decode cJ6_bitCount_0f7a4 32 = .ok (.iand, 1) := by decide +kernel
theorem dJ6_bitCount_0f7a4_33 : decode cJ6_bitCount_0f7a4 33 = .ok (.istore_n 0, 1) := by decide +kernel
theorem dJ6_bitCount_0f7a4_34 : decode cJ6_bitCount_0f7a4 34 = .ok (.iload_n 0, 1) := by decide +kernel
theorem dJ6_bitCount_0f7a4_35 : decode cJ6_bitCount_0f7a4 35 = .ok (.iload_n 0, 1) := by decide +kernel
theorem dJ6_bitCount_0f7a4_36 : decode cJ6_bitCount_0f7a4 36 = .ok (.bipush 8, 2) := by decide +kernel
theorem dJ6_bitCount_0f7a4_38 : decode cJ6_bitCount_0f7a4 38 = .ok (.iushr, 1) := by decide +kernel
theorem dJ6_bitCount_0f7a4_39 : decode cJ6_bitCount_0f7a4 39 = .ok (.iadd, 1) := by decide +kernel
theorem dJ6_bitCount_0f7a4_40 : decode cJ6_bitCount_0f7a4 40 = .ok (.istore_n 0, 1) := by decide +kernel
theorem dJ6_bitCount_0f7a4_41 : decode cJ6_bitCount_0f7a4 41 = .ok (.iload_n 0, 1) := by decide +kernel
theorem dJ6_bitCount_0f7a4_42 : decode cJ6_bitCount_0f7a4 42 = .ok (.iload_n 0, 1) := by decide +kernel
theorem dJ6_bitCount_0f7a4_43 : decode cJ6_bitCount_0f7a4 43 = .ok (.bipush 16, 2) := by decide +kernel
theorem dJ6_bitCount_0f7a4_45 : decode cJ6_bitCount_0f7a4 45 = .ok (.iushr, 1) := by decide +kernel
theorem dJ6_bitCount_0f7a4_46 : decode cJ6_bitCount_0f7a4 46 = .ok (.iadd, 1) := by decide +kernel
theorem dJ6_bitCount_0f7a4_47 : decode cJ6_bitCount_0f7a4 47 = .ok (.istore_n 0, 1) := by decide +kernel
theorem dJ6_bitCount_0f7a4_48 : decode cJ6_bitCount_0f7a4 48 = .ok (.iload_n 0, 1) := by decide +kernel
theorem dJ6_bitCount_0f7a4_49 : decode cJ6_bitCount_0f7a4 49 = .ok (.bipush 63, 2) := by decide +kernel
theorem dJ6_bitCount_0f7a4_51 : decode cJ6_bitCount_0f7a4 51 = .ok (.iand, 1) := by decide +kernel
theorem dJ6_bitCount_0f7a4_52 : decode cJ6_bitCount_0f7a4 52 = .ok (.ireturn, 1) := by decide +kernel
set_option maxRecDepth 20000 in
theorem ggJ0_length_8abf5_J0_coder_7d493 : GoodIn wsJ0_length_8abf5 wsJ0_coder_7d493 := goodIn_r _ [6, 7, 8] (by decide +kernel) (by decide +kernel)
set_option maxRecDepth 20000 in
theorem gJ0_length_8abf5_J0_coder_7d493 : GoodIn wsJ0_length_8abf5 (wsV RJ0 335 RJ0 yJ0_coder_7d493 wsJ0_coder_7d493) := goodIn_app (goodIn_of _ (by decide +kernel)) ggJ0_length_8abf5_J0_coder_7d493
theorem dJ0_length_8abf5_0 : decode cJ0_length_8abf5 0 = .ok (.aload_n 0, 1) := by decide +kernel
theorem dJ0_length_8abf5_1 : decode cJ0_length_8abf5 1 = .ok (.getfield 9, 3) := by decide +kernel
theorem dJ0_length_8abf5_4 : decode cJ0_length_8abf5 4 = .ok (.arraylength, 1) := by decide +kernel
theorem dJ0_length_8abf5_5 : decode cJ0_length_8abf5 5 = .ok (.aload_n 0, 1) := by decide +kernel
theorem dJ0_length_8abf5_6 : decode cJ0_length_8abf5 6 = .ok (.invokevirtual 335, 3) := by decide +kernel
theorem dJ0_length_8abf5_9 : decode cJ0_length_8abf5 9 = .ok (.ishr, 1) := by decide +kernel
theorem dJ0_length_8abf5_10 : decode cJ0_length_8abf5 10 = .ok (.ireturn, 1) := by decide +kernel
set_option maxRecDepth 20000 in
theorem ggJ0_charAt_5068e_J0_isLatin1_aae02 : GoodIn wsJ0_charAt_5068e wsJ0_isLatin1_aae02 := goodIn_r _ [6, 7, 8] (by decide +kernel) (by decide +kernel)
set_option maxRecDepth 20000 in
theorem gJ0_charAt_5068e_J0_isLatin1_aae02 : GoodIn wsJ0_charAt_5068e (wsV RJ0 492 RJ0 yJ0_isLatin1_aae02 wsJ0_isLatin1_aae02) := goodIn_app (goodIn_of _ (by decide +kernel)) ggJ0_charAt_5068e_J0_isLatin1_aae02
set_option maxRecDepth 20000 in
theorem ggJ0_charAt_5068e_J1_charAt_3b067 : GoodIn wsJ0_charAt_5068e wsJ1_charAt_3b067 := goodIn_r _ [12, 13, 14, 5, 15, 16, 17, 18, 19, 20] (by decide +kernel) (by decide +kernel)
set_option maxRecDepth 20000 in
theorem gJ0_charAt_5068e_J1_charAt_3b067 : GoodIn wsJ0_charAt_5068e (va_wsS RJ0 495 yJ1_charAt_3b067 wsJ1_charAt_3b067) := goodIn_app (goodIn_of _ (by decide +kernel)) ggJ0_charAt_5068e_J1_charAt_3b067
set_option maxRecDepth 20000 in
theorem ggJ0_charAt_5068e_J2_charAt_3b067 : GoodIn wsJ0_charAt_5068e wsJ2_charAt_3b067 := goodIn_r _ [24, 25, 26, 23, 27, 28, 29, 30, 31, 14, 5, 15, 16, 17, 18, 19, 20, 32, 33, 34, 35, 36, 37] (by decide +kernel) (by decide +kernel)
set_option maxRecDepth 20000 in
theorem gJ0_charAt_5068e_J2_charAt_3b067 : GoodIn wsJ0_charAt_5068e (va_wsS RJ0 498 yJ2_charAt_3b067 wsJ2_charAt_3b067) := goodIn_app (goodIn_of _ (by decide +kernel)) ggJ0_charAt_5068e_J2_charAt_3b067
theorem dJ0_charAt_5068e_0 : decode cJ0_charAt_5068e 0 = .ok (.aload_n 0, 1) := by decide +kernel
theorem dJ0_charAt_5068e_1 : decode cJ0_charAt_5068e 1 = .ok (.invokevirtual 492, 3) := by decide +kernel
theorem dJ0_charAt_5068e_4 : decode cJ0_charAt_5068e 4 = .ok (.ifCond .eq 12, 3) := by decide +kernel
theorem dJ0_charAt_5068e_7 : decode cJ0_charAt_5068e 7 = .ok (.aload_n 0, 1) := by decide +kernel
theorem dJ0_charAt_5068e_8 : decode cJ0_charAt_5068e 8 = .ok (.getfield 9, 3) := by decide +kernel
theorem dJ0_charAt_5068e_11 : decode cJ0_charAt_5068e 11 = .ok (.iload_n 1, 1) := by decide +kernel
theorem dJ0_charAt_5068e_12 : decode cJ0_charAt_5068e 12 = .ok (.invokestatic 495, 3) := by decide +kernel
theorem dJ0_charAt_5068e_15 : decode cJ0_charAt_5068e 15 = .ok (.ireturn, 1) := by decide +kernel
theorem dJ0_charAt_5068e_16 : decode cJ0_charAt_5068e 16 = .ok (.aload_n 0, 1) := by decide +kernel
theorem dJ0_charAt_5068e_17 : decode cJ0_charAt_5068e 17 = .ok (.getfield 9, 3) := by decide +kernel
theorem dJ0_charAt_5068e_20 : decode cJ0_charAt_5068e 20 = .ok (.iload_n 1, 1) := by decide +kernel
theorem dJ0_charAt_5068e_21 : decode cJ0_charAt_5068e 21 = .ok (.invokestatic 498, 3) := by decide +kernel
theorem dJ0_charAt_5068e_24 : decode cJ0_charAt_5068e 24 = .ok (.ireturn, 1) := by decide +kernel
theorem dJ0_coder_7d493_0 : decode cJ0_coder_7d493 0 = .ok (.getstatic 38, 3) := by decide +kernel
theorem dJ0_coder_7d493_3 : decode cJ0_coder_7d493 3 = .ok (.ifCond .eq 10, 3) := by decide +kernel
theorem dJ0_coder_7d493_6 : decode cJ0_coder_7d493 6 = .ok (.aload_n 0, 1) := by decide +kernel
theorem dJ0_coder_7d493_7 : decode cJ0_coder_7d493 7 = .ok (.getfield 15, 3) := by decide +kernel
theorem dJ0_coder_7d493_10 : decode cJ0_coder_7d493 10 = .ok (.goto 4, 3) := by decide +kernel
theorem dJ0_coder_7d493_13 : decode cJ0_coder_7d493 13 = .ok (.iconst 1, 1) := by decide +kernel
theorem dJ0_coder_7d493_14 : decode cJ0_coder_7d493 14 = .ok (.ireturn, 1) := by decide +kernel
theorem dJ0_isLatin1_aae02_0 : decode cJ0_isLatin1_aae02 0 = .ok (.getstatic 38, 3) := by decide +kernel
theorem dJ0_isLatin1_aae02_3 : decode cJ0_isLatin1_aae02 3 = .ok (.ifCond .eq 14, 3) := by decide +kernel
theorem dJ0_isLatin1_aae02_6 : decode cJ0_isLatin1_aae02 6 = .ok (.aload_n 0, 1) := by decide +kernel
theorem dJ0_isLatin1_aae02_7 : decode cJ0_isLatin1_aae02 7 = .ok (.getfield 15, 3) := by decide +kernel
theorem dJ0_isLatin1_aae02_10 : decode cJ0_isLatin1_aae02 10 = .ok (.ifCond .ne 7, 3) := by decide +kernel
theorem dJ0_isLatin1_aae02_13 : decode cJ0_isLatin1_aae02 13 = .ok (.iconst 1, 1) := by decide +kernel
theorem dJ0_isLatin1_aae02_14 : decode cJ0_isLatin1_aae02 14 = .ok (.goto 4, 3) := by decide +kernel
theorem dJ0_isLatin1_aae02_17 : decode cJ0_isLatin1_aae02 17 = .ok (.iconst 0, 1) := by decide +kernel
theorem dJ0_isLatin1_aae02_18 : decode cJ0_isLatin1_aae02 18 = .ok (.ireturn, 1) := by decide +kernel
set_option maxRecDepth 20000 in
theorem ggJ0_checkIndex_df160_J3_checkIndex_8e157 : GoodIn wsJ0_checkIndex_df160 wsJ3_checkIndex_8e157 := goodIn_r _ [5] (by decide +kernel) (by decide +kernel)
set_option maxRecDepth 20000 in
theorem gJ0_checkIndex_df160_J3_checkIndex_8e157 : GoodIn wsJ0_checkIndex_df160 (va_wsS RJ0 1059 yJ3_checkIndex_8e157 wsJ3_checkIndex_8e157) := goodIn_app (goodIn_of _ (by decide +kernel)) ggJ0_checkIndex_df160_J3_checkIndex_8e157
theorem dJ0_checkIndex_df160_0 : decode cJ0_checkIndex_df160 0 = .ok (.iload_n 0, 1) := by decide +kernel
theorem dJ0_checkIndex_df160_1 : decode cJ0_checkIndex_df160 1 = .ok (.iload_n 1, 1) := by decide +kernel
theorem dJ0_checkIndex_df160_2 : decode cJ0_checkIndex_df160 2 = .ok (.getstatic 1053, 3) := by decide +kernel
theorem dJ0_checkIndex_df160_5 : decode cJ0_checkIndex_df160 5 = .ok (.invokestatic 1059, 3) := by decide +kernel
theorem dJ0_checkIndex_df160_8 : decode cJ0_checkIndex_df160 8 = .ok (.pop, 1) := by decide +kernel
theorem dJ0_checkIndex_df160_9 : decode cJ0_checkIndex_df160 9 = .ok (.return_, 1) := by decide +kernel
set_option maxRecDepth 20000 in
theorem ggJ1_charAt_3b067_J0_checkIndex_df160 : GoodIn wsJ1_charAt_3b067 wsJ0_checkIndex_df160 := goodIn_r _ [4, 5, 6, 7, 8, 9] (by decide +kernel) (by decide +kernel)
set_option maxRecDepth 20000 in
theorem gJ1_charAt_3b067_J0_checkIndex_df160 : GoodIn wsJ1_charAt_3b067 (va_wsS RJ1 9 yJ0_checkIndex_df160 wsJ0_checkIndex_df160) := goodIn_app (goodIn_of _ (by decide +kernel)) ggJ1_charAt_3b067_J0_checkIndex_df160
theorem dJ1_charAt_3b067_0 : decode cJ1_charAt_3b067 0 = .ok (.iload_n 1, 1) := by decide +kernel
theorem dJ1_charAt_3b067_1 : decode cJ1_charAt_3b067 1 = .ok (.aload_n 0, 1) := by decide +kernel
theorem dJ1_charAt_3b067_2 : decode cJ1_charAt_3b067 2 = .ok (.arraylength, 1) := by decide +kernel
theorem dJ1_charAt_3b067_3 : decode cJ1_charAt_3b067 3 = .ok (.invokestatic 9, 3) := by decide +kernel
theorem dJ1_charAt_3b067_6 : decode cJ1_charAt_3b067 6 = .ok (.aload_n 0, 1) := by decide +kernel
theorem dJ1_charAt_3b067_7 : decode cJ1_charAt_3b067 7 = .ok (.iload_n 1, 1) := by decide +kernel
theorem dJ1_charAt_3b067_8 : decode cJ1_charAt_3b067 8 = .ok (.baload, 1) := by decide +kernel
theorem dJ1_charAt_3b067_9 : decode cJ1_charAt_3b067 9 = .ok (.sipush 255, 3) := by decide +kernel
theorem dJ1_charAt_3b067_12 : decode cJ1_charAt_3b067 12 = .ok (.iand, 1) := by decide +kernel
theorem dJ1_charAt_3b067_13 : decode cJ1_charAt_3b067 13 = .ok (.i2c, 1) := by decide +kernel
theorem dJ1_charAt_3b067_14 : decode cJ1_charAt_3b067 14 = .ok (.ireturn, 1) := by decide +kernel
set_option maxRecDepth 20000 in
theorem ggJ2_getChar_3b067_J2_length_9d52b : GoodIn wsJ2_getChar_3b067 wsJ2_length_9d52b := goodIn_r _ [7] (by decide +kernel) (by decide +kernel)
set_option maxRecDepth 20000 in
theorem gJ2_getChar_3b067_J2_length_9d52b : GoodIn wsJ2_getChar_3b067 (va_wsS RJ2 48 yJ2_length_9d52b wsJ2_length_9d52b) := goodIn_app (goodIn_of _ (by decide +kernel)) ggJ2_getChar_3b067_J2_length_9d52b
theorem dJ2_getChar_3b067_0 : decode cJ2_getChar_3b067 0 = .ok (.getstatic 44, 3) := by decide +kernel
theorem dJ2_getChar_3b067_3 : decode cJ2_getChar_3b067 3 = .ok (.ifCond .ne 25, 3) := by decide +kernel
theorem dJ2_getChar_3b067_6 : decode cJ2_getChar_3b067 6 = .ok (.iload_n 1, 1) := by decide +kernel
theorem dJ2_getChar_3b067_7 : decode cJ2_getChar_3b067 7 = .ok (.ifCond .lt 11, 3) := by decide +kernel
theorem dJ2_getChar_3b067_10 : decode cJ2_getChar_3b067 10 = .ok (.iload_n 1, 1) := by decide +kernel
theorem dJ2_getChar_3b067_11 : decode cJ2_getChar_3b067 11 = .ok (.aload_n 0, 1) := by decide +kernel
theorem dJ2_getChar_3b067_12 : decode cJ2_getChar_3b067 12 = .ok (.invokestatic 48, 3) := by decide +kernel
theorem dJ2_getChar_3b067_15 : decode cJ2_getChar_3b067 15 = .ok (.if_icmp .lt 13, 3) := by decide +kernel
theorem dJ2_getChar_3b067_18 : decode cJ2_getChar_3b067 18 = .ok (.new 52, 3) := by decide +kernel
theorem dJ2_getChar_3b067_21 : decode cJ2_getChar_3b067 21 = .ok (.dup, 1) := by decide +kernel
theorem dJ2_getChar_3b067_22 : decode cJ2_getChar_3b067 22 = .ok (.ldc 54, 2) := by decide +kernel
theorem dJ2_getChar_3b067_24 : decode cJ2_getChar_3b067 24 = .ok (.invokespecial 56, 3) := by decide +kernel
theorem dJ2_getChar_3b067_27 : decode cJ2_getChar_3b067 27 = .ok (.athrow, 1) := by decide +kernel
theorem dJ2_getChar_3b067_28 : decode cJ2_getChar_3b067 28 = .ok (.iload_n 1, 1) := by decide +kernel
theorem dJ2_getChar_3b067_29 : decode cJ2_getChar_3b067 29 = .ok (.iconst 1, 1) := by decide +kernel
theorem dJ2_getChar_3b067_30 : decode cJ2_getChar_3b067 30 = .ok (.ishl, 1) := by decide +kernel
theorem dJ2_getChar_3b067_31 : decode cJ2_getChar_3b067 31 = .ok (.istore_n 1, 1) := by decide +kernel
theorem dJ2_getChar_3b067_32 : decode cJ2_getChar_3b067 32 = .ok (.aload_n 0, 1) := by decide +kernel
theorem dJ2_getChar_3b067_33 : decode cJ2_getChar_3b067 33 = .ok (.iload_n 1, 1) := by decide +kernel
theorem dJ2_getChar_3b067_34 : decode cJ2_getChar_3b067 34 = .ok (.iinc 1 1, 3) := by decide +kernel
theorem dJ2_getChar_3b067_37 : decode cJ2_getChar_3b067 37 = .ok (.baload, 1) := by decide +kernel
theorem dJ2_getChar_3b067_38 : decode cJ2_getChar_3b067 38 = .ok (.sipush 255, 3) := by decide +kernel
theorem dJ2_getChar_3b067_41 : decode cJ2_getChar_3b067 41 = .ok (.iand, 1) := by decide +kernel
theorem dJ2_getChar_3b067_42 : decode cJ2_getChar_3b067 42 = .ok (.getstatic 59, 3) := by decide +kernel
theorem dJ2_getChar_3b067_45 : decode cJ2_getChar_3b067 45 = .ok (.ishl, 1) := by decide +kernel
theorem dJ2_getChar_3b067_46 : decode cJ2_getChar_3b067 46 = .ok (.aload_n 0, 1) := by decide +kernel
theorem dJ2_getChar_3b067_47 : decode cJ2_getChar_3b067 47 = .ok (.iload_n 1, 1) := by decide +kernel
theorem dJ2_getChar_3b067_48 : decode cJ2_getChar_3b067 48 = .ok (.baload, 1) := by decide +kernel
theorem dJ2_getChar_3b067_49 : decode cJ2_getChar_3b067 49 = .ok (.sipush 255, 3) := by decide +kernel
theorem dJ2_getChar_3b067_52 : decode cJ2_getChar_3b067 52 = .ok (.iand, 1) := by decide +kernel
theorem dJ2_getChar_3b067_53 : decode cJ2_getChar_3b067 53 = .ok (.getstatic 63, 3) := by decide +kernel
theorem dJ2_getChar_3b067_56 : decode cJ2_getChar_3b067 56 = .ok (.ishl, 1) := by decide +kernel
theorem dJ2_getChar_3b067_57 : decode cJ2_getChar_3b067 57 = .ok (.ior, 1) := by decide +kernel
theorem dJ2_getChar_3b067_58 : decode cJ2_getChar_3b067 58 = .ok (.i2c, 1) := by decide +kernel
theorem dJ2_getChar_3b067_59 : decode cJ2_getChar_3b067 59 = .ok (.ireturn, 1) := by decide +kernel
theorem dJ2_length_9d52b_0 : decode cJ2_length_9d52b 0 = .ok (.aload_n 0, 1) := by decide +kernel
theorem dJ2_length_9d52b_1 : decode cJ2_length_9d52b 1 = .ok (.arraylength, 1) := by decide +kernel
theorem dJ2_length_9d52b_2 : decode cJ2_length_9d52b 2 = .ok (.iconst 1, 1) := by decide +kernel
theorem dJ2_length_9d52b_3 : decode cJ2_length_9d52b 3 = .ok (.ishr, 1) := by decide +kernel
theorem dJ2_length_9d52b_4 : decode cJ2_length_9d52b 4 = .ok (.ireturn, 1) := by decide +kernel
set_option maxRecDepth 20000 in
theorem ggJ2_charAt_3b067_J2_checkIndex_2214a : GoodIn wsJ2_charAt_3b067 wsJ2_checkIndex_2214a := goodIn_r _ [4, 5, 6, 3, 7, 8, 9, 10, 11, 12, 13, 14, 15, 16] (by decide +kernel) (by decide +kernel)
set_option maxRecDepth 20000 in
theorem gJ2_charAt_3b067_J2_checkIndex_2214a : GoodIn wsJ2_charAt_3b067 (va_wsS RJ2 67 yJ2_checkIndex_2214a wsJ2_checkIndex_2214a) := goodIn_app (goodIn_of _ (by decide +kernel)) ggJ2_charAt_3b067_J2_checkIndex_2214a
set_option maxRecDepth 20000 in
theorem ggJ2_charAt_3b067_J2_getChar_3b067 : GoodIn wsJ2_charAt_3b067 wsJ2_getChar_3b067 := goodIn_r _ [19, 20, 21, 22, 5, 6, 3, 7] (by decide +kernel) (by decide +kernel)
set_option maxRecDepth 20000 in
theorem gJ2_charAt_3b067_J2_getChar_3b067 : GoodIn wsJ2_charAt_3b067 (va_wsS RJ2 71 yJ2_getChar_3b067 wsJ2_getChar_3b067) := goodIn_app (goodIn_of _ (by decide +kernel)) ggJ2_charAt_3b067_J2_getChar_3b067
theorem dJ2_charAt_3b067_0 : decode cJ2_charAt_3b067 0 = .ok (.iload_n 1, 1) := by decide +kernel
theorem dJ2_charAt_3b067_1 : decode cJ2_charAt_3b067 1 = .ok (.aload_n 0, 1) := by decide +kernel
theorem dJ2_charAt_3b067_2 : decode cJ2_charAt_3b067 2 = .ok (.invokestatic 67, 3) := by decide +kernel
theorem dJ2_charAt_3b067_5 : decode cJ2_charAt_3b067 5 = .ok (.aload_n 0, 1) := by decide +kernel
theorem dJ2_charAt_3b067_6 : decode cJ2_charAt_3b067 6 = .ok (.iload_n 1, 1) := by decide +kernel
theorem dJ2_charAt_3b067_7 : decode cJ2_charAt_3b067 7 = .ok (.invokestatic 71, 3) := by decide +kernel
theorem dJ2_charAt_3b067_10 : decode cJ2_charAt_3b067 10 = .ok (.ireturn, 1) := by decide +kernel
set_option maxRecDepth 20000 in
theorem ggJ2_checkIndex_2214a_J2_length_9d52b : GoodIn wsJ2_checkIndex_2214a wsJ2_length_9d52b := goodIn_r _ [4] (by decide +kernel) (by decide +kernel)
set_option maxRecDepth 20000 in
theorem gJ2_checkIndex_2214a_J2_length_9d52b : GoodIn wsJ2_checkIndex_2214a (va_wsS RJ2 48 yJ2_length_9d52b wsJ2_length_9d52b) := goodIn_app (goodIn_of _ (by decide +kernel)) ggJ2_checkIndex_2214a_J2_length_9d52b
set_option maxRecDepth 20000 in
theorem ggJ2_checkIndex_2214a_J0_checkIndex_df160 : GoodIn wsJ2_checkIndex_2214a wsJ0_checkIndex_df160 := goodIn_r _ [8, 9, 10, 11, 12, 13] (by decide +kernel) (by decide +kernel)
set_option maxRecDepth 20000 in
theorem gJ2_checkIndex_2214a_J0_checkIndex_df160 : GoodIn wsJ2_checkIndex_2214a (va_wsS RJ2 414 yJ0_checkIndex_df160 wsJ0_checkIndex_df160) := goodIn_app (goodIn_of _ (by decide +kernel)) ggJ2_checkIndex_2214a_J0_checkIndex_df160
theorem dJ2_checkIndex_2214a_0 : decode cJ2_checkIndex_2214a 0 = .ok (.iload_n 0, 1) := by decide +kernel
theorem dJ2_checkIndex_2214a_1 : decode cJ2_checkIndex_2214a 1 = .ok (.aload_n 1, 1) := by decide +kernel
theorem dJ2_checkIndex_2214a_2 : decode cJ2_checkIndex_2214a 2 = .ok (.invokestatic 48, 3) := by decide +kernel
theorem dJ2_checkIndex_2214a_5 : decode cJ2_checkIndex_2214a 5 = .ok (.invokestatic 414, 3) := by decide +kernel
theorem dJ2_checkIndex_2214a_8 : decode cJ2_checkIndex_2214a 8 = .ok (.return_, 1) := by decide +kernel
theorem dJ7_fill_53178_0 : decode cJ7_fill_53178 0 = .ok (.iconst 0, 1) := by decide +kernel
theorem dJ7_fill_53178_1 : decode cJ7_fill_53178 1 = .ok (.istore_n 2, 1) := by decide +kernel
theorem dJ7_fill_53178_2 : decode cJ7_fill_53178 2 = .ok (.aload_n 0, 1) := by decide +kernel
theorem dJ7_fill_53178_3 : decode cJ7_fill_53178 3 = .ok (.arraylength, 1) := by decide +kernel
theorem dJ7_fill_53178_4 : decode cJ7_fill_53178 4 = .ok (.istore_n 3, 1) := by decide +kernel
theorem dJ7_fill_53178_5 : decode cJ7_fill_53178 5 = .ok (.iload_n 2, 1) := by decide +kernel
theorem dJ7_fill_53178_6 : decode cJ7_fill_53178 6 = .ok (.iload_n 3, 1) := by decide +kernel
theorem dJ7_fill_53178_7 : decode cJ7_fill_53178 7 = .ok (.if_icmp .ge 13, 3) := by decide +kernel
theorem dJ7_fill_53178_10 : decode cJ7_fill_53178 10 = .ok (.aload_n 0, 1) := by decide +kernel
theorem dJ7_fill_53178_11 : decode cJ7_fill_53178 11 = .ok (.iload_n 2, 1) := by decide +kernel
theorem dJ7_fill_53178_12 : decode cJ7_fill_53178 12 = .ok (.iload_n 1, 1) := by decide +kernel
theorem dJ7_fill_53178_13 : decode cJ7_fill_53178 13 = .ok (.iastore, 1) := by decide +kernel
theorem dJ7_fill_53178_14 : decode cJ7_fill_53178 14 = .ok (.iinc 2 1, 3) := by decide +kernel
theorem dJ7_fill_53178_17 : decode cJ7_fill_53178 17 = .ok (.goto (-12), 3) := by decide +kernel
theorem dJ7_fill_53178_20 : decode cJ7_fill_53178 20 = .ok (.return_, 1) := by decide +kernel
theorem dJ3_checkIndex_8e157_0 : decode cJ3_checkIndex_8e157 0 = .ok (.iload_n 0, 1) := by decide +kernel
theorem dJ3_checkIndex_8e157_1 : decode cJ3_checkIndex_8e157 1 = .ok (.ifCond .lt 8, 3) := by decide +kernel
theorem dJ3_checkIndex_8e157_4 : decode cJ3_checkIndex_8e157 4 = .ok (.iload_n 0, 1) := by decide +kernel
theorem dJ3_checkIndex_8e157_5 : decode cJ3_checkIndex_8e157 5 = .ok (.iload_n 1, 1) := by decide +kernel
theorem dJ3_checkIndex_8e157_6 : decode cJ3_checkIndex_8e157 6 = .ok (.if_icmp .lt 10, 3) := by decide +kernel
theorem dJ3_checkIndex_8e157_9 : decode cJ3_checkIndex_8e157 9 = .ok (.aload_n 2, 1) := by decide +kernel
theorem dJ3_checkIndex_8e157_10 : decode cJ3_checkIndex_8e157 10 = .ok (.iload_n 0, 1) := by decide +kernel
theorem dJ3_checkIndex_8e157_11 : decode cJ3_checkIndex_8e157 11 = .ok (.iload_n 1, 1) := by decide +kernel
theorem dJ3_checkIndex_8e157_12 : decode cJ3_checkIndex_8e157 12 = .ok (.invokestatic 95, 3) := by decide +kernel
theorem dJ3_checkIndex_8e157_15 : decode cJ3_checkIndex_8e157 15 = .ok (.athrow, 1) := by decide +kernel
theorem dJ3_checkIndex_8e157_16 : decode cJ3_checkIndex_8e157 16 = .ok (.iload_n 0, 1) := by decide +kernel
theorem dJ3_checkIndex_8e157_17 : decode cJ3_checkIndex_8e157 17 = .ok (.ireturn, 1) := by decide +kernel
