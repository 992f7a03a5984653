theorem dX8_reachOf_77 : decode cX8_reachOf 77 = .ok (.iconst 0, 1) := by decide +kernel
theorem dX8_reachOf_78 : decode cX8_reachOf 78 = .ok (.istore 9, 2) := by decide +kernel
theorem dX8_reachOf_80 : decode cX8_reachOf 80 = .ok (.iload_n 2, 1) := by decide +kernel
theorem dX8_reachOf_81 : decode cX8_reachOf 81 = .ok (.aload_n 0, 1) := by decide +kernel
theorem dX8_reachOf_82 : decode cX8_reachOf 82 = .ok (.getfield 7, 3) := by decide +kernel
theorem dX8_reachOf_85 : decode cX8_reachOf 85 = .ok (.irem, 1) := by decide +kernel
theorem dX8_reachOf_86 : decode cX8_reachOf 86 = .ok (.iload 5, 2) := by decide +kernel
theorem dX8_reachOf_88 : decode cX8_reachOf 88 = .ok (.iadd, 1) := by decide +kernel
theorem dX8_reachOf_89 : decode cX8_reachOf 89 = .ok (.istore 10, 2) := by decide +kernel
theorem dX8_reachOf_91 : decode cX8_reachOf 91 = .ok (.iload_n 2, 1) := by decide +kernel
theorem dX8_reachOf_92 : decode cX8_reachOf 92 = .ok (.aload_n 0, 1) := by decide +kernel
theorem dX8_reachOf_93 : decode cX8_reachOf 93 = .ok (.getfield 7, 3) := by decide +kernel
theorem dX8_reachOf_96 : decode cX8_reachOf 96 = .ok (.idiv, 1) := by decide +kernel
theorem dX8_reachOf_97 : decode cX8_reachOf 97 = .ok (.iload 6, 2) := by decide +kernel
theorem dX8_reachOf_99 : decode cX8_reachOf 99 = .ok (.iadd, 1) := by decide +kernel
theorem dX8_reachOf_100 : decode cX8_reachOf 100 = .ok (.istore 11, 2) := by decide +kernel
theorem dX8_reachOf_102 : decode cX8_reachOf 102 = .ok (.iload_n 1, 1) := by decide +kernel
theorem dX8_reachOf_103 : decode cX8_reachOf 103 = .ok (.iconst 2, 1) := by decide +kernel
theorem dX8_reachOf_104 : decode cX8_reachOf 104 = .ok (.if_icmp .ge 68, 3) := by decide +kernel
theorem dX8_reachOf_107 : decode cX8_reachOf 107 = .ok (.iload_n 1, 1) := by decide +kernel
theorem dX8_reachOf_108 : decode cX8_reachOf 108 = .ok (.ifCond .ne 20, 3) := by decide +kernel
theorem dX8_reachOf_111 : decode cX8_reachOf 111 = .ok (.iload 7, 2) := by decide +kernel
theorem dX8_reachOf_113 : decode cX8_reachOf 113 = .ok (.iload 8, 2) := by decide +kernel
theorem dX8_reachOf_115 : decode cX8_reachOf 115 = .ok (.imul, 1) := by decide +kernel
theorem dX8_reachOf_116 : decode cX8_reachOf 116 = .ok (.iconst 2, 1) := by decide +kernel
theorem dX8_reachOf_117 : decode cX8_reachOf 117 = .ok (.if_icmp .ne 7, 3) := by decide +kernel
theorem dX8_reachOf_120 : decode cX8_reachOf 120 = .ok (.iconst 1, 1) := by decide +kernel
theorem dX8_reachOf_121 : decode cX8_reachOf 121 = .ok (.goto 9, 3) := by decide +kernel
theorem dX8_reachOf_124 : decode cX8_reachOf 124 = .ok (.iconst 0, 1) := by decide +kernel
theorem dX8_reachOf_125 : decode cX8_reachOf 125 = .ok (.goto 5, 3) := by decide +kernel
theorem dX8_reachOf_128 : decode cX8_reachOf 128 = .ok (.iload 9, 2) := by decide +kernel
theorem dX8_reachOf_130 : decode cX8_reachOf 130 = .ok (.istore 12, 2) := by decide +kernel
theorem dX8_reachOf_132 : decode cX8_reachOf 132 = .ok (.iload 4, 2) := by decide +kernel
theorem dX8_reachOf_134 : decode cX8_reachOf 134 = .ok (.iload 12, 2) := by decide +kernel
theorem dX8_reachOf_136 : decode cX8_reachOf 136 = .ok (.ifCond .eq 29, 3) := by decide +kernel
theorem dX8_reachOf_139 : decode cX8_reachOf 139 = .ok (.aload_n 0, 1) := by decide +kernel
theorem dX8_reachOf_140 : decode cX8_reachOf 140 = .ok (.iload 10, 2) := by decide +kernel
theorem dX8_reachOf_142 : decode cX8_reachOf 142 = .ok (.iload 11, 2) := by decide +kernel
theorem dX8_reachOf_144 : decode cX8_reachOf 144 = .ok (.invokevirtual 195, 3) := by decide +kernel
theorem dX8_reachOf_147 : decode cX8_reachOf 147 = .ok (.ifCond .eq 18, 3) := by decide +kernel
theorem dX8_reachOf_150 : decode cX8_reachOf 150 = .ok (.iconst 1, 1) := by decide +kernel
theorem dX8_reachOf_151 : decode cX8_reachOf 151 = .ok (.iload 11, 2) := by decide +kernel
theorem dX8_reachOf_153 : decode cX8_reachOf 153 = .ok (.aload_n 0, 1) := by decide +kernel
theorem dX8_reachOf_154 : decode cX8_reachOf 154 = .ok (.getfield 7, 3) := by decide +kernel
theorem dX8_reachOf_157 : decode cX8_reachOf 157 = .ok (.imul, 1) := by decide +kernel
theorem dX8_reachOf_158 : decode cX8_reachOf 158 = .ok (.iload 10, 2) := by decide +kernel
theorem dX8_reachOf_160 : decode cX8_reachOf 160 = .ok (.iadd, 1) := by decide +kernel
theorem dX8_reachOf_161 : decode cX8_reachOf 161 = .ok (.ishl, 1) := by decide +kernel
theorem dX8_reachOf_162 : decode cX8_reachOf 162 = .ok (.goto 4, 3) := by decide +kernel
theorem dX8_reachOf_165 : decode cX8_reachOf 165 = .ok (.iconst 0, 1) := by decide +kernel
theorem dX8_reachOf_166 : decode cX8_reachOf 166 = .ok (.ior, 1) := by decide +kernel
theorem dX8_reachOf_167 : decode cX8_reachOf 167 = .ok (.istore 4, 2) := by decide +kernel
theorem dX8_reachOf_169 : decode cX8_reachOf 169 = .ok (.goto 50, 3) := by decide +kernel
theorem dX8_reachOf_172 : decode cX8_reachOf 172 = .ok (.iload 9, 2) := by decide +kernel
theorem dX8_reachOf_174 : decode cX8_reachOf 174 = .ok (.ifCond .eq 45, 3) := by decide +kernel
theorem dX8_reachOf_177 : decode cX8_reachOf 177 = .ok (.iload_n 1, 1) := by decide +kernel
theorem dX8_reachOf_178 : decode cX8_reachOf 178 = .ok (.iconst 2, 1) := by decide +kernel
theorem dX8_reachOf_179 : decode cX8_reachOf 179 = .ok (.if_icmp .ne 7, 3) := by decide +kernel
theorem dX8_reachOf_182 : decode cX8_reachOf 182 = .ok (.iconst 1, 1) := by decide +kernel
theorem dX8_reachOf_183 : decode cX8_reachOf 183 = .ok (.goto 4, 3) := by decide +kernel
theorem dX8_reachOf_186 : decode cX8_reachOf 186 = .ok (.iconst 0, 1) := by decide +kernel
theorem dX8_reachOf_187 : decode cX8_reachOf 187 = .ok (.iload 7, 2) := by decide +kernel
theorem dX8_reachOf_189 : decode cX8_reachOf 189 = .ok (.iload 8, 2) := by decide +kernel
theorem dX8_reachOf_191 : decode cX8_reachOf 191 = .ok (.iadd, 1) := by decide +kernel
theorem dX8_reachOf_192 : decode cX8_reachOf 192 = .ok (.iconst 1, 1) := by decide +kernel
theorem dX8_reachOf_193 : decode cX8_reachOf 193 = .ok (.if_icmp .ne 7, 3) := by decide +kernel
theorem dX8_reachOf_196 : decode cX8_reachOf 196 = .ok (.iconst 1, 1) := by decide +kernel
theorem dX8_reachOf_197 : decode cX8_reachOf 197 = .ok (.goto 4, 3) := by decide +kernel
theorem dX8_reachOf_200 : decode cX8_reachOf 200 = .ok (.iconst 0, 1) := by decide +kernel
theorem dX8_reachOf_201 : decode cX8_reachOf 201 = .ok (.if_icmp .ne 18, 3) := by decide +kernel
theorem dX8_reachOf_204 : decode cX8_reachOf 204 = .ok (.iload 4, 2) := by decide +kernel
theorem dX8_reachOf_206 : decode cX8_reachOf 206 = .ok (.aload_n 0, 1) := by decide +kernel
theorem dX8_reachOf_207 : decode cX8_reachOf 207 = .ok (.iload_n 2, 1) := by decide +kernel
theorem dX8_reachOf_208 : decode cX8_reachOf 208 = .ok (.iload 5, 2) := by decide +kernel
theorem dX8_reachOf_210 : decode cX8_reachOf 210 = .ok (.iload 6, 2) := by decide +kernel
theorem dX8_reachOf_212 : decode cX8_reachOf 212 = .ok (.iload_n 3, 1) := by decide +kernel
theorem dX8_reachOf_213 : decode cX8_reachOf 213 = .ok (.invokevirtual 198, 3) := by decide +kernel
theorem dX8_reachOf_216 : decode cX8_reachOf 216 = .ok (.ior, 1) := by decide +kernel
theorem dX8_reachOf_217 : decode cX8_reachOf 217 = .ok (.istore 4, 2) := by decide +kernel
theorem dX8_reachOf_219 : decode cX8_reachOf 219 = .ok (.iinc 6 1, 3) := by decide +kernel
theorem dX8_reachOf_222 : decode cX8_reachOf 222 = .ok (.goto (-205), 3) := by decide +kernel
theorem dX8_reachOf_225 : decode cX8_reachOf 225 = .ok (.iinc 5 1, 3) := by decide +kernel
theorem dX8_reachOf_228 : decode cX8_reachOf 228 = .ok (.goto (-221), 3) := by decide +kernel
theorem dX8_reachOf_231 : decode cX8_reachOf 231 = .ok (.iload 4, 2) := by decide +kernel
theorem dX8_reachOf_233 : decode cX8_reachOf 233 = .ok (.ireturn, 1) := by decide +kernel
theorem dX8_takenBy_0 : decode cX8_takenBy 0 = .ok (.iconst 0, 1) := by decide +kernel
theorem dX8_takenBy_1 : decode cX8_takenBy 1 = .ok (.istore_n 2, 1) := by decide +kernel
theorem dX8_takenBy_2 : decode cX8_takenBy 2 = .ok (.iconst 0, 1) := by decide +kernel
theorem dX8_takenBy_3 : decode cX8_takenBy 3 = .ok (.istore_n 3, 1) := by decide +kernel
theorem dX8_takenBy_4 : decode cX8_takenBy 4 = .ok (.iload_n 3, 1) := by decide +kernel
theorem dX8_takenBy_5 : decode cX8_takenBy 5 = .ok (.aload_n 0, 1) := by decide +kernel
theorem dX8_takenBy_6 : decode cX8_takenBy 6 = .ok (.getfield 68, 3) := by decide +kernel
theorem dX8_takenBy_9 : decode cX8_takenBy 9 = .ok (.if_icmp .ge 17, 3) := by decide +kernel
theorem dX8_takenBy_12 : decode cX8_takenBy 12 = .ok (.iload_n 2, 1) := by decide +kernel
theorem dX8_takenBy_13 : decode cX8_takenBy 13 = .ok (.iconst 1, 1) := by decide +kernel
theorem dX8_takenBy_14 : decode cX8_takenBy 14 = .ok (.aload_n 1, 1) := by decide +kernel
theorem dX8_takenBy_15 : decode cX8_takenBy 15 = .ok (.iload_n 3, 1) := by decide +kernel
theorem dX8_takenBy_16 : decode cX8_takenBy 16 = .ok (.iaload, 1) := by decide +kernel
theorem dX8_takenBy_17 : decode cX8_takenBy 17 = .ok (.ishl, 1) := by decide +kernel
theorem dX8_takenBy_18 : decode cX8_takenBy 18 = .ok (.ior, 1) := by decide +kernel
theorem dX8_takenBy_19 : decode cX8_takenBy 19 = .ok (.istore_n 2, 1) := by decide +kernel
theorem dX8_takenBy_20 : decode cX8_takenBy 20 = .ok (.iinc 3 1, 3) := by decide +kernel
theorem dX8_takenBy_23 : decode cX8_takenBy 23 = .ok (.goto (-19), 3) := by decide +kernel
theorem dX8_takenBy_26 : decode cX8_takenBy 26 = .ok (.iload_n 2, 1) := by decide +kernel
theorem dX8_takenBy_27 : decode cX8_takenBy 27 = .ok (.ireturn, 1) := by decide +kernel
set_option maxRecDepth 20000 in
theorem ggX8_attackedBy_X8_takenBy : GoodIn wsX8_attackedBy wsX8_takenBy := goodIn_r _ [7, 1, 29, 30, 31, 32, 33, 34, 35, 36, 37, 38, 39, 40, 41, 42, 43, 44, 45, 46, 47, 48, 49, 50, 51, 52, 53, 54, 55, 56, 57, 58, 59, 60, 61, 62] (by decide +kernel) (by decide +kernel)
set_option maxRecDepth 20000 in
theorem gX8_attackedBy_X8_takenBy : GoodIn wsX8_attackedBy (wsV RX8 202 RX8 yX8_takenBy wsX8_takenBy) := goodIn_app (goodIn_of _ (by decide +kernel)) ggX8_attackedBy_X8_takenBy
set_option maxRecDepth 20000 in
theorem ggX8_attackedBy_X8_reachOf : GoodIn wsX8_attackedBy wsX8_reachOf := goodIn_r _ [11, 12, 13, 14, 15, 6, 16, 17, 18, 19, 20, 21, 22, 23, 24, 25, 26, 27, 28, 29, 30, 31, 32, 33, 34, 35, 36, 37, 38, 39, 40, 41, 42, 43, 44, 45, 46, 47, 48, 49, 50, 51, 52, 53, 54, 55, 56, 57, 58, 59, 60, 61, 62] (by decide +kernel) (by decide +kernel)
set_option maxRecDepth 20000 in
theorem gX8_attackedBy_X8_reachOf : GoodIn wsX8_attackedBy (wsV RX8 206 RX8 yX8_reachOf wsX8_reachOf) := goodIn_app (goodIn_of _ (by decide +kernel)) ggX8_attackedBy_X8_reachOf
set_option maxRecDepth 20000 in
theorem ggX8_attackedBy_X8_has : GoodIn wsX8_attackedBy wsX8_has := goodIn_r _ [24] (by decide +kernel) (by decide +kernel)
set_option maxRecDepth 20000 in
theorem gX8_attackedBy_X8_has : GoodIn wsX8_attackedBy (va_wsS RX8 126 yX8_has wsX8_has) := goodIn_app (goodIn_of _ (by decide +kernel)) ggX8_attackedBy_X8_has
theorem dX8_attackedBy_0 : decode cX8_attackedBy 0 = .ok (.iconst 0, 1) := by decide +kernel
theorem dX8_attackedBy_1 : decode cX8_attackedBy 1 = .ok (.istore_n 2, 1) := by decide +kernel
theorem dX8_attackedBy_2 : decode cX8_attackedBy 2 = .ok (.aload_n 0, 1) := by decide +kernel
theorem dX8_attackedBy_3 : decode cX8_attackedBy 3 = .ok (.aload_n 1, 1) := by decide +kernel
theorem dX8_attackedBy_4 : decode cX8_attackedBy 4 = .ok (.invokevirtual 202, 3) := by decide +kernel
theorem dX8_attackedBy_7 : decode cX8_attackedBy 7 = .ok (.istore_n 3, 1) := by decide +kernel
theorem dX8_attackedBy_8 : decode cX8_attackedBy 8 = .ok (.iconst 0, 1) := by decide +kernel
theorem dX8_attackedBy_9 : decode cX8_attackedBy 9 = .ok (.istore 4, 2) := by decide +kernel
theorem dX8_attackedBy_11 : decode cX8_attackedBy 11 = .ok (.iload 4, 2) := by decide +kernel
theorem dX8_attackedBy_13 : decode cX8_attackedBy 13 = .ok (.aload_n 0, 1) := by decide +kernel
theorem dX8_attackedBy_14 : decode cX8_attackedBy 14 = .ok (.getfield 68, 3) := by decide +kernel
theorem dX8_attackedBy_17 : decode cX8_attackedBy 17 = .ok (.if_icmp .ge 95, 3) := by decide +kernel
theorem dX8_attackedBy_20 : decode cX8_attackedBy 20 = .ok (.aload_n 0, 1) := by decide +kernel
theorem dX8_attackedBy_21 : decode cX8_attackedBy 21 = .ok (.aload_n 0, 1) := by decide +kernel
theorem dX8_attackedBy_22 : decode cX8_attackedBy 22 = .ok (.getfield 16, 3) := by decide +kernel
theorem dX8_attackedBy_25 : decode cX8_attackedBy 25 = .ok (.iconst 4, 1) := by decide +kernel
theorem dX8_attackedBy_26 : decode cX8_attackedBy 26 = .ok (.iload 4, 2) := by decide +kernel
theorem dX8_attackedBy_28 : decode cX8_attackedBy 28 = .ok (.imul, 1) := by decide +kernel
theorem dX8_attackedBy_29 : decode cX8_attackedBy 29 = .ok (.iaload, 1) := by decide +kernel
theorem dX8_attackedBy_30 : decode cX8_attackedBy 30 = .ok (.aload_n 1, 1) := by decide +kernel
theorem dX8_attackedBy_31 : decode cX8_attackedBy 31 = .ok (.iload 4, 2) := by decide +kernel
theorem dX8_attackedBy_33 : decode cX8_attackedBy 33 = .ok (.iaload, 1) := by decide +kernel
theorem dX8_attackedBy_34 : decode cX8_attackedBy 34 = .ok (.iload_n 3, 1) := by decide +kernel
theorem dX8_attackedBy_35 : decode cX8_attackedBy 35 = .ok (.invokevirtual 206, 3) := by decide +kernel
theorem dX8_attackedBy_38 : decode cX8_attackedBy 38 = .ok (.istore 5, 2) := by decide +kernel
theorem dX8_attackedBy_40 : decode cX8_attackedBy 40 = .ok (.iconst 0, 1) := by decide +kernel
theorem dX8_attackedBy_41 : decode cX8_attackedBy 41 = .ok (.istore 6, 2) := by decide +kernel
theorem dX8_attackedBy_43 : decode cX8_attackedBy 43 = .ok (.iload 6, 2) := by decide +kernel
theorem dX8_attackedBy_45 : decode cX8_attackedBy 45 = .ok (.aload_n 0, 1) := by decide +kernel
theorem dX8_attackedBy_46 : decode cX8_attackedBy 46 = .ok (.getfield 68, 3) := by decide +kernel
theorem dX8_attackedBy_49 : decode cX8_attackedBy 49 = .ok (.if_icmp .ge 57, 3) := by decide +kernel
theorem dX8_attackedBy_52 : decode cX8_attackedBy 52 = .ok (.iload_n 2, 1) := by decide +kernel
theorem dX8_attackedBy_53 : decode cX8_attackedBy 53 = .ok (.aload_n 0, 1) := by decide +kernel
theorem dX8_attackedBy_54 : decode cX8_attackedBy 54 = .ok (.getfield 16, 3) := by decide +kernel
theorem dX8_attackedBy_57 : decode cX8_attackedBy 57 = .ok (.iconst 4, 1) := by decide +kernel
theorem dX8_attackedBy_58 : decode cX8_attackedBy 58 = .ok (.iload 6, 2) := by decide +kernel
theorem dX8_attackedBy_60 : decode cX8_attackedBy 60 = .ok (.imul, 1) := by decide +kernel
theorem dX8_attackedBy_61 : decode cX8_attackedBy 61 = .ok (.iconst 1, 1) := by decide +kernel
theorem dX8_attackedBy_62 : decode cX8_attackedBy 62 = .ok (.iadd, 1) := by decide +kernel
theorem dX8_attackedBy_63 : decode cX8_attackedBy 63 = .ok (.iaload, 1) := by decide +kernel
theorem dX8_attackedBy_64 : decode cX8_attackedBy 64 = .ok (.aload_n 0, 1) := by decide +kernel
theorem dX8_attackedBy_65 : decode cX8_attackedBy 65 = .ok (.getfield 16, 3) := by decide +kernel
theorem dX8_attackedBy_68 : decode cX8_attackedBy 68 = .ok (.iconst 4, 1) := by decide +kernel
theorem dX8_attackedBy_69 : decode cX8_attackedBy 69 = .ok (.iload 4, 2) := by decide +kernel
theorem dX8_attackedBy_71 : decode cX8_attackedBy 71 = .ok (.imul, 1) := by decide +kernel
theorem dX8_attackedBy_72 : decode cX8_attackedBy 72 = .ok (.iconst 1, 1) := by decide +kernel
theorem dX8_attackedBy_73 : decode cX8_attackedBy 73 = .ok (.iadd, 1) := by decide +kernel
theorem dX8_attackedBy_74 : decode cX8_attackedBy 74 = .ok (.iaload, 1) := by decide +kernel
theorem dX8_attackedBy_75 : decode cX8_attackedBy 75 = .ok (.if_icmp .eq 22, 3) := by decide +kernel
theorem dX8_attackedBy_78 : decode cX8_attackedBy 78 = .ok (.iload 5, 2) := by decide +kernel
theorem dX8_attackedBy_80 : decode cX8_attackedBy 80 = .ok (.aload_n 1, 1) := by decide +kernel
theorem dX8_attackedBy_81 : decode cX8_attackedBy 81 = .ok (.iload 6, 2) := by decide +kernel
theorem dX8_attackedBy_83 : decode cX8_attackedBy 83 = .ok (.iaload, 1) := by decide +kernel
theorem dX8_attackedBy_84 : decode cX8_attackedBy 84 = .ok (.invokestatic 126, 3) := by decide +kernel
theorem dX8_attackedBy_87 : decode cX8_attackedBy 87 = .ok (.ifCond .eq 10, 3) := by decide +kernel
theorem dX8_attackedBy_90 : decode cX8_attackedBy 90 = .ok (.iconst 1, 1) := by decide +kernel
theorem dX8_attackedBy_91 : decode cX8_attackedBy 91 = .ok (.iload 6, 2) := by decide +kernel
theorem dX8_attackedBy_93 : decode cX8_attackedBy 93 = .ok (.ishl, 1) := by decide +kernel
theorem dX8_attackedBy_94 : decode cX8_attackedBy 94 = .ok (.goto 4, 3) := by decide +kernel
theorem dX8_attackedBy_97 : decode cX8_attackedBy 97 = .ok (.iconst 0, 1) := by decide +kernel
theorem dX8_attackedBy_98 : decode cX8_attackedBy 98 = .ok (.ior, 1) := by decide +kernel
theorem dX8_attackedBy_99 : decode cX8_attackedBy 99 = .ok (.istore_n 2, 1) := by decide +kernel
theorem dX8_attackedBy_100 : decode cX8_attackedBy 100 = .ok (.iinc 6 1, 3) := by decide +kernel
theorem dX8_attackedBy_103 : decode cX8_attackedBy 103 = .ok (.goto (-60), 3) := by decide +kernel
theorem dX8_attackedBy_106 : decode cX8_attackedBy 106 = .ok (.iinc 4 1, 3) := by decide +kernel
theorem dX8_attackedBy_109 : decode cX8_attackedBy 109 = .ok (.goto (-98), 3) := by decide +kernel
theorem dX8_attackedBy_112 : decode cX8_attackedBy 112 = .ok (.iload_n 2, 1) := by decide +kernel
theorem dX8_attackedBy_113 : decode cX8_attackedBy 113 = .ok (.ireturn, 1) := by decide +kernel
set_option maxRecDepth 20000 in
theorem ggX8_mayOf_X8_takenBy : GoodIn wsX8_mayOf wsX8_takenBy := goodIn_r _ [9, 10, 34, 35, 36, 37, 38, 39, 40, 41, 42, 43, 44, 45, 46, 47, 48, 49, 50, 51, 52, 53, 54, 55, 56, 57, 58, 59, 60, 61, 62, 63, 64, 65, 66, 67] (by decide +kernel) (by decide +kernel)
set_option maxRecDepth 20000 in
theorem gX8_mayOf_X8_takenBy : GoodIn wsX8_mayOf (wsV RX8 202 RX8 yX8_takenBy wsX8_takenBy) := goodIn_app (goodIn_of _ (by decide +kernel)) ggX8_mayOf_X8_takenBy
set_option maxRecDepth 20000 in
theorem ggX8_mayOf_X8_reachOf : GoodIn wsX8_mayOf wsX8_reachOf := goodIn_r _ [14, 3, 15, 16, 17, 8, 18, 4, 19, 20, 21, 22, 23, 24, 25, 26, 27, 28, 29, 34, 35, 36, 37, 38, 39, 40, 41, 42, 43, 44, 45, 46, 47, 48, 49, 50, 51, 52, 53, 54, 55, 56, 57, 58, 59, 60, 61, 62, 63, 64, 65, 66, 67] (by decide +kernel) (by decide +kernel)
set_option maxRecDepth 20000 in
theorem gX8_mayOf_X8_reachOf : GoodIn wsX8_mayOf (wsV RX8 206 RX8 yX8_reachOf wsX8_reachOf) := goodIn_app (goodIn_of _ (by decide +kernel)) ggX8_mayOf_X8_reachOf
set_option maxRecDepth 20000 in
theorem ggX8_mayOf_X8_has : GoodIn wsX8_mayOf wsX8_has := goodIn_r _ [25] (by decide +kernel) (by decide +kernel)
set_option maxRecDepth 20000 in
theorem gX8_mayOf_X8_has : GoodIn wsX8_mayOf (va_wsS RX8 126 yX8_has wsX8_has) := goodIn_app (goodIn_of _ (by decide +kernel)) ggX8_mayOf_X8_has
set_option maxRecDepth 20000 in
theorem ggX8_mayOf_X8_attackedBy : GoodIn wsX8_mayOf wsX8_attackedBy := goodIn_r _ [33, 10, 2, 5, 6, 7, 8, 9, 11, 12, 13, 14, 3, 15, 16, 17, 18, 4, 19, 20, 21, 22, 23, 24, 25, 26, 27, 28, 29, 34, 35, 36, 37, 38, 39, 40, 41, 42, 43, 44, 45, 46, 47, 48, 49, 50, 51, 52, 53, 54, 55, 56, 57, 58, 59, 60, 61, 62, 63, 64, 65, 66, 67] (by decide +kernel) (by decide +kernel)
set_option maxRecDepth 20000 in
theorem gX8_mayOf_X8_attackedBy : GoodIn wsX8_mayOf (wsV RX8 210 RX8 yX8_attackedBy wsX8_attackedBy) := goodIn_app (goodIn_of _ (by decide +kernel)) ggX8_mayOf_X8_attackedBy
theorem dX8_mayOf_0 : decode cX8_mayOf 0 = .ok (.aload_n 0, 1) := by decide +kernel
theorem dX8_mayOf_1 : decode cX8_mayOf 1 = .ok (.getfield 176, 3) := by decide +kernel
theorem dX8_mayOf_4 : decode cX8_mayOf 4 = .ok (.iconst 1, 1) := by decide +kernel
theorem dX8_mayOf_5 : decode cX8_mayOf 5 = .ok (.if_icmp .ne 19, 3) := by decide +kernel
theorem dX8_mayOf_8 : decode cX8_mayOf 8 = .ok (.aload_n 0, 1) := by decide +kernel
theorem dX8_mayOf_9 : decode cX8_mayOf 9 = .ok (.getfield 16, 3) := by decide +kernel
theorem dX8_mayOf_12 : decode cX8_mayOf 12 = .ok (.iconst 4, 1) := by decide +kernel
theorem dX8_mayOf_13 : decode cX8_mayOf 13 = .ok (.iload_n 2, 1) := by decide +kernel
theorem dX8_mayOf_14 : decode cX8_mayOf 14 = .ok (.imul, 1) := by decide +kernel
theorem dX8_mayOf_15 : decode cX8_mayOf 15 = .ok (.iconst 1, 1) := by decide +kernel
theorem dX8_mayOf_16 : decode cX8_mayOf 16 = .ok (.iadd, 1) := by decide +kernel
theorem dX8_mayOf_17 : decode cX8_mayOf 17 = .ok (.iaload, 1) := by decide +kernel
theorem dX8_mayOf_18 : decode cX8_mayOf 18 = .ok (.iload_n 3, 1) := by decide +kernel
theorem dX8_mayOf_19 : decode cX8_mayOf 19 = .ok (.if_icmp .eq 5, 3) := by decide +kernel
theorem dX8_mayOf_22 : decode cX8_mayOf 22 = .ok (.iconst 0, 1) := by decide +kernel
theorem dX8_mayOf_23 : decode cX8_mayOf 23 = .ok (.ireturn, 1) := by decide +kernel
theorem dX8_mayOf_24 : decode cX8_mayOf 24 = .ok (.aload_n 0, 1) := by decide +kernel
theorem dX8_mayOf_25 : decode cX8_mayOf 25 = .ok (.aload_n 1, 1) := by decide +kernel
theorem dX8_mayOf_26 : decode cX8_mayOf 26 = .ok (.invokevirtual 202, 3) := by decide +kernel
theorem dX8_mayOf_29 : decode cX8_mayOf 29 = .ok (.istore 4, 2) := by decide +kernel
theorem dX8_mayOf_31 : decode cX8_mayOf 31 = .ok (.aload_n 0, 1) := by decide +kernel
theorem dX8_mayOf_32 : decode cX8_mayOf 32 = .ok (.aload_n 0, 1) := by decide +kernel
theorem dX8_mayOf_33 : decode cX8_mayOf 33 = .ok (.getfield 16, 3) := by decide +kernel
theorem dX8_mayOf_36 : decode cX8_mayOf 36 = .ok (.iconst 4, 1) := by decide +kernel
theorem dX8_mayOf_37 : decode cX8_mayOf 37 = .ok (.iload_n 2, 1) := by decide +kernel
theorem dX8_mayOf_38 : decode cX8_mayOf 38 = .ok (.imul, 1) := by decide +kernel
theorem dX8_mayOf_39 : decode cX8_mayOf 39 = .ok (.iaload, 1) := by decide +kernel
theorem dX8_mayOf_40 : decode cX8_mayOf 40 = .ok (.aload_n 1, 1) := by decide +kernel
theorem dX8_mayOf_41 : decode cX8_mayOf 41 = .ok (.iload_n 2, 1) := by decide +kernel
theorem dX8_mayOf_42 : decode cX8_mayOf 42 = .ok (.iaload, 1) := by decide +kernel
theorem dX8_mayOf_43 : decode cX8_mayOf 43 = .ok (.iload 4, 2) := by decide +kernel
theorem dX8_mayOf_45 : decode cX8_mayOf 45 = .ok (.invokevirtual 206, 3) := by decide +kernel
theorem dX8_mayOf_48 : decode cX8_mayOf 48 = .ok (.iload 4, 2) := by decide +kernel
theorem dX8_mayOf_50 : decode cX8_mayOf 50 = .ok (.iconst (-1), 1) := by decide +kernel
theorem dX8_mayOf_51 : decode cX8_mayOf 51 = .ok (.ixor, 1) := by decide +kernel
theorem dX8_mayOf_52 : decode cX8_mayOf 52 = .ok (.iand, 1) := by decide +kernel
theorem dX8_mayOf_53 : decode cX8_mayOf 53 = .ok (.istore 5, 2) := by decide +kernel
theorem dX8_mayOf_55 : decode cX8_mayOf 55 = .ok (.aload_n 0, 1) := by decide +kernel
theorem dX8_mayOf_56 : decode cX8_mayOf 56 = .ok (.getfield 176, 3) := by decide +kernel
theorem dX8_mayOf_59 : decode cX8_mayOf 59 = .ok (.iconst 2, 1) := by decide +kernel
theorem dX8_mayOf_60 : decode cX8_mayOf 60 = .ok (.if_icmp .eq 6, 3) := by decide +kernel
theorem dX8_mayOf_63 : decode cX8_mayOf 63 = .ok (.iload 5, 2) := by decide +kernel
theorem dX8_mayOf_65 : decode cX8_mayOf 65 = .ok (.ireturn, 1) := by decide +kernel
theorem dX8_mayOf_66 : decode cX8_mayOf 66 = .ok (.aload_n 1, 1) := by decide +kernel
theorem dX8_mayOf_67 : decode cX8_mayOf 67 = .ok (.iload_n 2, 1) := by decide +kernel
theorem dX8_mayOf_68 : decode cX8_mayOf 68 = .ok (.iaload, 1) := by decide +kernel
theorem dX8_mayOf_69 : decode cX8_mayOf 69 = .ok (.istore 6, 2) := by decide +kernel
theorem dX8_mayOf_71 : decode cX8_mayOf 71 = .ok (.iconst 0, 1) := by decide +kernel
theorem dX8_mayOf_72 : decode cX8_mayOf 72 = .ok (.istore 7, 2) := by decide +kernel
theorem dX8_mayOf_74 : decode cX8_mayOf 74 = .ok (.iconst 0, 1) := by decide +kernel
theorem dX8_mayOf_75 : decode cX8_mayOf 75 = .ok (.istore 8, 2) := by decide +kernel
theorem dX8_mayOf_77 : decode cX8_mayOf 77 = .ok (.iload 8, 2) := by decide +kernel
theorem dX8_mayOf_79 : decode cX8_mayOf 79 = .ok (.aload_n 0, 1) := by decide +kernel
theorem dX8_mayOf_80 : decode cX8_mayOf 80 = .ok (.getfield 7, 3) := by decide +kernel
theorem dX8_mayOf_83 : decode cX8_mayOf 83 = .ok (.aload_n 0, 1) := by decide +kernel
theorem dX8_mayOf_84 : decode cX8_mayOf 84 = .ok (.getfield 13, 3) := by decide +kernel
theorem dX8_mayOf_87 : decode cX8_mayOf 87 = .ok (.imul, 1) := by decide +kernel
theorem dX8_mayOf_88 : decode cX8_mayOf 88 = .ok (.if_icmp .ge 45, 3) := by decide +kernel
theorem dX8_mayOf_91 : decode cX8_mayOf 91 = .ok (.iload 5, 2) := by decide +kernel
theorem dX8_mayOf_93 : decode cX8_mayOf 93 = .ok (.iload 8, 2) := by decide +kernel
theorem dX8_mayOf_95 : decode cX8_mayOf 95 = .ok (.invokestatic 126, 3) := by decide +kernel
theorem dX8_mayOf_98 : decode cX8_mayOf 98 = .ok (.ifCond .eq 29, 3) := by decide +kernel
theorem dX8_mayOf_101 : decode cX8_mayOf 101 = .ok (.aload_n 1, 1) := by decide +kernel
theorem dX8_mayOf_102 : decode cX8_mayOf 102 = .ok (.iload_n 2, 1) := by decide +kernel
theorem dX8_mayOf_103 : decode cX8_mayOf 103 = .ok (.iload 8, 2) := by decide +kernel
theorem dX8_mayOf_105 : decode cX8_mayOf 105 = .ok (.iastore, 1) := by decide +kernel
theorem dX8_mayOf_106 : decode cX8_mayOf 106 = .ok (.iload 7, 2) := by decide +kernel
theorem dX8_mayOf_108 : decode cX8_mayOf 108 = .ok (.aload_n 0, 1) := by decide +kernel
theorem dX8_mayOf_109 : decode cX8_mayOf 109 = .ok (.aload_n 1, 1) := by decide +kernel
theorem dX8_mayOf_110 : decode cX8_mayOf 110 = .ok (.invokevirtual 210, 3) := by decide +kernel
theorem dX8_mayOf_113 : decode cX8_mayOf 113 = .ok (.ifCond .ne 10, 3) := by decide +kernel
theorem dX8_mayOf_116 : decode cX8_mayOf 116 = .ok (.iconst 1, 1) := by decide +kernel
theorem dX8_mayOf_117 : decode cX8_mayOf 117 = .ok (.iload 8, 2) := by decide +kernel
theorem dX8_mayOf_119 : decode cX8_mayOf 119 = .ok (.ishl, 1) := by decide +kernel
theorem dX8_mayOf_120 : decode cX8_mayOf 120 = .ok (.goto 4, 3) := by decide +kernel
theorem dX8_mayOf_123 : decode cX8_mayOf 123 = .ok (.iconst 0, 1) := by decide +kernel
theorem dX8_mayOf_124 : decode cX8_mayOf 124 = .ok (.ior, 1) := by decide +kernel
theorem dX8_mayOf_125 : decode cX8_mayOf 125 = .ok (.istore 7, 2) := by decide +kernel
theorem dX8_mayOf_127 : decode cX8_mayOf 127 = .ok (.iinc 8 1, 3) := by decide +kernel
theorem dX8_mayOf_130 : decode cX8_mayOf 130 = .ok (.goto (-53), 3) := by decide +kernel
theorem dX8_mayOf_133 : decode cX8_mayOf 133 = .ok (.aload_n 1, 1) := by decide +kernel
theorem dX8_mayOf_134 : decode cX8_mayOf 134 = .ok (.iload_n 2, 1) := by decide +kernel
theorem dX8_mayOf_135 : decode cX8_mayOf 135 = .ok (.iload 6, 2) := by decide +kernel
theorem dX8_mayOf_137 : decode cX8_mayOf 137 = .ok (.iastore, 1) := by decide +kernel
theorem dX8_mayOf_138 : decode cX8_mayOf 138 = .ok (.iload 7, 2) := by decide +kernel
theorem dX8_mayOf_140 : decode cX8_mayOf 140 = .ok (.ireturn, 1) := by decide +kernel
set_option maxRecDepth 20000 in
theorem ggX8_as_X8_isMan : GoodIn wsX8_as wsX8_isMan := goodIn_r _ [7, 8, 9, 10, 6, 11, 34, 35, 36, 37, 38, 39, 40, 41, 42, 43, 44, 45, 46, 47, 48, 49, 50, 51, 52, 53, 54, 55, 56, 57, 58, 59, 60, 61, 62, 63, 64, 65, 66, 67] (by decide +kernel) (by decide +kernel)
set_option maxRecDepth 20000 in
theorem gX8_as_X8_isMan : GoodIn wsX8_as (wsV RX8 192 RX8 yX8_isMan wsX8_isMan) := goodIn_app (goodIn_of _ (by decide +kernel)) ggX8_as_X8_isMan
set_option maxRecDepth 20000 in
theorem ggX8_as_X8_in : GoodIn wsX8_as wsX8_in := goodIn_r _ [11] (by decide +kernel) (by decide +kernel)
set_option maxRecDepth 20000 in
theorem gX8_as_X8_in : GoodIn wsX8_as (va_wsS RX8 64 yX8_in wsX8_in) := goodIn_app (goodIn_of _ (by decide +kernel)) ggX8_as_X8_in
set_option maxRecDepth 20000 in
theorem ggX8_as_X8_takenBy : GoodIn wsX8_as wsX8_takenBy := goodIn_r _ [15, 8, 34, 35, 36, 37, 38, 39, 40, 41, 42, 43, 44, 45, 46, 47, 48, 49, 50, 51, 52, 53, 54, 55, 56, 57, 58, 59, 60, 61, 62, 63, 64, 65, 66, 67] (by decide +kernel) (by decide +kernel)
set_option maxRecDepth 20000 in
theorem gX8_as_X8_takenBy : GoodIn wsX8_as (wsV RX8 202 RX8 yX8_takenBy wsX8_takenBy) := goodIn_app (goodIn_of _ (by decide +kernel)) ggX8_as_X8_takenBy
set_option maxRecDepth 20000 in
theorem ggX8_as_X8_reachOf : GoodIn wsX8_as wsX8_reachOf := goodIn_r _ [19, 20, 21, 22, 23, 6, 24, 25, 26, 9, 10, 11, 27, 28, 29, 30, 31, 32, 33, 34, 35, 36, 37, 38, 39, 40, 41, 42, 43, 44, 45, 46, 47, 48, 49, 50, 51, 52, 53, 54, 55, 56, 57, 58, 59, 60, 61, 62, 63, 64, 65, 66, 67] (by decide +kernel) (by decide +kernel)
set_option maxRecDepth 20000 in
theorem gX8_as_X8_reachOf : GoodIn wsX8_as (wsV RX8 206 RX8 yX8_reachOf wsX8_reachOf) := goodIn_app (goodIn_of _ (by decide +kernel)) ggX8_as_X8_reachOf
theorem dX8_as_0 : decode cX8_as 0 = .ok (.aload_n 0, 1) := by decide +kernel
theorem dX8_as_1 : decode cX8_as 1 = .ok (.iload_n 1, 1) := by decide +kernel
theorem dX8_as_2 : decode cX8_as 2 = .ok (.invokevirtual 192, 3) := by decide +kernel
theorem dX8_as_5 : decode cX8_as 5 = .ok (.ifCond .ne 6, 3) := by decide +kernel
theorem dX8_as_8 : decode cX8_as 8 = .ok (.bipush (-2), 2) := by decide +kernel
theorem dX8_as_10 : decode cX8_as 10 = .ok (.ireturn, 1) := by decide +kernel
theorem dX8_as_11 : decode cX8_as 11 = .ok (.iload_n 2, 1) := by decide +kernel
theorem dX8_as_12 : decode cX8_as 12 = .ok (.iconst 0, 1) := by decide +kernel
theorem dX8_as_13 : decode cX8_as 13 = .ok (.bipush 6, 2) := by decide +kernel
theorem dX8_as_15 : decode cX8_as 15 = .ok (.invokestatic 64, 3) := by decide +kernel
theorem dX8_as_18 : decode cX8_as 18 = .ok (.ifCond .ne 6, 3) := by decide +kernel
theorem dX8_as_21 : decode cX8_as 21 = .ok (.bipush (-3), 2) := by decide +kernel
theorem dX8_as_23 : decode cX8_as 23 = .ok (.ireturn, 1) := by decide +kernel
theorem dX8_as_24 : decode cX8_as 24 = .ok (.aload_n 0, 1) := by decide +kernel
theorem dX8_as_25 : decode cX8_as 25 = .ok (.getfield 16, 3) := by decide +kernel
theorem dX8_as_28 : decode cX8_as 28 = .ok (.iconst 4, 1) := by decide +kernel
theorem dX8_as_29 : decode cX8_as 29 = .ok (.iload_n 1, 1) := by decide +kernel
theorem dX8_as_30 : decode cX8_as 30 = .ok (.imul, 1) := by decide +kernel
theorem dX8_as_31 : decode cX8_as 31 = .ok (.iaload, 1) := by decide +kernel
theorem dX8_as_32 : decode cX8_as 32 = .ok (.istore_n 3, 1) := by decide +kernel
theorem dX8_as_33 : decode cX8_as 33 = .ok (.iload_n 2, 1) := by decide +kernel
theorem dX8_as_34 : decode cX8_as 34 = .ok (.ifCond .eq 51, 3) := by decide +kernel
theorem dX8_as_37 : decode cX8_as 37 = .ok (.iload_n 2, 1) := by decide +kernel
theorem dX8_as_38 : decode cX8_as 38 = .ok (.iconst 1, 1) := by decide +kernel
theorem dX8_as_39 : decode cX8_as 39 = .ok (.if_icmp .ne 11, 3) := by decide +kernel
theorem dX8_as_42 : decode cX8_as 42 = .ok (.iload_n 3, 1) := by decide +kernel
theorem dX8_as_43 : decode cX8_as 43 = .ok (.iconst 2, 1) := by decide +kernel
theorem dX8_as_44 : decode cX8_as 44 = .ok (.if_icmp .ge 45, 3) := by decide +kernel
theorem dX8_as_47 : decode cX8_as 47 = .ok (.goto 38, 3) := by decide +kernel
theorem dX8_as_50 : decode cX8_as 50 = .ok (.iload_n 2, 1) := by decide +kernel
theorem dX8_as_51 : decode cX8_as 51 = .ok (.iconst 4, 1) := by decide +kernel
theorem dX8_as_52 : decode cX8_as 52 = .ok (.if_icmp .ne 11, 3) := by decide +kernel
theorem dX8_as_55 : decode cX8_as 55 = .ok (.iload_n 3, 1) := by decide +kernel
theorem dX8_as_56 : decode cX8_as 56 = .ok (.iconst 1, 1) := by decide +kernel
theorem dX8_as_57 : decode cX8_as 57 = .ok (.if_icmp .le 32, 3) := by decide +kernel
theorem dX8_as_60 : decode cX8_as 60 = .ok (.goto 25, 3) := by decide +kernel
theorem dX8_as_63 : decode cX8_as 63 = .ok (.iload_n 2, 1) := by decide +kernel
theorem dX8_as_64 : decode cX8_as 64 = .ok (.iconst 4, 1) := by decide +kernel
theorem dX8_as_65 : decode cX8_as 65 = .ok (.if_icmp .ge 13, 3) := by decide +kernel
theorem dX8_as_68 : decode cX8_as 68 = .ok (.iload_n 3, 1) := by decide +kernel
theorem dX8_as_69 : decode cX8_as 69 = .ok (.iload_n 2, 1) := by decide +kernel
theorem dX8_as_70 : decode cX8_as 70 = .ok (.iconst 2, 1) := by decide +kernel
theorem dX8_as_71 : decode cX8_as 71 = .ok (.isub, 1) := by decide +kernel
theorem dX8_as_72 : decode cX8_as 72 = .ok (.if_icmp .ne 17, 3) := by decide +kernel
theorem dX8_as_75 : decode cX8_as 75 = .ok (.goto 10, 3) := by decide +kernel
theorem dX8_as_78 : decode cX8_as 78 = .ok (.iload_n 3, 1) := by decide +kernel
theorem dX8_as_79 : decode cX8_as 79 = .ok (.iload_n 2, 1) := by decide +kernel
theorem dX8_as_80 : decode cX8_as 80 = .ok (.iconst 3, 1) := by decide +kernel
theorem dX8_as_81 : decode cX8_as 81 = .ok (.isub, 1) := by decide +kernel
theorem dX8_as_82 : decode cX8_as 82 = .ok (.if_icmp .ne 7, 3) := by decide +kernel
theorem dX8_as_85 : decode cX8_as 85 = .ok (.iconst 1, 1) := by decide +kernel
theorem dX8_as_86 : decode cX8_as 86 = .ok (.goto 4, 3) := by decide +kernel
theorem dX8_as_89 : decode cX8_as 89 = .ok (.iconst 0, 1) := by decide +kernel
theorem dX8_as_90 : decode cX8_as 90 = .ok (.istore 4, 2) := by decide +kernel
theorem dX8_as_92 : decode cX8_as 92 = .ok (.iload 4, 2) := by decide +kernel
theorem dX8_as_94 : decode cX8_as 94 = .ok (.ifCond .eq 25, 3) := by decide +kernel
theorem dX8_as_97 : decode cX8_as 97 = .ok (.aload_n 0, 1) := by decide +kernel
theorem dX8_as_98 : decode cX8_as 98 = .ok (.iload_n 3, 1) := by decide +kernel
theorem dX8_as_99 : decode cX8_as 99 = .ok (.aload_n 0, 1) := by decide +kernel
theorem dX8_as_100 : decode cX8_as 100 = .ok (.getfield 32, 3) := by decide +kernel
theorem dX8_as_103 : decode cX8_as 103 = .ok (.iload_n 1, 1) := by decide +kernel
theorem dX8_as_104 : decode cX8_as 104 = .ok (.iaload, 1) := by decide +kernel
theorem dX8_as_105 : decode cX8_as 105 = .ok (.aload_n 0, 1) := by decide +kernel
theorem dX8_as_106 : decode cX8_as 106 = .ok (.aload_n 0, 1) := by decide +kernel
theorem dX8_as_107 : decode cX8_as 107 = .ok (.getfield 32, 3) := by decide +kernel
theorem dX8_as_110 : decode cX8_as 110 = .ok (.invokevirtual 202, 3) := by decide +kernel
theorem dX8_as_113 : decode cX8_as 113 = .ok (.invokevirtual 206, 3) := by decide +kernel
theorem dX8_as_116 : decode cX8_as 116 = .ok (.goto 5, 3) := by decide +kernel
theorem dX8_as_119 : decode cX8_as 119 = .ok (.bipush (-4), 2) := by decide +kernel
theorem dX8_as_121 : decode cX8_as 121 = .ok (.ireturn, 1) := by decide +kernel
set_option maxRecDepth 20000 in
theorem ggX8_may_X8_isMan : GoodIn wsX8_may wsX8_isMan := goodIn_r _ [7, 8, 9, 10, 6, 11, 44, 45, 46, 47, 48, 49, 50, 51, 52, 53, 54, 55, 56, 57, 58, 59, 60, 61, 62, 63, 64, 65, 66, 67, 68, 69, 70, 71, 72, 73, 74, 75, 76, 77] (by decide +kernel) (by decide +kernel)
set_option maxRecDepth 20000 in
theorem gX8_may_X8_isMan : GoodIn wsX8_may (wsV RX8 192 RX8 yX8_isMan wsX8_isMan) := goodIn_app (goodIn_of _ (by decide +kernel)) ggX8_may_X8_isMan
set_option maxRecDepth 20000 in
theorem ggX8_may_X8_mayOf : GoodIn wsX8_may wsX8_mayOf := goodIn_r _ [15, 16, 17, 18, 19, 20, 21, 22, 6, 23, 8, 24, 25, 26, 27, 28, 29, 30, 31, 32, 9, 10, 11, 33, 34, 35, 36, 37, 38, 39, 40, 41, 42, 43, 44, 45, 46, 47, 48, 49, 50, 51, 52, 53, 54, 55, 56, 57, 58, 59, 60, 61, 62, 63, 64, 65, 66, 67, 68, 69, 70, 71, 72, 73, 74, 75, 76, 77] (by decide +kernel) (by decide +kernel)
set_option maxRecDepth 20000 in
theorem gX8_may_X8_mayOf : GoodIn wsX8_may (wsV RX8 213 RX8 yX8_mayOf wsX8_mayOf) := goodIn_app (goodIn_of _ (by decide +kernel)) ggX8_may_X8_mayOf
theorem dX8_may_0 : decode cX8_may 0 = .ok (.aload_n 0, 1) := by decide +kernel
theorem dX8_may_1 : decode cX8_may 1 = .ok (.iload_n 1, 1) := by decide +kernel
theorem dX8_may_2 : decode cX8_may 2 = .ok (.invokevirtual 192, 3) := by decide +kernel
theorem dX8_may_5 : decode cX8_may 5 = .ok (.ifCond .eq 21, 3) := by decide +kernel
theorem dX8_may_8 : decode cX8_may 8 = .ok (.aload_n 0, 1) := by decide +kernel
theorem dX8_may_9 : decode cX8_may 9 = .ok (.aload_n 0, 1) := by decide +kernel
theorem dX8_may_10 : decode cX8_may 10 = .ok (.getfield 32, 3) := by decide +kernel
theorem dX8_may_13 : decode cX8_may 13 = .ok (.iload_n 1, 1) := by decide +kernel
theorem dX8_may_14 : decode cX8_may 14 = .ok (.aload_n 0, 1) := by decide +kernel
theorem dX8_may_15 : decode cX8_may 15 = .ok (.getfield 183, 3) := by decide +kernel
theorem dX8_may_18 : decode cX8_may 18 = .ok (.iconst 2, 1) := by decide +kernel
theorem dX8_may_19 : decode cX8_may 19 = .ok (.irem, 1) := by decide +kernel
theorem dX8_may_20 : decode cX8_may 20 = .ok (.invokevirtual 213, 3) := by decide +kernel
theorem dX8_may_23 : decode cX8_may 23 = .ok (.goto 5, 3) := by decide +kernel
theorem dX8_may_26 : decode cX8_may 26 = .ok (.bipush (-2), 2) := by decide +kernel
theorem dX8_may_28 : decode cX8_may 28 = .ok (.ireturn, 1) := by decide +kernel
set_option maxRecDepth 20000 in
theorem ggX8_hop_X8_isMan : GoodIn wsX8_hop wsX8_isMan := goodIn_r _ [7, 8, 9, 10, 6, 11, 48, 49, 50, 51, 52, 53, 54, 55, 56, 57, 58, 59, 60, 61, 62, 63, 64, 65, 66, 67, 68, 69, 70, 71, 72, 73, 74, 75, 76, 77, 78, 79, 80, 81] (by decide +kernel) (by decide +kernel)
set_option maxRecDepth 20000 in
theorem gX8_hop_X8_isMan : GoodIn wsX8_hop (wsV RX8 192 RX8 yX8_isMan wsX8_isMan) := goodIn_app (goodIn_of _ (by decide +kernel)) ggX8_hop_X8_isMan
set_option maxRecDepth 20000 in
theorem ggX8_hop_X8_isSquare : GoodIn wsX8_hop wsX8_isSquare := goodIn_r _ [15, 16, 17, 9, 10, 6, 11, 48, 49, 50, 51, 52, 53, 54, 55, 56, 57, 58, 59, 60, 61, 62, 63, 64, 65, 66, 67, 68, 69, 70, 71, 72, 73, 74, 75, 76, 77, 78, 79, 80, 81] (by decide +kernel) (by decide +kernel)
set_option maxRecDepth 20000 in
theorem gX8_hop_X8_isSquare : GoodIn wsX8_hop (wsV RX8 189 RX8 yX8_isSquare wsX8_isSquare) := goodIn_app (goodIn_of _ (by decide +kernel)) ggX8_hop_X8_isSquare
set_option maxRecDepth 20000 in
theorem ggX8_hop_X8_mayOf : GoodIn wsX8_hop wsX8_mayOf := goodIn_r _ [21, 22, 23, 16, 17, 24, 25, 26, 6, 27, 8, 28, 29, 30, 31, 32, 33, 34, 35, 36, 9, 10, 11, 37, 38, 39, 40, 41, 42, 43, 44, 45, 46, 47, 48, 49, 50, 51, 52, 53, 54, 55, 56, 57, 58, 59, 60, 61, 62, 63, 64, 65, 66, 67, 68, 69, 70, 71, 72, 73, 74, 75, 76, 77, 78, 79, 80, 81] (by decide +kernel) (by decide +kernel)
set_option maxRecDepth 20000 in
theorem gX8_hop_X8_mayOf : GoodIn wsX8_hop (wsV RX8 213 RX8 yX8_mayOf wsX8_mayOf) := goodIn_app (goodIn_of _ (by decide +kernel)) ggX8_hop_X8_mayOf
set_option maxRecDepth 20000 in
theorem ggX8_hop_X8_has : GoodIn wsX8_hop wsX8_has := goodIn_r _ [39] (by decide +kernel) (by decide +kernel)
set_option maxRecDepth 20000 in
theorem gX8_hop_X8_has : GoodIn wsX8_hop (va_wsS RX8 126 yX8_has wsX8_has) := goodIn_app (goodIn_of _ (by decide +kernel)) ggX8_hop_X8_has
theorem dX8_hop_0 : decode cX8_hop 0 = .ok (.aload_n 0, 1) := by decide +kernel
theorem dX8_hop_1 : decode cX8_hop 1 = .ok (.iload_n 1, 1) := by decide +kernel
theorem dX8_hop_2 : decode cX8_hop 2 = .ok (.invokevirtual 192, 3) := by decide +kernel
theorem dX8_hop_5 : decode cX8_hop 5 = .ok (.ifCond .eq 11, 3) := by decide +kernel
theorem dX8_hop_8 : decode cX8_hop 8 = .ok (.aload_n 0, 1) := by decide +kernel
theorem dX8_hop_9 : decode cX8_hop 9 = .ok (.iload_n 2, 1) := by decide +kernel
theorem dX8_hop_10 : decode cX8_hop 10 = .ok (.invokevirtual 189, 3) := by decide +kernel
theorem dX8_hop_13 : decode cX8_hop 13 = .ok (.ifCond .ne 6, 3) := by decide +kernel
theorem dX8_hop_16 : decode cX8_hop 16 = .ok (.bipush (-2), 2) := by decide +kernel
theorem dX8_hop_18 : decode cX8_hop 18 = .ok (.ireturn, 1) := by decide +kernel
theorem dX8_hop_19 : decode cX8_hop 19 = .ok (.aload_n 0, 1) := by decide +kernel
theorem dX8_hop_20 : decode cX8_hop 20 = .ok (.aload_n 0, 1) := by decide +kernel
theorem dX8_hop_21 : decode cX8_hop 21 = .ok (.getfield 32, 3) := by decide +kernel
theorem dX8_hop_24 : decode cX8_hop 24 = .ok (.iload_n 1, 1) := by decide +kernel
theorem dX8_hop_25 : decode cX8_hop 25 = .ok (.aload_n 0, 1) := by decide +kernel
theorem dX8_hop_26 : decode cX8_hop 26 = .ok (.getfield 183, 3) := by decide +kernel
theorem dX8_hop_29 : decode cX8_hop 29 = .ok (.iconst 2, 1) := by decide +kernel
theorem dX8_hop_30 : decode cX8_hop 30 = .ok (.irem, 1) := by decide +kernel
theorem dX8_hop_31 : decode cX8_hop 31 = .ok (.invokevirtual 213, 3) := by decide +kernel
theorem dX8_hop_34 : decode cX8_hop 34 = .ok (.iload_n 2, 1) := by decide +kernel
theorem dX8_hop_35 : decode cX8_hop 35 = .ok (.invokestatic 126, 3) := by decide +kernel
theorem dX8_hop_38 : decode cX8_hop 38 = .ok (.ifCond .ne 6, 3) := by decide +kernel
theorem dX8_hop_41 : decode cX8_hop 41 = .ok (.bipush (-4), 2) := by decide +kernel
theorem dX8_hop_43 : decode cX8_hop 43 = .ok (.ireturn, 1) := by decide +kernel
theorem dX8_hop_44 : decode cX8_hop 44 = .ok (.aload_n 0, 1) := by decide +kernel
theorem dX8_hop_45 : decode cX8_hop 45 = .ok (.getfield 183, 3) := by decide +kernel
theorem dX8_hop_48 : decode cX8_hop 48 = .ok (.sipush 9999, 3) := by decide +kernel
theorem dX8_hop_51 : decode cX8_hop 51 = .ok (.if_icmp .ne 6, 3) := by decide +kernel
theorem dX8_hop_54 : decode cX8_hop 54 = .ok (.bipush (-5), 2) := by decide +kernel
theorem dX8_hop_56 : decode cX8_hop 56 = .ok (.ireturn, 1) := by decide +kernel
theorem dX8_hop_57 : decode cX8_hop 57 = .ok (.aload_n 0, 1) := by decide +kernel
theorem dX8_hop_58 : decode cX8_hop 58 = .ok (.getfield 32, 3) := by decide +kernel
theorem dX8_hop_61 : decode cX8_hop 61 = .ok (.iload_n 1, 1) := by decide +kernel
theorem dX8_hop_62 : decode cX8_hop 62 = .ok (.iload_n 2, 1) := by decide +kernel
theorem dX8_hop_63 : decode cX8_hop 63 = .ok (.iastore, 1) := by decide +kernel
theorem dX8_hop_64 : decode cX8_hop 64 = .ok (.aload_n 0, 1) := by decide +kernel
theorem dX8_hop_65 : decode cX8_hop 65 = .ok (.dup, 1) := by decide +kernel
theorem dX8_hop_66 : decode cX8_hop 66 = .ok (.getfield 183, 3) := by decide +kernel
theorem dX8_hop_69 : decode cX8_hop 69 = .ok (.iconst 1, 1) := by decide +kernel
theorem dX8_hop_70 : decode cX8_hop 70 = .ok (.iadd, 1) := by decide +kernel
theorem dX8_hop_71 : decode cX8_hop 71 = .ok (.putfield 183, 3) := by decide +kernel
theorem dX8_hop_74 : decode cX8_hop 74 = .ok (.aload_n 0, 1) := by decide +kernel
theorem dX8_hop_75 : decode cX8_hop 75 = .ok (.getfield 183, 3) := by decide +kernel
theorem dX8_hop_78 : decode cX8_hop 78 = .ok (.ireturn, 1) := by decide +kernel
set_option maxRecDepth 20000 in
theorem ggX8_attacked_X8_attackedBy : GoodIn wsX8_attacked wsX8_attackedBy := goodIn_r _ [6, 7, 8, 9, 10, 11, 5, 12, 13, 14, 15, 16, 17, 18, 19, 20, 21, 22, 23, 24, 25, 26, 27, 28, 29, 30, 31, 32, 33, 34, 35, 36, 37, 38, 39, 40, 41, 42, 43, 44, 45, 46, 47, 48, 49, 50, 51, 52, 53, 54, 55, 56, 57, 58, 59, 60, 61, 62, 63, 64, 65, 66, 67] (by decide +kernel) (by decide +kernel)
set_option maxRecDepth 20000 in
theorem gX8_attacked_X8_attackedBy : GoodIn wsX8_attacked (wsV RX8 210 RX8 yX8_attackedBy wsX8_attackedBy) := goodIn_app (goodIn_of _ (by decide +kernel)) ggX8_attacked_X8_attackedBy
theorem dX8_attacked_0 : decode cX8_attacked 0 = .ok (.aload_n 0, 1) := by decide +kernel
theorem dX8_attacked_1 : decode cX8_attacked 1 = .ok (.aload_n 0, 1) := by decide +kernel
theorem dX8_attacked_2 : decode cX8_attacked 2 = .ok (.getfield 32, 3) := by decide +kernel
theorem dX8_attacked_5 : decode cX8_attacked 5 = .ok (.invokevirtual 210, 3) := by decide +kernel
theorem dX8_attacked_8 : decode cX8_attacked 8 = .ok (.ireturn, 1) := by decide +kernel
set_option maxRecDepth 20000 in
theorem ggX8_keep_X8_in : GoodIn wsX8_keep wsX8_in := goodIn_r _ [8] (by decide +kernel) (by decide +kernel)
set_option maxRecDepth 20000 in
theorem gX8_keep_X8_in : GoodIn wsX8_keep (va_wsS RX8 64 yX8_in wsX8_in) := goodIn_app (goodIn_of _ (by decide +kernel)) ggX8_keep_X8_in
theorem dX8_keep_0 : decode cX8_keep 0 = .ok (.iload_n 1, 1) := by decide +kernel
theorem dX8_keep_1 : decode cX8_keep 1 = .ok (.iconst 0, 1) := by decide +kernel
theorem dX8_keep_2 : decode cX8_keep 2 = .ok (.iconst 1, 1) := by decide +kernel
theorem dX8_keep_3 : decode cX8_keep 3 = .ok (.invokestatic 64, 3) := by decide +kernel
theorem dX8_keep_6 : decode cX8_keep 6 = .ok (.ifCond .ne 6, 3) := by decide +kernel
theorem dX8_keep_9 : decode cX8_keep 9 = .ok (.bipush (-2), 2) := by decide +kernel
theorem dX8_keep_11 : decode cX8_keep 11 = .ok (.ireturn, 1) := by decide +kernel
theorem dX8_keep_12 : decode cX8_keep 12 = .ok (.iconst 0, 1) := by decide +kernel
theorem dX8_keep_13 : decode cX8_keep 13 = .ok (.istore_n 2, 1) := by decide +kernel
theorem dX8_keep_14 : decode cX8_keep 14 = .ok (.iload_n 2, 1) := by decide +kernel
theorem dX8_keep_15 : decode cX8_keep 15 = .ok (.iconst 4, 1) := by decide +kernel
theorem dX8_keep_16 : decode cX8_keep 16 = .ok (.if_icmp .ge 25, 3) := by decide +kernel
theorem dX8_keep_19 : decode cX8_keep 19 = .ok (.aload_n 0, 1) := by decide +kernel
theorem dX8_keep_20 : decode cX8_keep 20 = .ok (.getfield 35, 3) := by decide +kernel
theorem dX8_keep_23 : decode cX8_keep 23 = .ok (.iconst 5, 1) := by decide +kernel
theorem dX8_keep_24 : decode cX8_keep 24 = .ok (.iload_n 1, 1) := by decide +kernel
theorem dX8_keep_25 : decode cX8_keep 25 = .ok (.imul, 1) := by decide +kernel
theorem dX8_keep_26 : decode cX8_keep 26 = .ok (.iload_n 2, 1) := by decide +kernel
theorem dX8_keep_27 : decode cX8_keep 27 = .ok (.iadd, 1) := by decide +kernel
theorem dX8_keep_28 : decode cX8_keep 28 = .ok (.aload_n 0, 1) := by decide +kernel
theorem dX8_keep_29 : decode cX8_keep 29 = .ok (.getfield 32, 3) := by decide +kernel
theorem dX8_keep_32 : decode cX8_keep 32 = .ok (.iload_n 2, 1) := by decide +kernel
theorem dX8_keep_33 : decode cX8_keep 33 = .ok (.iaload, 1) := by decide +kernel
theorem dX8_keep_34 : decode cX8_keep 34 = .ok (.iastore, 1) := by decide +kernel
theorem dX8_keep_35 : decode cX8_keep 35 = .ok (.iinc 2 1, 3) := by decide +kernel
theorem dX8_keep_38 : decode cX8_keep 38 = .ok (.goto (-24), 3) := by decide +kernel
theorem dX8_keep_41 : decode cX8_keep 41 = .ok (.aload_n 0, 1) := by decide +kernel
theorem dX8_keep_42 : decode cX8_keep 42 = .ok (.getfield 35, 3) := by decide +kernel
theorem dX8_keep_45 : decode cX8_keep 45 = .ok (.iconst 5, 1) := by decide +kernel
theorem dX8_keep_46 : decode cX8_keep 46 = .ok (.iload_n 1, 1) := by decide +kernel
theorem dX8_keep_47 : decode cX8_keep 47 = .ok (.imul, 1) := by decide +kernel
theorem dX8_keep_48 : decode cX8_keep 48 = .ok (.iconst 4, 1) := by decide +kernel
theorem dX8_keep_49 : decode cX8_keep 49 = .ok (.iadd, 1) := by decide +kernel
theorem dX8_keep_50 : decode cX8_keep 50 = .ok (.aload_n 0, 1) := by decide +kernel
theorem dX8_keep_51 : decode cX8_keep 51 = .ok (.getfield 183, 3) := by decide +kernel
theorem dX8_keep_54 : decode cX8_keep 54 = .ok (.iastore, 1) := by decide +kernel
theorem dX8_keep_55 : decode cX8_keep 55 = .ok (.aload_n 0, 1) := by decide +kernel
theorem dX8_keep_56 : decode cX8_keep 56 = .ok (.getfield 38, 3) := by decide +kernel
theorem dX8_keep_59 : decode cX8_keep 59 = .ok (.iload_n 1, 1) := by decide +kernel
theorem dX8_keep_60 : decode cX8_keep 60 = .ok (.iconst 1, 1) := by decide +kernel
theorem dX8_keep_61 : decode cX8_keep 61 = .ok (.bastore, 1) := by decide +kernel
theorem dX8_keep_62 : decode cX8_keep 62 = .ok (.aload_n 0, 1) := by decide +kernel
theorem dX8_keep_63 : decode cX8_keep 63 = .ok (.getfield 183, 3) := by decide +kernel
theorem dX8_keep_66 : decode cX8_keep 66 = .ok (.ireturn, 1) := by decide +kernel
set_option maxRecDepth 20000 in
theorem ggX8_back_X8_in : GoodIn wsX8_back wsX8_in := goodIn_r _ [8] (by decide +kernel) (by decide +kernel)
set_option maxRecDepth 20000 in
theorem gX8_back_X8_in : GoodIn wsX8_back (va_wsS RX8 64 yX8_in wsX8_in) := goodIn_app (goodIn_of _ (by decide +kernel)) ggX8_back_X8_in
theorem dX8_back_0 : decode cX8_back 0 = .ok (.iload_n 1, 1) := by decide +kernel
theorem dX8_back_1 : decode cX8_back 1 = .ok (.iconst 0, 1) := by decide +kernel
theorem dX8_back_2 : decode cX8_back 2 = .ok (.iconst 1, 1) := by decide +kernel
theorem dX8_back_3 : decode cX8_back 3 = .ok (.invokestatic 64, 3) := by decide +kernel
theorem dX8_back_6 : decode cX8_back 6 = .ok (.ifCond .ne 6, 3) := by decide +kernel
theorem dX8_back_9 : decode cX8_back 9 = .ok (.bipush (-2), 2) := by decide +kernel
theorem dX8_back_11 : decode cX8_back 11 = .ok (.ireturn, 1) := by decide +kernel
theorem dX8_back_12 : decode cX8_back 12 = .ok (.aload_n 0, 1) := by decide +kernel
theorem dX8_back_13 : decode cX8_back 13 = .ok (.getfield 38, 3) := by decide +kernel
theorem dX8_back_16 : decode cX8_back 16 = .ok (.iload_n 1, 1) := by decide +kernel
theorem dX8_back_17 : decode cX8_back 17 = .ok (.baload, 1) := by decide +kernel
theorem dX8_back_18 : decode cX8_back 18 = .ok (.ifCond .ne 6, 3) := by decide +kernel
theorem dX8_back_21 : decode cX8_back 21 = .ok (.bipush (-4), 2) := by decide +kernel
theorem dX8_back_23 : decode cX8_back 23 = .ok (.ireturn, 1) := by decide +kernel
theorem dX8_back_24 : decode cX8_back 24 = .ok (.iconst 0, 1) := by decide +kernel
theorem dX8_back_25 : decode cX8_back 25 = .ok (.istore_n 2, 1) := by decide +kernel
theorem dX8_back_26 : decode cX8_back 26 = .ok (.iload_n 2, 1) := by decide +kernel
theorem dX8_back_27 : decode cX8_back 27 = .ok (.iconst 4, 1) := by decide +kernel
theorem dX8_back_28 : decode cX8_back 28 = .ok (.if_icmp .ge 25, 3) := by decide +kernel
theorem dX8_back_31 : decode cX8_back 31 = .ok (.aload_n 0, 1) := by decide +kernel
theorem dX8_back_32 : decode cX8_back 32 = .ok (.getfield 32, 3) := by decide +kernel
theorem dX8_back_35 : decode cX8_back 35 = .ok (.iload_n 2, 1) := by decide +kernel
theorem dX8_back_36 : decode cX8_back 36 = .ok (.aload_n 0, 1) := by decide +kernel
theorem dX8_back_37 : decode cX8_back 37 = .ok (.getfield 35, 3) := by decide +kernel
theorem dX8_back_40 : decode cX8_back 40 = .ok (.iconst 5, 1) := by decide +kernel
theorem dX8_back_41 : decode cX8_back 41 = .ok (.iload_n 1, 1) := by decide +kernel
theorem dX8_back_42 : decode cX8_back 42 = .ok (.imul, 1) := by decide +kernel
theorem dX8_back_43 : decode cX8_back 43 = .ok (.iload_n 2, 1) := by decide +kernel
theorem dX8_back_44 : decode cX8_back 44 = .ok (.iadd, 1) := by decide +kernel
theorem dX8_back_45 : decode cX8_back 45 = .ok (.iaload, 1) := by decide +kernel
theorem dX8_back_46 : decode cX8_back 46 = .ok (.iastore, 1) := by decide +kernel
theorem dX8_back_47 : decode cX8_back 47 = .ok (.iinc 2 1, 3) := by decide +kernel
theorem dX8_back_50 : decode cX8_back 50 = .ok (.goto (-24), 3) := by decide +kernel
theorem dX8_back_53 : decode cX8_back 53 = .ok (.aload_n 0, 1) := by decide +kernel
theorem dX8_back_54 : decode cX8_back 54 = .ok (.aload_n 0, 1) := by decide +kernel
theorem dX8_back_55 : decode cX8_back 55 = .ok (.getfield 35, 3) := by decide +kernel
theorem dX8_back_58 : decode cX8_back 58 = .ok (.iconst 5, 1) := by decide +kernel
theorem dX8_back_59 : decode cX8_back 59 = .ok (.iload_n 1, 1) := by decide +kernel
theorem dX8_back_60 : decode cX8_back 60 = .ok (.imul, 1) := by decide +kernel
theorem dX8_back_61 : decode cX8_back 61 = .ok (.iconst 4, 1) := by decide +kernel
theorem dX8_back_62 : decode cX8_back 62 = .ok (.iadd, 1) := by decide +kernel
theorem dX8_back_63 : decode cX8_back 63 = .ok (.iaload, 1) := by decide +kernel
theorem dX8_back_64 : decode cX8_back 64 = .ok (.putfield 183, 3) := by decide +kernel
theorem dX8_back_67 : decode cX8_back 67 = .ok (.aload_n 0, 1) := by decide +kernel
theorem dX8_back_68 : decode cX8_back 68 = .ok (.getfield 183, 3) := by decide +kernel
theorem dX8_back_71 : decode cX8_back 71 = .ok (.ireturn, 1) := by decide +kernel
set_option maxRecDepth 20000 in
theorem ggX8_joined_X8_has : GoodIn wsX8_joined wsX8_has := goodIn_r _ [5] (by decide +kernel) (by decide +kernel)
set_option maxRecDepth 20000 in
theorem gX8_joined_X8_has : GoodIn wsX8_joined (va_wsS RX8 126 yX8_has wsX8_has) := goodIn_app (goodIn_of _ (by decide +kernel)) ggX8_joined_X8_has
set_option maxRecDepth 20000 in
theorem ggX8_joined_X8_reachOf : GoodIn wsX8_joined wsX8_reachOf := goodIn_r _ [9, 10, 11, 12, 13, 4, 14, 15, 1, 16, 17, 18, 2, 3, 5, 19, 20, 21, 22, 23, 24, 25, 26, 27, 28, 29, 30, 31, 32, 33, 34, 35, 36, 37, 38, 39, 40, 41, 42, 43, 44, 45, 46, 47, 48, 49, 50, 51, 52, 53, 54, 55, 56] (by decide +kernel) (by decide +kernel)
set_option maxRecDepth 20000 in
theorem gX8_joined_X8_reachOf : GoodIn wsX8_joined (wsV RX8 206 RX8 yX8_reachOf wsX8_reachOf) := goodIn_app (goodIn_of _ (by decide +kernel)) ggX8_joined_X8_reachOf
theorem dX8_joined_0 : decode cX8_joined 0 = .ok (.aload_n 0, 1) := by decide +kernel
theorem dX8_joined_1 : decode cX8_joined 1 = .ok (.getfield 167, 3) := by decide +kernel
theorem dX8_joined_4 : decode cX8_joined 4 = .ok (.iload_n 2, 1) := by decide +kernel
theorem dX8_joined_5 : decode cX8_joined 5 = .ok (.invokestatic 126, 3) := by decide +kernel
theorem dX8_joined_8 : decode cX8_joined 8 = .ok (.ifCond .eq 7, 3) := by decide +kernel
theorem dX8_joined_11 : decode cX8_joined 11 = .ok (.iconst 0, 1) := by decide +kernel
theorem dX8_joined_12 : decode cX8_joined 12 = .ok (.goto 10, 3) := by decide +kernel
theorem dX8_joined_15 : decode cX8_joined 15 = .ok (.aload_n 0, 1) := by decide +kernel
theorem dX8_joined_16 : decode cX8_joined 16 = .ok (.iload_n 1, 1) := by decide +kernel
theorem dX8_joined_17 : decode cX8_joined 17 = .ok (.iload_n 2, 1) := by decide +kernel
theorem dX8_joined_18 : decode cX8_joined 18 = .ok (.iconst 0, 1) := by decide +kernel
theorem dX8_joined_19 : decode cX8_joined 19 = .ok (.invokevirtual 206, 3) := by decide +kernel
theorem dX8_joined_22 : decode cX8_joined 22 = .ok (.ireturn, 1) := by decide +kernel
set_option maxRecDepth 20000 in
theorem ggX8_net_X8_isSquare : GoodIn wsX8_net wsX8_isSquare := goodIn_r _ [5, 6, 7, 8, 9, 4, 10, 31, 32, 33, 34, 35, 36, 37, 38, 39, 40, 41, 42, 43, 44, 45, 46, 47, 48, 49, 50, 51, 52, 53, 54, 55, 56, 57, 58, 59, 60, 61, 62, 63, 64] (by decide +kernel) (by decide +kernel)
set_option maxRecDepth 20000 in
theorem gX8_net_X8_isSquare : GoodIn wsX8_net (wsV RX8 189 RX8 yX8_isSquare wsX8_isSquare) := goodIn_app (goodIn_of _ (by decide +kernel)) ggX8_net_X8_isSquare
set_option maxRecDepth 20000 in
theorem ggX8_net_X8_in : GoodIn wsX8_net wsX8_in := goodIn_r _ [10] (by decide +kernel) (by decide +kernel)
set_option maxRecDepth 20000 in
theorem gX8_net_X8_in : GoodIn wsX8_net (va_wsS RX8 64 yX8_in wsX8_in) := goodIn_app (goodIn_of _ (by decide +kernel)) ggX8_net_X8_in
set_option maxRecDepth 20000 in
theorem ggX8_net_X8_joined : GoodIn wsX8_net wsX8_joined := goodIn_r _ [14, 15, 16, 17, 4, 18, 19, 20, 21, 22, 6, 23, 24, 25, 26, 7, 8, 9, 10, 27, 28, 29, 30, 31, 32, 33, 34, 35, 36, 37, 38, 39, 40, 41, 42, 43, 44, 45, 46, 47, 48, 49, 50, 51, 52, 53, 54, 55, 56, 57, 58, 59, 60, 61, 62, 63, 64] (by decide +kernel) (by decide +kernel)
set_option maxRecDepth 20000 in
theorem gX8_net_X8_joined : GoodIn wsX8_net (wsV RX8 217 RX8 yX8_joined wsX8_joined) := goodIn_app (goodIn_of _ (by decide +kernel)) ggX8_net_X8_joined
theorem dX8_net_0 : decode cX8_net 0 = .ok (.aload_n 0, 1) := by decide +kernel
theorem dX8_net_1 : decode cX8_net 1 = .ok (.iload_n 2, 1) := by decide +kernel
theorem dX8_net_2 : decode cX8_net 2 = .ok (.invokevirtual 189, 3) := by decide +kernel
theorem dX8_net_5 : decode cX8_net 5 = .ok (.ifCond .ne 6, 3) := by decide +kernel
theorem dX8_net_8 : decode cX8_net 8 = .ok (.bipush (-2), 2) := by decide +kernel
theorem dX8_net_10 : decode cX8_net 10 = .ok (.ireturn, 1) := by decide +kernel
theorem dX8_net_11 : decode cX8_net 11 = .ok (.iload_n 1, 1) := by decide +kernel
theorem dX8_net_12 : decode cX8_net 12 = .ok (.iconst 0, 1) := by decide +kernel
theorem dX8_net_13 : decode cX8_net 13 = .ok (.iconst 3, 1) := by decide +kernel
theorem dX8_net_14 : decode cX8_net 14 = .ok (.invokestatic 64, 3) := by decide +kernel
theorem dX8_net_17 : decode cX8_net 17 = .ok (.ifCond .eq 12, 3) := by decide +kernel
theorem dX8_net_20 : decode cX8_net 20 = .ok (.aload_n 0, 1) := by decide +kernel
theorem dX8_net_21 : decode cX8_net 21 = .ok (.iload_n 1, 1) := by decide +kernel
theorem dX8_net_22 : decode cX8_net 22 = .ok (.iload_n 2, 1) := by decide +kernel
theorem dX8_net_23 : decode cX8_net 23 = .ok (.invokevirtual 217, 3) := by decide +kernel
theorem dX8_net_26 : decode cX8_net 26 = .ok (.goto 5, 3) := by decide +kernel
theorem dX8_net_29 : decode cX8_net 29 = .ok (.bipush (-3), 2) := by decide +kernel
theorem dX8_net_31 : decode cX8_net 31 = .ok (.ireturn, 1) := by decide +kernel
set_option maxRecDepth 20000 in
theorem ggX8_partOf_X8_has : GoodIn wsX8_partOf wsX8_has := goodIn_r _ [7] (by decide +kernel) (by decide +kernel)
set_option maxRecDepth 20000 in
theorem gX8_partOf_X8_has : GoodIn wsX8_partOf (va_wsS RX8 126 yX8_has wsX8_has) := goodIn_app (goodIn_of _ (by decide +kernel)) ggX8_partOf_X8_has
set_option maxRecDepth 20000 in
theorem ggX8_partOf_X8_joined : GoodIn wsX8_partOf wsX8_joined := goodIn_r _ [11, 1, 4, 5, 6, 7, 12, 13, 14, 15, 2, 16, 17, 18, 19, 3, 20, 21, 22, 23, 24, 25, 26, 27, 28, 29, 30, 31, 32, 33, 34, 35, 36, 37, 38, 39, 40, 41, 42, 43, 44, 45, 46, 47, 48, 49, 50, 51, 52, 53, 54, 55, 56, 57, 58, 59, 60] (by decide +kernel) (by decide +kernel)
set_option maxRecDepth 20000 in
theorem gX8_partOf_X8_joined : GoodIn wsX8_partOf (wsV RX8 217 RX8 yX8_joined wsX8_joined) := goodIn_app (goodIn_of _ (by decide +kernel)) ggX8_partOf_X8_joined
theorem dX8_partOf_0 : decode cX8_partOf 0 = .ok (.aload_n 0, 1) := by decide +kernel
theorem dX8_partOf_1 : decode cX8_partOf 1 = .ok (.getfield 167, 3) := by decide +kernel
theorem dX8_partOf_4 : decode cX8_partOf 4 = .ok (.iload_n 2, 1) := by decide +kernel
theorem dX8_partOf_5 : decode cX8_partOf 5 = .ok (.invokestatic 126, 3) := by decide +kernel
theorem dX8_partOf_8 : decode cX8_partOf 8 = .ok (.ifCond .eq 7, 3) := by decide +kernel
theorem dX8_partOf_11 : decode cX8_partOf 11 = .ok (.iconst 0, 1) := by decide +kernel
theorem dX8_partOf_12 : decode cX8_partOf 12 = .ok (.goto 6, 3) := by decide +kernel
theorem dX8_partOf_15 : decode cX8_partOf 15 = .ok (.iconst 1, 1) := by decide +kernel
theorem dX8_partOf_16 : decode cX8_partOf 16 = .ok (.iload_n 2, 1) := by decide +kernel
theorem dX8_partOf_17 : decode cX8_partOf 17 = .ok (.ishl, 1) := by decide +kernel
theorem dX8_partOf_18 : decode cX8_partOf 18 = .ok (.istore_n 3, 1) := by decide +kernel
theorem dX8_partOf_19 : decode cX8_partOf 19 = .ok (.iconst 0, 1) := by decide +kernel
theorem dX8_partOf_20 : decode cX8_partOf 20 = .ok (.istore 4, 2) := by decide +kernel
theorem dX8_partOf_22 : decode cX8_partOf 22 = .ok (.iload 4, 2) := by decide +kernel
theorem dX8_partOf_24 : decode cX8_partOf 24 = .ok (.bipush 12, 2) := by decide +kernel
theorem dX8_partOf_26 : decode cX8_partOf 26 = .ok (.if_icmp .ge 55, 3) := by decide +kernel
theorem dX8_partOf_29 : decode cX8_partOf 29 = .ok (.iconst 0, 1) := by decide +kernel
theorem dX8_partOf_30 : decode cX8_partOf 30 = .ok (.istore 5, 2) := by decide +kernel
theorem dX8_partOf_32 : decode cX8_partOf 32 = .ok (.iload 5, 2) := by decide +kernel
theorem dX8_partOf_34 : decode cX8_partOf 34 = .ok (.aload_n 0, 1) := by decide +kernel
theorem dX8_partOf_35 : decode cX8_partOf 35 = .ok (.getfield 7, 3) := by decide +kernel
theorem dX8_partOf_38 : decode cX8_partOf 38 = .ok (.aload_n 0, 1) := by decide +kernel
theorem dX8_partOf_39 : decode cX8_partOf 39 = .ok (.getfield 13, 3) := by decide +kernel
theorem dX8_partOf_42 : decode cX8_partOf 42 = .ok (.imul, 1) := by decide +kernel
theorem dX8_partOf_43 : decode cX8_partOf 43 = .ok (.if_icmp .ge 32, 3) := by decide +kernel
theorem dX8_partOf_46 : decode cX8_partOf 46 = .ok (.iload_n 3, 1) := by decide +kernel
theorem dX8_partOf_47 : decode cX8_partOf 47 = .ok (.iload_n 3, 1) := by decide +kernel
theorem dX8_partOf_48 : decode cX8_partOf 48 = .ok (.iload 5, 2) := by decide +kernel
theorem dX8_partOf_50 : decode cX8_partOf 50 = .ok (.invokestatic 126, 3) := by decide +kernel
theorem dX8_partOf_53 : decode cX8_partOf 53 = .ok (.ifCond .eq 13, 3) := by decide +kernel
theorem dX8_partOf_56 : decode cX8_partOf 56 = .ok (.aload_n 0, 1) := by decide +kernel
theorem dX8_partOf_57 : decode cX8_partOf 57 = .ok (.iload_n 1, 1) := by decide +kernel
theorem dX8_partOf_58 : decode cX8_partOf 58 = .ok (.iload 5, 2) := by decide +kernel
theorem dX8_partOf_60 : decode cX8_partOf 60 = .ok (.invokevirtual 217, 3) := by decide +kernel
theorem dX8_partOf_63 : decode cX8_partOf 63 = .ok (.goto 4, 3) := by decide +kernel
theorem dX8_partOf_66 : decode cX8_partOf 66 = .ok (.iconst 0, 1) := by decide +kernel
theorem dX8_partOf_67 : decode cX8_partOf 67 = .ok (.ior, 1) := by decide +kernel
theorem dX8_partOf_68 : decode cX8_partOf 68 = .ok (.istore_n 3, 1) := by decide +kernel
theorem dX8_partOf_69 : decode cX8_partOf 69 = .ok (.iinc 5 1, 3) := by decide +kernel
theorem dX8_partOf_72 : decode cX8_partOf 72 = .ok (.goto (-40), 3) := by decide +kernel
theorem dX8_partOf_75 : decode cX8_partOf 75 = .ok (.iinc 4 1, 3) := by decide +kernel
theorem dX8_partOf_78 : decode cX8_partOf 78 = .ok (.goto (-56), 3) := by decide +kernel
theorem dX8_partOf_81 : decode cX8_partOf 81 = .ok (.iload_n 3, 1) := by decide +kernel
theorem dX8_partOf_82 : decode cX8_partOf 82 = .ok (.ireturn, 1) := by decide +kernel
set_option maxRecDepth 20000 in
theorem ggX8_part_X8_isSquare : GoodIn wsX8_part wsX8_isSquare := goodIn_r _ [5, 6, 7, 8, 9, 4, 10, 35, 36, 37, 38, 39, 40, 41, 42, 43, 44, 45, 46, 47, 48, 49, 50, 51, 52, 53, 54, 55, 56, 57, 58, 59, 60, 61, 62, 63, 64, 65, 66, 67, 68] (by decide +kernel) (by decide +kernel)
set_option maxRecDepth 20000 in
theorem gX8_part_X8_isSquare : GoodIn wsX8_part (wsV RX8 189 RX8 yX8_isSquare wsX8_isSquare) := goodIn_app (goodIn_of _ (by decide +kernel)) ggX8_part_X8_isSquare
set_option maxRecDepth 20000 in
theorem ggX8_part_X8_in : GoodIn wsX8_part wsX8_in := goodIn_r _ [10] (by decide +kernel) (by decide +kernel)
set_option maxRecDepth 20000 in
theorem gX8_part_X8_in : GoodIn wsX8_part (va_wsS RX8 64 yX8_in wsX8_in) := goodIn_app (goodIn_of _ (by decide +kernel)) ggX8_part_X8_in
set_option maxRecDepth 20000 in
theorem ggX8_part_X8_partOf : GoodIn wsX8_part wsX8_partOf := goodIn_r _ [14, 15, 6, 7, 16, 17, 4, 18, 19, 20, 21, 22, 23, 24, 25, 26, 27, 28, 29, 30, 8, 9, 10, 31, 32, 33, 34, 35, 36, 37, 38, 39, 40, 41, 42, 43, 44, 45, 46, 47, 48, 49, 50, 51, 52, 53, 54, 55, 56, 57, 58, 59, 60, 61, 62, 63, 64, 65, 66, 67, 68] (by decide +kernel) (by decide +kernel)
set_option maxRecDepth 20000 in
theorem gX8_part_X8_partOf : GoodIn wsX8_part (wsV RX8 221 RX8 yX8_partOf wsX8_partOf) := goodIn_app (goodIn_of _ (by decide +kernel)) ggX8_part_X8_partOf
theorem dX8_part_0 : decode cX8_part 0 = .ok (.aload_n 0, 1) := by decide +kernel
theorem dX8_part_1 : decode cX8_part 1 = .ok (.iload_n 2, 1) := by decide +kernel
theorem dX8_part_2 : decode cX8_part 2 = .ok (.invokevirtual 189, 3) := by decide +kernel
theorem dX8_part_5 : decode cX8_part 5 = .ok (.ifCond .ne 6, 3) := by decide +kernel
theorem dX8_part_8 : decode cX8_part 8 = .ok (.bipush (-2), 2) := by decide +kernel
theorem dX8_part_10 : decode cX8_part 10 = .ok (.ireturn, 1) := by decide +kernel
theorem dX8_part_11 : decode cX8_part 11 = .ok (.iload_n 1, 1) := by decide +kernel
theorem dX8_part_12 : decode cX8_part 12 = .ok (.iconst 0, 1) := by decide +kernel
theorem dX8_part_13 : decode cX8_part 13 = .ok (.iconst 3, 1) := by decide +kernel
theorem dX8_part_14 : decode cX8_part 14 = .ok (.invokestatic 64, 3) := by decide +kernel
theorem dX8_part_17 : decode cX8_part 17 = .ok (.ifCond .eq 12, 3) := by decide +kernel
theorem dX8_part_20 : decode cX8_part 20 = .ok (.aload_n 0, 1) := by decide +kernel
theorem dX8_part_21 : decode cX8_part 21 = .ok (.iload_n 1, 1) := by decide +kernel
theorem dX8_part_22 : decode cX8_part 22 = .ok (.iload_n 2, 1) := by decide +kernel
theorem dX8_part_23 : decode cX8_part 23 = .ok (.invokevirtual 221, 3) := by decide +kernel
theorem dX8_part_26 : decode cX8_part 26 = .ok (.goto 5, 3) := by decide +kernel
theorem dX8_part_29 : decode cX8_part 29 = .ok (.bipush (-3), 2) := by decide +kernel
theorem dX8_part_31 : decode cX8_part 31 = .ok (.ireturn, 1) := by decide +kernel
set_option maxRecDepth 20000 in
theorem ggX8_shapeOf_X8_partOf : GoodIn wsX8_shapeOf wsX8_partOf := goodIn_r _ [7, 8, 1, 2, 9, 10, 6, 11, 12, 13, 14, 15, 16, 17, 18, 19, 20, 21, 22, 23, 24, 25, 26, 27, 28, 29, 30, 34, 35, 36, 37, 38, 39, 40, 41, 42, 43, 44, 45, 46, 47, 48, 49, 50, 51, 52, 53, 54, 55, 56, 57, 58, 59, 60, 61, 62, 63, 64, 65, 66, 67] (by decide +kernel) (by decide +kernel)
set_option maxRecDepth 20000 in
theorem gX8_shapeOf_X8_partOf : GoodIn wsX8_shapeOf (wsV RX8 221 RX8 yX8_partOf wsX8_partOf) := goodIn_app (goodIn_of _ (by decide +kernel)) ggX8_shapeOf_X8_partOf
set_option maxRecDepth 20000 in
theorem ggX8_shapeOf_X8_bits : GoodIn wsX8_shapeOf wsX8_bits := goodIn_r _ [33] (by decide +kernel) (by decide +kernel)
set_option maxRecDepth 20000 in
theorem gX8_shapeOf_X8_bits : GoodIn wsX8_shapeOf (va_wsS RX8 224 yX8_bits wsX8_bits) := goodIn_app (goodIn_of _ (by decide +kernel)) ggX8_shapeOf_X8_bits
set_option maxRecDepth 20000 in
theorem ggX8_shapeOf_X8_has : GoodIn wsX8_shapeOf wsX8_has := goodIn_r _ [11] (by decide +kernel) (by decide +kernel)
set_option maxRecDepth 20000 in
theorem gX8_shapeOf_X8_has : GoodIn wsX8_shapeOf (va_wsS RX8 126 yX8_has wsX8_has) := goodIn_app (goodIn_of _ (by decide +kernel)) ggX8_shapeOf_X8_has
set_option maxRecDepth 20000 in
theorem ggX8_shapeOf_X8_joined : GoodIn wsX8_shapeOf wsX8_joined := goodIn_r _ [15, 8, 9, 10, 6, 11, 16, 17, 18, 19, 1, 20, 21, 22, 23, 2, 24, 25, 26, 27, 28, 29, 30, 34, 35, 36, 37, 38, 39, 40, 41, 42, 43, 44, 45, 46, 47, 48, 49, 50, 51, 52, 53, 54, 55, 56, 57, 58, 59, 60, 61, 62, 63, 64, 65, 66, 67] (by decide +kernel) (by decide +kernel)
set_option maxRecDepth 20000 in
theorem gX8_shapeOf_X8_joined : GoodIn wsX8_shapeOf (wsV RX8 217 RX8 yX8_joined wsX8_joined) := goodIn_app (goodIn_of _ (by decide +kernel)) ggX8_shapeOf_X8_joined
theorem dX8_shapeOf_0 : decode cX8_shapeOf 0 = .ok (.aload_n 0, 1) := by decide +kernel
theorem dX8_shapeOf_1 : decode cX8_shapeOf 1 = .ok (.iload_n 1, 1) := by decide +kernel
theorem dX8_shapeOf_2 : decode cX8_shapeOf 2 = .ok (.iload_n 2, 1) := by decide +kernel
theorem dX8_shapeOf_3 : decode cX8_shapeOf 3 = .ok (.invokevirtual 221, 3) := by decide +kernel
theorem dX8_shapeOf_6 : decode cX8_shapeOf 6 = .ok (.istore_n 3, 1) := by decide +kernel
theorem dX8_shapeOf_7 : decode cX8_shapeOf 7 = .ok (.iload_n 3, 1) := by decide +kernel
theorem dX8_shapeOf_8 : decode cX8_shapeOf 8 = .ok (.invokestatic 224, 3) := by decide +kernel
theorem dX8_shapeOf_11 : decode cX8_shapeOf 11 = .ok (.istore 4, 2) := by decide +kernel
theorem dX8_shapeOf_13 : decode cX8_shapeOf 13 = .ok (.iconst 0, 1) := by decide +kernel
theorem dX8_shapeOf_14 : decode cX8_shapeOf 14 = .ok (.istore 5, 2) := by decide +kernel
theorem dX8_shapeOf_16 : decode cX8_shapeOf 16 = .ok (.iconst 0, 1) := by decide +kernel
theorem dX8_shapeOf_17 : decode cX8_shapeOf 17 = .ok (.istore 6, 2) := by decide +kernel
theorem dX8_shapeOf_19 : decode cX8_shapeOf 19 = .ok (.iconst 0, 1) := by decide +kernel
theorem dX8_shapeOf_20 : decode cX8_shapeOf 20 = .ok (.istore 7, 2) := by decide +kernel
theorem dX8_shapeOf_22 : decode cX8_shapeOf 22 = .ok (.iconst 0, 1) := by decide +kernel
theorem dX8_shapeOf_23 : decode cX8_shapeOf 23 = .ok (.istore 8, 2) := by decide +kernel
theorem dX8_shapeOf_25 : decode cX8_shapeOf 25 = .ok (.iconst 0, 1) := by decide +kernel
theorem dX8_shapeOf_26 : decode cX8_shapeOf 26 = .ok (.istore 9, 2) := by decide +kernel
theorem dX8_shapeOf_28 : decode cX8_shapeOf 28 = .ok (.iload 9, 2) := by decide +kernel
theorem dX8_shapeOf_30 : decode cX8_shapeOf 30 = .ok (.aload_n 0, 1) := by decide +kernel
theorem dX8_shapeOf_31 : decode cX8_shapeOf 31 = .ok (.getfield 7, 3) := by decide +kernel
theorem dX8_shapeOf_34 : decode cX8_shapeOf 34 = .ok (.aload_n 0, 1) := by decide +kernel
theorem dX8_shapeOf_35 : decode cX8_shapeOf 35 = .ok (.getfield 13, 3) := by decide +kernel
theorem dX8_shapeOf_38 : decode cX8_shapeOf 38 = .ok (.imul, 1) := by decide +kernel
theorem dX8_shapeOf_39 : decode cX8_shapeOf 39 = .ok (.if_icmp .ge 85, 3) := by decide +kernel
theorem dX8_shapeOf_42 : decode cX8_shapeOf 42 = .ok (.iload_n 3, 1) := by decide +kernel
theorem dX8_shapeOf_43 : decode cX8_shapeOf 43 = .ok (.iload 9, 2) := by decide +kernel
theorem dX8_shapeOf_45 : decode cX8_shapeOf 45 = .ok (.invokestatic 126, 3) := by decide +kernel
theorem dX8_shapeOf_48 : decode cX8_shapeOf 48 = .ok (.ifCond .eq 70, 3) := by decide +kernel
theorem dX8_shapeOf_51 : decode cX8_shapeOf 51 = .ok (.aload_n 0, 1) := by decide +kernel
theorem dX8_shapeOf_52 : decode cX8_shapeOf 52 = .ok (.iload_n 1, 1) := by decide +kernel
theorem dX8_shapeOf_53 : decode cX8_shapeOf 53 = .ok (.iload 9, 2) := by decide +kernel
theorem dX8_shapeOf_55 : decode cX8_shapeOf 55 = .ok (.invokevirtual 217, 3) := by decide +kernel
theorem dX8_shapeOf_58 : decode cX8_shapeOf 58 = .ok (.invokestatic 224, 3) := by decide +kernel
theorem dX8_shapeOf_61 : decode cX8_shapeOf 61 = .ok (.istore 10, 2) := by decide +kernel
theorem dX8_shapeOf_63 : decode cX8_shapeOf 63 = .ok (.iload 5, 2) := by decide +kernel
theorem dX8_shapeOf_65 : decode cX8_shapeOf 65 = .ok (.iload 10, 2) := by decide +kernel
theorem dX8_shapeOf_67 : decode cX8_shapeOf 67 = .ok (.iadd, 1) := by decide +kernel
theorem dX8_shapeOf_68 : decode cX8_shapeOf 68 = .ok (.istore 5, 2) := by decide +kernel
theorem dX8_shapeOf_70 : decode cX8_shapeOf 70 = .ok (.iload 6, 2) := by decide +kernel
theorem dX8_shapeOf_72 : decode cX8_shapeOf 72 = .ok (.iload 10, 2) := by decide +kernel
theorem dX8_shapeOf_74 : decode cX8_shapeOf 74 = .ok (.iconst 1, 1) := by decide +kernel
theorem dX8_shapeOf_75 : decode cX8_shapeOf 75 = .ok (.if_icmp .ne 7, 3) := by decide +kernel
theorem dX8_shapeOf_78 : decode cX8_shapeOf 78 = .ok (.iconst 1, 1) := by decide +kernel
theorem dX8_shapeOf_79 : decode cX8_shapeOf 79 = .ok (.goto 4, 3) := by decide +kernel
theorem dX8_shapeOf_82 : decode cX8_shapeOf 82 = .ok (.iconst 0, 1) := by decide +kernel
theorem dX8_shapeOf_83 : decode cX8_shapeOf 83 = .ok (.iadd, 1) := by decide +kernel
theorem dX8_shapeOf_84 : decode cX8_shapeOf 84 = .ok (.istore 6, 2) := by decide +kernel
theorem dX8_shapeOf_86 : decode cX8_shapeOf 86 = .ok (.iload 7, 2) := by decide +kernel
theorem dX8_shapeOf_88 : decode cX8_shapeOf 88 = .ok (.iload 10, 2) := by decide +kernel
theorem dX8_shapeOf_90 : decode cX8_shapeOf 90 = .ok (.iconst 2, 1) := by decide +kernel
theorem dX8_shapeOf_91 : decode cX8_shapeOf 91 = .ok (.if_icmp .ne 7, 3) := by decide +kernel
theorem dX8_shapeOf_94 : decode cX8_shapeOf 94 = .ok (.iconst 1, 1) := by decide +kernel
theorem dX8_shapeOf_95 : decode cX8_shapeOf 95 = .ok (.goto 4, 3) := by decide +kernel
theorem dX8_shapeOf_98 : decode cX8_shapeOf 98 = .ok (.iconst 0, 1) := by decide +kernel
theorem dX8_shapeOf_99 : decode cX8_shapeOf 99 = .ok (.iadd, 1) := by decide +kernel
theorem dX8_shapeOf_100 : decode cX8_shapeOf 100 = .ok (.istore 7, 2) := by decide +kernel
theorem dX8_shapeOf_102 : decode cX8_shapeOf 102 = .ok (.iload 8, 2) := by decide +kernel
theorem dX8_shapeOf_104 : decode cX8_shapeOf 104 = .ok (.iload 10, 2) := by decide +kernel
theorem dX8_shapeOf_106 : decode cX8_shapeOf 106 = .ok (.iconst 3, 1) := by decide +kernel
theorem dX8_shapeOf_107 : decode cX8_shapeOf 107 = .ok (.if_icmp .ne 7, 3) := by decide +kernel
theorem dX8_shapeOf_110 : decode cX8_shapeOf 110 = .ok (.iconst 1, 1) := by decide +kernel
theorem dX8_shapeOf_111 : decode cX8_shapeOf 111 = .ok (.goto 4, 3) := by decide +kernel
theorem dX8_shapeOf_114 : decode cX8_shapeOf 114 = .ok (.iconst 0, 1) := by decide +kernel
theorem dX8_shapeOf_115 : decode cX8_shapeOf 115 = .ok (.iadd, 1) := by decide +kernel
theorem dX8_shapeOf_116 : decode cX8_shapeOf 116 = .ok (.istore 8, 2) := by decide +kernel
theorem dX8_shapeOf_118 : decode cX8_shapeOf 118 = .ok (.iinc 9 1, 3) := by decide +kernel
theorem dX8_shapeOf_121 : decode cX8_shapeOf 121 = .ok (.goto (-93), 3) := by decide +kernel
theorem dX8_shapeOf_124 : decode cX8_shapeOf 124 = .ok (.iload 4, 2) := by decide +kernel
theorem dX8_shapeOf_126 : decode cX8_shapeOf 126 = .ok (.iconst 1, 1) := by decide +kernel
theorem dX8_shapeOf_127 : decode cX8_shapeOf 127 = .ok (.if_icmp .ne 5, 3) := by decide +kernel
theorem dX8_shapeOf_130 : decode cX8_shapeOf 130 = .ok (.iconst 0, 1) := by decide +kernel
theorem dX8_shapeOf_131 : decode cX8_shapeOf 131 = .ok (.ireturn, 1) := by decide +kernel
theorem dX8_shapeOf_132 : decode cX8_shapeOf 132 = .ok (.iload 5, 2) := by decide +kernel
theorem dX8_shapeOf_134 : decode cX8_shapeOf 134 = .ok (.iconst 2, 1) := by decide +kernel
theorem dX8_shapeOf_135 : decode cX8_shapeOf 135 = .ok (.iload 4, 2) := by decide +kernel
theorem dX8_shapeOf_137 : decode cX8_shapeOf 137 = .ok (.imul, 1) := by decide +kernel
theorem dX8_shapeOf_138 : decode cX8_shapeOf 138 = .ok (.iconst 2, 1) := by decide +kernel
theorem dX8_shapeOf_139 : decode cX8_shapeOf 139 = .ok (.isub, 1) := by decide +kernel
theorem dX8_shapeOf_140 : decode cX8_shapeOf 140 = .ok (.if_icmp .ne 19, 3) := by decide +kernel
theorem dX8_shapeOf_143 : decode cX8_shapeOf 143 = .ok (.iload 6, 2) := by decide +kernel
theorem dX8_shapeOf_145 : decode cX8_shapeOf 145 = .ok (.iload 7, 2) := by decide +kernel
theorem dX8_shapeOf_147 : decode cX8_shapeOf 147 = .ok (.iadd, 1) := by decide +kernel
theorem dX8_shapeOf_148 : decode cX8_shapeOf 148 = .ok (.iload 4, 2) := by decide +kernel
theorem dX8_shapeOf_150 : decode cX8_shapeOf 150 = .ok (.if_icmp .ne 7, 3) := by decide +kernel
theorem dX8_shapeOf_153 : decode cX8_shapeOf 153 = .ok (.iconst 1, 1) := by decide +kernel
theorem dX8_shapeOf_154 : decode cX8_shapeOf 154 = .ok (.goto 4, 3) := by decide +kernel
theorem dX8_shapeOf_157 : decode cX8_shapeOf 157 = .ok (.iconst 3, 1) := by decide +kernel
theorem dX8_shapeOf_158 : decode cX8_shapeOf 158 = .ok (.ireturn, 1) := by decide +kernel
theorem dX8_shapeOf_159 : decode cX8_shapeOf 159 = .ok (.iload 7, 2) := by decide +kernel
theorem dX8_shapeOf_161 : decode cX8_shapeOf 161 = .ok (.iload 4, 2) := by decide +kernel
theorem dX8_shapeOf_163 : decode cX8_shapeOf 163 = .ok (.if_icmp .ne 5, 3) := by decide +kernel
theorem dX8_shapeOf_166 : decode cX8_shapeOf 166 = .ok (.iconst 2, 1) := by decide +kernel
theorem dX8_shapeOf_167 : decode cX8_shapeOf 167 = .ok (.ireturn, 1) := by decide +kernel
theorem dX8_shapeOf_168 : decode cX8_shapeOf 168 = .ok (.iload 5, 2) := by decide +kernel
theorem dX8_shapeOf_170 : decode cX8_shapeOf 170 = .ok (.iconst 2, 1) := by decide +kernel
theorem dX8_shapeOf_171 : decode cX8_shapeOf 171 = .ok (.iload 4, 2) := by decide +kernel
theorem dX8_shapeOf_173 : decode cX8_shapeOf 173 = .ok (.imul, 1) := by decide +kernel
theorem dX8_shapeOf_174 : decode cX8_shapeOf 174 = .ok (.if_icmp .ne 28, 3) := by decide +kernel
theorem dX8_shapeOf_177 : decode cX8_shapeOf 177 = .ok (.iload 8, 2) := by decide +kernel
theorem dX8_shapeOf_179 : decode cX8_shapeOf 179 = .ok (.iconst 1, 1) := by decide +kernel
theorem dX8_shapeOf_180 : decode cX8_shapeOf 180 = .ok (.if_icmp .ne 22, 3) := by decide +kernel
theorem dX8_shapeOf_183 : decode cX8_shapeOf 183 = .ok (.iload 6, 2) := by decide +kernel
theorem dX8_shapeOf_185 : decode cX8_shapeOf 185 = .ok (.iconst 1, 1) := by decide +kernel
theorem dX8_shapeOf_186 : decode cX8_shapeOf 186 = .ok (.if_icmp .ne 16, 3) := by decide +kernel
theorem dX8_shapeOf_189 : decode cX8_shapeOf 189 = .ok (.iload 7, 2) := by decide +kernel
theorem dX8_shapeOf_191 : decode cX8_shapeOf 191 = .ok (.iload 4, 2) := by decide +kernel
theorem dX8_shapeOf_193 : decode cX8_shapeOf 193 = .ok (.iconst 2, 1) := by decide +kernel
theorem dX8_shapeOf_194 : decode cX8_shapeOf 194 = .ok (.isub, 1) := by decide +kernel
theorem dX8_shapeOf_195 : decode cX8_shapeOf 195 = .ok (.if_icmp .ne 7, 3) := by decide +kernel
theorem dX8_shapeOf_198 : decode cX8_shapeOf 198 = .ok (.iconst 4, 1) := by decide +kernel
theorem dX8_shapeOf_199 : decode cX8_shapeOf 199 = .ok (.goto 4, 3) := by decide +kernel
theorem dX8_shapeOf_202 : decode cX8_shapeOf 202 = .ok (.iconst 5, 1) := by decide +kernel
theorem dX8_shapeOf_203 : decode cX8_shapeOf 203 = .ok (.ireturn, 1) := by decide +kernel
set_option maxRecDepth 20000 in
theorem ggX8_shape_X8_isSquare : GoodIn wsX8_shape wsX8_isSquare := goodIn_r _ [6, 7, 8, 9, 10, 5, 11, 42, 43, 44, 45, 46, 47, 48, 49, 50, 51, 52, 53, 54, 55, 56, 57, 58, 59, 60, 61, 62, 63, 64, 65, 66, 67, 68, 69, 70, 71, 72, 73, 74, 75] (by decide +kernel) (by decide +kernel)
set_option maxRecDepth 20000 in
theorem gX8_shape_X8_isSquare : GoodIn wsX8_shape (wsV RX8 189 RX8 yX8_isSquare wsX8_isSquare) := goodIn_app (goodIn_of _ (by decide +kernel)) ggX8_shape_X8_isSquare
set_option maxRecDepth 20000 in
theorem ggX8_shape_X8_in : GoodIn wsX8_shape wsX8_in := goodIn_r _ [11] (by decide +kernel) (by decide +kernel)
set_option maxRecDepth 20000 in
theorem gX8_shape_X8_in : GoodIn wsX8_shape (va_wsS RX8 64 yX8_in wsX8_in) := goodIn_app (goodIn_of _ (by decide +kernel)) ggX8_shape_X8_in
set_option maxRecDepth 20000 in
theorem ggX8_shape_X8_has : GoodIn wsX8_shape wsX8_has := goodIn_r _ [14] (by decide +kernel) (by decide +kernel)
set_option maxRecDepth 20000 in
theorem gX8_shape_X8_has : GoodIn wsX8_shape (va_wsS RX8 126 yX8_has wsX8_has) := goodIn_app (goodIn_of _ (by decide +kernel)) ggX8_shape_X8_has
set_option maxRecDepth 20000 in
theorem ggX8_shape_X8_shapeOf : GoodIn wsX8_shape wsX8_shapeOf := goodIn_r _ [18, 7, 8, 19, 20, 21, 5, 22, 1, 12, 13, 14, 23, 24, 25, 26, 27, 28, 29, 30, 31, 32, 33, 34, 9, 10, 11, 35, 36, 37, 38, 39, 40, 41, 42, 43, 44, 45, 46, 47, 48, 49, 50, 51, 52, 53, 54, 55, 56, 57, 58, 59, 60, 61, 62, 63, 64, 65, 66, 67, 68, 69, 70, 71, 72, 73, 74, 75] (by decide +kernel) (by decide +kernel)
set_option maxRecDepth 20000 in
theorem gX8_shape_X8_shapeOf : GoodIn wsX8_shape (wsV RX8 228 RX8 yX8_shapeOf wsX8_shapeOf) := goodIn_app (goodIn_of _ (by decide +kernel)) ggX8_shape_X8_shapeOf
theorem dX8_shape_0 : decode cX8_shape 0 = .ok (.aload_n 0, 1) := by decide +kernel
theorem dX8_shape_1 : decode cX8_shape 1 = .ok (.iload_n 2, 1) := by decide +kernel
theorem dX8_shape_2 : decode cX8_shape 2 = .ok (.invokevirtual 189, 3) := by decide +kernel
theorem dX8_shape_5 : decode cX8_shape 5 = .ok (.ifCond .ne 6, 3) := by decide +kernel
theorem dX8_shape_8 : decode cX8_shape 8 = .ok (.bipush (-2), 2) := by decide +kernel
theorem dX8_shape_10 : decode cX8_shape 10 = .ok (.ireturn, 1) := by decide +kernel
theorem dX8_shape_11 : decode cX8_shape 11 = .ok (.iload_n 1, 1) := by decide +kernel
theorem dX8_shape_12 : decode cX8_shape 12 = .ok (.iconst 0, 1) := by decide +kernel
theorem dX8_shape_13 : decode cX8_shape 13 = .ok (.iconst 3, 1) := by decide +kernel
theorem dX8_shape_14 : decode cX8_shape 14 = .ok (.invokestatic 64, 3) := by decide +kernel
theorem dX8_shape_17 : decode cX8_shape 17 = .ok (.ifCond .ne 6, 3) := by decide +kernel
theorem dX8_shape_20 : decode cX8_shape 20 = .ok (.bipush (-3), 2) := by decide +kernel
theorem dX8_shape_22 : decode cX8_shape 22 = .ok (.ireturn, 1) := by decide +kernel
theorem dX8_shape_23 : decode cX8_shape 23 = .ok (.aload_n 0, 1) := by decide +kernel
theorem dX8_shape_24 : decode cX8_shape 24 = .ok (.getfield 167, 3) := by decide +kernel
theorem dX8_shape_27 : decode cX8_shape 27 = .ok (.iload_n 2, 1) := by decide +kernel
theorem dX8_shape_28 : decode cX8_shape 28 = .ok (.invokestatic 126, 3) := by decide +kernel
theorem dX8_shape_31 : decode cX8_shape 31 = .ok (.ifCond .eq 8, 3) := by decide +kernel
theorem dX8_shape_34 : decode cX8_shape 34 = .ok (.bipush (-4), 2) := by decide +kernel
theorem dX8_shape_36 : decode cX8_shape 36 = .ok (.goto 9, 3) := by decide +kernel
theorem dX8_shape_39 : decode cX8_shape 39 = .ok (.aload_n 0, 1) := by decide +kernel
theorem dX8_shape_40 : decode cX8_shape 40 = .ok (.iload_n 1, 1) := by decide +kernel
theorem dX8_shape_41 : decode cX8_shape 41 = .ok (.iload_n 2, 1) := by decide +kernel
theorem dX8_shape_42 : decode cX8_shape 42 = .ok (.invokevirtual 228, 3) := by decide +kernel
theorem dX8_shape_45 : decode cX8_shape 45 = .ok (.ireturn, 1) := by decide +kernel
set_option maxRecDepth 20000 in
theorem ggX8_lowest_X8_has : GoodIn wsX8_lowest wsX8_has := goodIn_r _ [4] (by decide +kernel) (by decide +kernel)
set_option maxRecDepth 20000 in
theorem gX8_lowest_X8_has : GoodIn wsX8_lowest (va_wsS RX8 126 yX8_has wsX8_has) := goodIn_app (goodIn_of _ (by decide +kernel)) ggX8_lowest_X8_has
theorem dX8_lowest_0 : decode cX8_lowest 0 = .ok (.iconst 0, 1) := by decide +kernel
theorem dX8_lowest_1 : decode cX8_lowest 1 = .ok (.istore_n 1, 1) := by decide +kernel
theorem dX8_lowest_2 : decode cX8_lowest 2 = .ok (.iload_n 0, 1) := by decide +kernel
theorem dX8_lowest_3 : decode cX8_lowest 3 = .ok (.iload_n 1, 1) := by decide +kernel
theorem dX8_lowest_4 : decode cX8_lowest 4 = .ok (.invokestatic 126, 3) := by decide +kernel
theorem dX8_lowest_7 : decode cX8_lowest 7 = .ok (.ifCond .ne 9, 3) := by decide +kernel
theorem dX8_lowest_10 : decode cX8_lowest 10 = .ok (.iinc 1 1, 3) := by decide +kernel
theorem dX8_lowest_13 : decode cX8_lowest 13 = .ok (.goto (-11), 3) := by decide +kernel
theorem dX8_lowest_16 : decode cX8_lowest 16 = .ok (.iload_n 1, 1) := by decide +kernel
theorem dX8_lowest_17 : decode cX8_lowest 17 = .ok (.ireturn, 1) := by decide +kernel
set_option maxRecDepth 20000 in
theorem ggX8_layRing_X8_joined : GoodIn wsX8_layRing wsX8_joined := goodIn_r _ [6, 7, 8, 9, 5, 10, 11, 12, 13, 14, 15, 16, 17, 18, 19, 20, 21, 22, 23, 24, 25, 26, 27, 31, 32, 33, 34, 35, 36, 37, 38, 39, 40, 41, 42, 43, 44, 45, 46, 47, 48, 49, 50, 51, 52, 53, 54, 55, 56, 57, 58, 59, 60, 61, 62, 63, 64] (by decide +kernel) (by decide +kernel)
set_option maxRecDepth 20000 in
theorem gX8_layRing_X8_joined : GoodIn wsX8_layRing (wsV RX8 217 RX8 yX8_joined wsX8_joined) := goodIn_app (goodIn_of _ (by decide +kernel)) ggX8_layRing_X8_joined
set_option maxRecDepth 20000 in
theorem ggX8_layRing_X8_lowest : GoodIn wsX8_layRing wsX8_lowest := goodIn_r _ [30, 8, 9, 5, 10] (by decide +kernel) (by decide +kernel)
set_option maxRecDepth 20000 in
theorem gX8_layRing_X8_lowest : GoodIn wsX8_layRing (va_wsS RX8 231 yX8_lowest wsX8_lowest) := goodIn_app (goodIn_of _ (by decide +kernel)) ggX8_layRing_X8_lowest
theorem dX8_layRing_0 : decode cX8_layRing 0 = .ok (.iconst 1, 1) := by decide +kernel
theorem dX8_layRing_1 : decode cX8_layRing 1 = .ok (.istore_n 3, 1) := by decide +kernel
theorem dX8_layRing_2 : decode cX8_layRing 2 = .ok (.aload_n 0, 1) := by decide +kernel
theorem dX8_layRing_3 : decode cX8_layRing 3 = .ok (.getfield 61, 3) := by decide +kernel
theorem dX8_layRing_6 : decode cX8_layRing 6 = .ok (.iconst 0, 1) := by decide +kernel
theorem dX8_layRing_7 : decode cX8_layRing 7 = .ok (.iload_n 2, 1) := by decide +kernel
theorem dX8_layRing_8 : decode cX8_layRing 8 = .ok (.iastore, 1) := by decide +kernel
theorem dX8_layRing_9 : decode cX8_layRing 9 = .ok (.aload_n 0, 1) := by decide +kernel
theorem dX8_layRing_10 : decode cX8_layRing 10 = .ok (.iload_n 1, 1) := by decide +kernel
theorem dX8_layRing_11 : decode cX8_layRing 11 = .ok (.iload_n 2, 1) := by decide +kernel
theorem dX8_layRing_12 : decode cX8_layRing 12 = .ok (.invokevirtual 217, 3) := by decide +kernel
theorem dX8_layRing_15 : decode cX8_layRing 15 = .ok (.invokestatic 231, 3) := by decide +kernel
theorem dX8_layRing_18 : decode cX8_layRing 18 = .ok (.istore 4, 2) := by decide +kernel
theorem dX8_layRing_20 : decode cX8_layRing 20 = .ok (.iload 4, 2) := by decide +kernel
theorem dX8_layRing_22 : decode cX8_layRing 22 = .ok (.iload_n 2, 1) := by decide +kernel
theorem dX8_layRing_23 : decode cX8_layRing 23 = .ok (.if_icmp .eq 42, 3) := by decide +kernel
theorem dX8_layRing_26 : decode cX8_layRing 26 = .ok (.aload_n 0, 1) := by decide +kernel
theorem dX8_layRing_27 : decode cX8_layRing 27 = .ok (.getfield 61, 3) := by decide +kernel
theorem dX8_layRing_30 : decode cX8_layRing 30 = .ok (.iload_n 3, 1) := by decide +kernel
theorem dX8_layRing_31 : decode cX8_layRing 31 = .ok (.iload 4, 2) := by decide +kernel
theorem dX8_layRing_33 : decode cX8_layRing 33 = .ok (.iastore, 1) := by decide +kernel
theorem dX8_layRing_34 : decode cX8_layRing 34 = .ok (.iinc 3 1, 3) := by decide +kernel
theorem dX8_layRing_37 : decode cX8_layRing 37 = .ok (.aload_n 0, 1) := by decide +kernel
theorem dX8_layRing_38 : decode cX8_layRing 38 = .ok (.iload_n 1, 1) := by decide +kernel
theorem dX8_layRing_39 : decode cX8_layRing 39 = .ok (.iload 4, 2) := by decide +kernel
theorem dX8_layRing_41 : decode cX8_layRing 41 = .ok (.invokevirtual 217, 3) := by decide +kernel
theorem dX8_layRing_44 : decode cX8_layRing 44 = .ok (.iconst 1, 1) := by decide +kernel
theorem dX8_layRing_45 : decode cX8_layRing 45 = .ok (.aload_n 0, 1) := by decide +kernel
theorem dX8_layRing_46 : decode cX8_layRing 46 = .ok (.getfield 61, 3) := by decide +kernel
theorem dX8_layRing_49 : decode cX8_layRing 49 = .ok (.iload_n 3, 1) := by decide +kernel
theorem dX8_layRing_50 : decode cX8_layRing 50 = .ok (.iconst 2, 1) := by decide +kernel
theorem dX8_layRing_51 : decode cX8_layRing 51 = .ok (.isub, 1) := by decide +kernel
theorem dX8_layRing_52 : decode cX8_layRing 52 = .ok (.iaload, 1) := by decide +kernel
theorem dX8_layRing_53 : decode cX8_layRing 53 = .ok (.ishl, 1) := by decide +kernel
theorem dX8_layRing_54 : decode cX8_layRing 54 = .ok (.iconst (-1), 1) := by decide +kernel
theorem dX8_layRing_55 : decode cX8_layRing 55 = .ok (.ixor, 1) := by decide +kernel
theorem dX8_layRing_56 : decode cX8_layRing 56 = .ok (.iand, 1) := by decide +kernel
theorem dX8_layRing_57 : decode cX8_layRing 57 = .ok (.invokestatic 231, 3) := by decide +kernel
theorem dX8_layRing_60 : decode cX8_layRing 60 = .ok (.istore 4, 2) := by decide +kernel
theorem dX8_layRing_62 : decode cX8_layRing 62 = .ok (.goto (-42), 3) := by decide +kernel
theorem dX8_layRing_65 : decode cX8_layRing 65 = .ok (.iload_n 3, 1) := by decide +kernel
theorem dX8_layRing_66 : decode cX8_layRing 66 = .ok (.ireturn, 1) := by decide +kernel
set_option maxRecDepth 20000 in
theorem ggX8_ring_X8_isSquare : GoodIn wsX8_ring wsX8_isSquare := goodIn_r _ [7, 8, 9, 10, 11, 6, 12, 50, 51, 52, 53, 54, 55, 56, 57, 58, 59, 60, 61, 62, 63, 64, 65, 66, 67, 68, 69, 70, 71, 72, 73, 74, 75, 76, 77, 78, 79, 80, 81, 82, 83] (by decide +kernel) (by decide +kernel)
set_option maxRecDepth 20000 in
theorem gX8_ring_X8_isSquare : GoodIn wsX8_ring (wsV RX8 189 RX8 yX8_isSquare wsX8_isSquare) := goodIn_app (goodIn_of _ (by decide +kernel)) ggX8_ring_X8_isSquare
set_option maxRecDepth 20000 in
theorem ggX8_ring_X8_in : GoodIn wsX8_ring wsX8_in := goodIn_r _ [12] (by decide +kernel) (by decide +kernel)
set_option maxRecDepth 20000 in
theorem gX8_ring_X8_in : GoodIn wsX8_ring (va_wsS RX8 64 yX8_in wsX8_in) := goodIn_app (goodIn_of _ (by decide +kernel)) ggX8_ring_X8_in
set_option maxRecDepth 20000 in
theorem ggX8_ring_X8_has : GoodIn wsX8_ring wsX8_has := goodIn_r _ [15] (by decide +kernel) (by decide +kernel)
set_option maxRecDepth 20000 in
theorem gX8_ring_X8_has : GoodIn wsX8_ring (va_wsS RX8 126 yX8_has wsX8_has) := goodIn_app (goodIn_of _ (by decide +kernel)) ggX8_ring_X8_has
set_option maxRecDepth 20000 in
theorem ggX8_ring_X8_shapeOf : GoodIn wsX8_ring wsX8_shapeOf := goodIn_r _ [19, 8, 9, 20, 21, 22, 6, 23, 1, 13, 14, 15, 24, 25, 26, 27, 28, 29, 30, 31, 32, 33, 34, 35, 10, 11, 12, 36, 37, 38, 39, 40, 41, 42, 50, 51, 52, 53, 54, 55, 56, 57, 58, 59, 60, 61, 62, 63, 64, 65, 66, 67, 68, 69, 70, 71, 72, 73, 74, 75, 76, 77, 78, 79, 80, 81, 82, 83] (by decide +kernel) (by decide +kernel)
set_option maxRecDepth 20000 in
theorem gX8_ring_X8_shapeOf : GoodIn wsX8_ring (wsV RX8 228 RX8 yX8_shapeOf wsX8_shapeOf) := goodIn_app (goodIn_of _ (by decide +kernel)) ggX8_ring_X8_shapeOf
set_option maxRecDepth 20000 in
theorem ggX8_ring_X8_layRing : GoodIn wsX8_ring wsX8_layRing := goodIn_r _ [46, 2, 24, 25, 26, 6, 27, 1, 13, 14, 15, 28, 29, 30, 31, 8, 32, 33, 34, 35, 9, 10, 11, 12, 36, 37, 38, 39, 47, 48, 49, 50, 51, 52, 53, 54, 55, 56, 57, 58, 59, 60, 61, 62, 63, 64, 65, 66, 67, 68, 69, 70, 71, 72, 73, 74, 75, 76, 77, 78, 79, 80, 81, 82, 83] (by decide +kernel) (by decide +kernel)
set_option maxRecDepth 20000 in
theorem gX8_ring_X8_layRing : GoodIn wsX8_ring (wsV RX8 234 RX8 yX8_layRing wsX8_layRing) := goodIn_app (goodIn_of _ (by decide +kernel)) ggX8_ring_X8_layRing
theorem dX8_ring_0 : decode cX8_ring 0 = .ok (.aload_n 0, 1) := by decide +kernel
theorem dX8_ring_1 : decode cX8_ring 1 = .ok (.iload_n 2, 1) := by decide +kernel
theorem dX8_ring_2 : decode cX8_ring 2 = .ok (.invokevirtual 189, 3) := by decide +kernel
theorem dX8_ring_5 : decode cX8_ring 5 = .ok (.ifCond .ne 6, 3) := by decide +kernel
theorem dX8_ring_8 : decode cX8_ring 8 = .ok (.bipush (-2), 2) := by decide +kernel
theorem dX8_ring_10 : decode cX8_ring 10 = .ok (.ireturn, 1) := by decide +kernel
theorem dX8_ring_11 : decode cX8_ring 11 = .ok (.iload_n 1, 1) := by decide +kernel
theorem dX8_ring_12 : decode cX8_ring 12 = .ok (.iconst 0, 1) := by decide +kernel
theorem dX8_ring_13 : decode cX8_ring 13 = .ok (.iconst 3, 1) := by decide +kernel
theorem dX8_ring_14 : decode cX8_ring 14 = .ok (.invokestatic 64, 3) := by decide +kernel
theorem dX8_ring_17 : decode cX8_ring 17 = .ok (.ifCond .eq 7, 3) := by decide +kernel
theorem dX8_ring_20 : decode cX8_ring 20 = .ok (.iload_n 3, 1) := by decide +kernel
theorem dX8_ring_21 : decode cX8_ring 21 = .ok (.ifCond .ge 6, 3) := by decide +kernel
theorem dX8_ring_24 : decode cX8_ring 24 = .ok (.bipush (-3), 2) := by decide +kernel
theorem dX8_ring_26 : decode cX8_ring 26 = .ok (.ireturn, 1) := by decide +kernel
theorem dX8_ring_27 : decode cX8_ring 27 = .ok (.aload_n 0, 1) := by decide +kernel
theorem dX8_ring_28 : decode cX8_ring 28 = .ok (.getfield 167, 3) := by decide +kernel
theorem dX8_ring_31 : decode cX8_ring 31 = .ok (.iload_n 2, 1) := by decide +kernel
theorem dX8_ring_32 : decode cX8_ring 32 = .ok (.invokestatic 126, 3) := by decide +kernel
theorem dX8_ring_35 : decode cX8_ring 35 = .ok (.ifCond .ne 13, 3) := by decide +kernel
theorem dX8_ring_38 : decode cX8_ring 38 = .ok (.aload_n 0, 1) := by decide +kernel
theorem dX8_ring_39 : decode cX8_ring 39 = .ok (.iload_n 1, 1) := by decide +kernel
theorem dX8_ring_40 : decode cX8_ring 40 = .ok (.iload_n 2, 1) := by decide +kernel
theorem dX8_ring_41 : decode cX8_ring 41 = .ok (.invokevirtual 228, 3) := by decide +kernel
theorem dX8_ring_44 : decode cX8_ring 44 = .ok (.iconst 2, 1) := by decide +kernel
theorem dX8_ring_45 : decode cX8_ring 45 = .ok (.if_icmp .eq 6, 3) := by decide +kernel
theorem dX8_ring_48 : decode cX8_ring 48 = .ok (.bipush (-4), 2) := by decide +kernel
theorem dX8_ring_50 : decode cX8_ring 50 = .ok (.ireturn, 1) := by decide +kernel
theorem dX8_ring_51 : decode cX8_ring 51 = .ok (.iload_n 3, 1) := by decide +kernel
theorem dX8_ring_52 : decode cX8_ring 52 = .ok (.aload_n 0, 1) := by decide +kernel
theorem dX8_ring_53 : decode cX8_ring 53 = .ok (.iload_n 1, 1) := by decide +kernel
theorem dX8_ring_54 : decode cX8_ring 54 = .ok (.iload_n 2, 1) := by decide +kernel
theorem dX8_ring_55 : decode cX8_ring 55 = .ok (.invokevirtual 234, 3) := by decide +kernel
theorem dX8_ring_58 : decode cX8_ring 58 = .ok (.if_icmp .ge 12, 3) := by decide +kernel
theorem dX8_ring_61 : decode cX8_ring 61 = .ok (.aload_n 0, 1) := by decide +kernel
theorem dX8_ring_62 : decode cX8_ring 62 = .ok (.getfield 61, 3) := by decide +kernel
theorem dX8_ring_65 : decode cX8_ring 65 = .ok (.iload_n 3, 1) := by decide +kernel
theorem dX8_ring_66 : decode cX8_ring 66 = .ok (.iaload, 1) := by decide +kernel
theorem dX8_ring_67 : decode cX8_ring 67 = .ok (.goto 4, 3) := by decide +kernel
theorem dX8_ring_70 : decode cX8_ring 70 = .ok (.iconst (-1), 1) := by decide +kernel
theorem dX8_ring_71 : decode cX8_ring 71 = .ok (.ireturn, 1) := by decide +kernel
set_option maxRecDepth 20000 in
theorem ggX8_turned_X8_in : GoodIn wsX8_turned wsX8_in := goodIn_r _ [8] (by decide +kernel) (by decide +kernel)
set_option maxRecDepth 20000 in
theorem gX8_turned_X8_in : GoodIn wsX8_turned (va_wsS RX8 64 yX8_in wsX8_in) := goodIn_app (goodIn_of _ (by decide +kernel)) ggX8_turned_X8_in
set_option maxRecDepth 20000 in
theorem ggX8_turned_X8_shapeOf : GoodIn wsX8_turned wsX8_shapeOf := goodIn_r _ [12, 13, 14, 15, 16, 17, 7, 18, 19, 20, 21, 22, 23, 24, 25, 26, 27, 28, 29, 30, 31, 32, 33, 34, 5, 6, 8, 35, 36, 37, 38, 39, 40, 41, 49, 50, 51, 52, 53, 54, 55, 56, 57, 58, 59, 60, 61, 62, 63, 64, 65, 66, 67, 68, 69, 70, 71, 72, 73, 74, 75, 76, 77, 78, 79, 80, 81, 82] (by decide +kernel) (by decide +kernel)
set_option maxRecDepth 20000 in
theorem gX8_turned_X8_shapeOf : GoodIn wsX8_turned (wsV RX8 228 RX8 yX8_shapeOf wsX8_shapeOf) := goodIn_app (goodIn_of _ (by decide +kernel)) ggX8_turned_X8_shapeOf
set_option maxRecDepth 20000 in
theorem ggX8_turned_X8_partOf : GoodIn wsX8_turned wsX8_partOf := goodIn_r _ [18, 19, 13, 14, 20, 21, 7, 22, 23, 24, 25, 26, 27, 28, 29, 30, 31, 32, 33, 34, 5, 6, 8, 35, 36, 37, 38, 49, 50, 51, 52, 53, 54, 55, 56, 57, 58, 59, 60, 61, 62, 63, 64, 65, 66, 67, 68, 69, 70, 71, 72, 73, 74, 75, 76, 77, 78, 79, 80, 81, 82] (by decide +kernel) (by decide +kernel)
set_option maxRecDepth 20000 in
theorem gX8_turned_X8_partOf : GoodIn wsX8_turned (wsV RX8 221 RX8 yX8_partOf wsX8_partOf) := goodIn_app (goodIn_of _ (by decide +kernel)) ggX8_turned_X8_partOf
set_option maxRecDepth 20000 in
theorem ggX8_turned_X8_has : GoodIn wsX8_turned wsX8_has := goodIn_r _ [22] (by decide +kernel) (by decide +kernel)
set_option maxRecDepth 20000 in
theorem gX8_turned_X8_has : GoodIn wsX8_turned (va_wsS RX8 126 yX8_has wsX8_has) := goodIn_app (goodIn_of _ (by decide +kernel)) ggX8_turned_X8_has
set_option maxRecDepth 20000 in
theorem ggX8_turned_X8_layRing : GoodIn wsX8_turned wsX8_layRing := goodIn_r _ [45, 4, 23, 24, 25, 7, 26, 19, 20, 21, 22, 27, 28, 29, 30, 13, 31, 32, 33, 34, 14, 5, 6, 8, 35, 36, 37, 38, 46, 47, 48, 49, 50, 51, 52, 53, 54, 55, 56, 57, 58, 59, 60, 61, 62, 63, 64, 65, 66, 67, 68, 69, 70, 71, 72, 73, 74, 75, 76, 77, 78, 79, 80, 81, 82] (by decide +kernel) (by decide +kernel)
set_option maxRecDepth 20000 in
theorem gX8_turned_X8_layRing : GoodIn wsX8_turned (wsV RX8 234 RX8 yX8_layRing wsX8_layRing) := goodIn_app (goodIn_of _ (by decide +kernel)) ggX8_turned_X8_layRing
theorem dX8_turned_0 : decode cX8_turned 0 = .ok (.iload_n 1, 1) := by decide +kernel
theorem dX8_turned_1 : decode cX8_turned 1 = .ok (.iconst 0, 1) := by decide +kernel
theorem dX8_turned_2 : decode cX8_turned 2 = .ok (.iconst 3, 1) := by decide +kernel
theorem dX8_turned_3 : decode cX8_turned 3 = .ok (.invokestatic 64, 3) := by decide +kernel
theorem dX8_turned_6 : decode cX8_turned 6 = .ok (.ifCond .ne 6, 3) := by decide +kernel
theorem dX8_turned_9 : decode cX8_turned 9 = .ok (.bipush (-3), 2) := by decide +kernel
theorem dX8_turned_11 : decode cX8_turned 11 = .ok (.ireturn, 1) := by decide +kernel
theorem dX8_turned_12 : decode cX8_turned 12 = .ok (.aload_n 0, 1) := by decide +kernel
theorem dX8_turned_13 : decode cX8_turned 13 = .ok (.getfield 68, 3) := by decide +kernel
theorem dX8_turned_16 : decode cX8_turned 16 = .ok (.ifCond .eq 18, 3) := by decide +kernel
theorem dX8_turned_19 : decode cX8_turned 19 = .ok (.aload_n 0, 1) := by decide +kernel
theorem dX8_turned_20 : decode cX8_turned 20 = .ok (.iload_n 1, 1) := by decide +kernel
theorem dX8_turned_21 : decode cX8_turned 21 = .ok (.aload_n 0, 1) := by decide +kernel
theorem dX8_turned_22 : decode cX8_turned 22 = .ok (.getfield 32, 3) := by decide +kernel
theorem dX8_turned_25 : decode cX8_turned 25 = .ok (.iconst 0, 1) := by decide +kernel
theorem dX8_turned_26 : decode cX8_turned 26 = .ok (.iaload, 1) := by decide +kernel
theorem dX8_turned_27 : decode cX8_turned 27 = .ok (.invokevirtual 228, 3) := by decide +kernel
theorem dX8_turned_30 : decode cX8_turned 30 = .ok (.iconst 2, 1) := by decide +kernel
theorem dX8_turned_31 : decode cX8_turned 31 = .ok (.if_icmp .eq 6, 3) := by decide +kernel
theorem dX8_turned_34 : decode cX8_turned 34 = .ok (.bipush (-4), 2) := by decide +kernel
theorem dX8_turned_36 : decode cX8_turned 36 = .ok (.ireturn, 1) := by decide +kernel
theorem dX8_turned_37 : decode cX8_turned 37 = .ok (.aload_n 0, 1) := by decide +kernel
theorem dX8_turned_38 : decode cX8_turned 38 = .ok (.iload_n 1, 1) := by decide +kernel
theorem dX8_turned_39 : decode cX8_turned 39 = .ok (.aload_n 0, 1) := by decide +kernel
theorem dX8_turned_40 : decode cX8_turned 40 = .ok (.getfield 32, 3) := by decide +kernel
theorem dX8_turned_43 : decode cX8_turned 43 = .ok (.iconst 0, 1) := by decide +kernel
theorem dX8_turned_44 : decode cX8_turned 44 = .ok (.iaload, 1) := by decide +kernel
theorem dX8_turned_45 : decode cX8_turned 45 = .ok (.invokevirtual 221, 3) := by decide +kernel
theorem dX8_turned_48 : decode cX8_turned 48 = .ok (.istore_n 2, 1) := by decide +kernel
theorem dX8_turned_49 : decode cX8_turned 49 = .ok (.iconst 1, 1) := by decide +kernel
theorem dX8_turned_50 : decode cX8_turned 50 = .ok (.istore_n 3, 1) := by decide +kernel
theorem dX8_turned_51 : decode cX8_turned 51 = .ok (.iconst 0, 1) := by decide +kernel
theorem dX8_turned_52 : decode cX8_turned 52 = .ok (.istore 4, 2) := by decide +kernel
theorem dX8_turned_54 : decode cX8_turned 54 = .ok (.iload 4, 2) := by decide +kernel
theorem dX8_turned_56 : decode cX8_turned 56 = .ok (.aload_n 0, 1) := by decide +kernel
theorem dX8_turned_57 : decode cX8_turned 57 = .ok (.getfield 68, 3) := by decide +kernel
theorem dX8_turned_60 : decode cX8_turned 60 = .ok (.if_icmp .ge 64, 3) := by decide +kernel
theorem dX8_turned_63 : decode cX8_turned 63 = .ok (.iload_n 3, 1) := by decide +kernel
theorem dX8_turned_64 : decode cX8_turned 64 = .ok (.ifCond .eq 52, 3) := by decide +kernel
theorem dX8_turned_67 : decode cX8_turned 67 = .ok (.aload_n 0, 1) := by decide +kernel
theorem dX8_turned_68 : decode cX8_turned 68 = .ok (.getfield 16, 3) := by decide +kernel
theorem dX8_turned_71 : decode cX8_turned 71 = .ok (.iconst 4, 1) := by decide +kernel
theorem dX8_turned_72 : decode cX8_turned 72 = .ok (.iload 4, 2) := by decide +kernel
theorem dX8_turned_74 : decode cX8_turned 74 = .ok (.imul, 1) := by decide +kernel
theorem dX8_turned_75 : decode cX8_turned 75 = .ok (.iaload, 1) := by decide +kernel
theorem dX8_turned_76 : decode cX8_turned 76 = .ok (.iload_n 1, 1) := by decide +kernel
theorem dX8_turned_77 : decode cX8_turned 77 = .ok (.if_icmp .ne 39, 3) := by decide +kernel
theorem dX8_turned_80 : decode cX8_turned 80 = .ok (.iload_n 2, 1) := by decide +kernel
theorem dX8_turned_81 : decode cX8_turned 81 = .ok (.aload_n 0, 1) := by decide +kernel
theorem dX8_turned_82 : decode cX8_turned 82 = .ok (.getfield 32, 3) := by decide +kernel
theorem dX8_turned_85 : decode cX8_turned 85 = .ok (.iload 4, 2) := by decide +kernel
theorem dX8_turned_87 : decode cX8_turned 87 = .ok (.iaload, 1) := by decide +kernel
theorem dX8_turned_88 : decode cX8_turned 88 = .ok (.invokestatic 126, 3) := by decide +kernel
theorem dX8_turned_91 : decode cX8_turned 91 = .ok (.ifCond .eq 25, 3) := by decide +kernel
theorem dX8_turned_94 : decode cX8_turned 94 = .ok (.iload_n 2, 1) := by decide +kernel
theorem dX8_turned_95 : decode cX8_turned 95 = .ok (.aload_n 0, 1) := by decide +kernel
theorem dX8_turned_96 : decode cX8_turned 96 = .ok (.getfield 16, 3) := by decide +kernel
theorem dX8_turned_99 : decode cX8_turned 99 = .ok (.iconst 4, 1) := by decide +kernel
theorem dX8_turned_100 : decode cX8_turned 100 = .ok (.iload 4, 2) := by decide +kernel
theorem dX8_turned_102 : decode cX8_turned 102 = .ok (.imul, 1) := by decide +kernel
theorem dX8_turned_103 : decode cX8_turned 103 = .ok (.iconst 3, 1) := by decide +kernel
theorem dX8_turned_104 : decode cX8_turned 104 = .ok (.iadd, 1) := by decide +kernel
theorem dX8_turned_105 : decode cX8_turned 105 = .ok (.iaload, 1) := by decide +kernel
theorem dX8_turned_106 : decode cX8_turned 106 = .ok (.invokestatic 126, 3) := by decide +kernel
theorem dX8_turned_109 : decode cX8_turned 109 = .ok (.ifCond .eq 7, 3) := by decide +kernel
theorem dX8_turned_112 : decode cX8_turned 112 = .ok (.iconst 1, 1) := by decide +kernel
theorem dX8_turned_113 : decode cX8_turned 113 = .ok (.goto 4, 3) := by decide +kernel
theorem dX8_turned_116 : decode cX8_turned 116 = .ok (.iconst 0, 1) := by decide +kernel
theorem dX8_turned_117 : decode cX8_turned 117 = .ok (.istore_n 3, 1) := by decide +kernel
theorem dX8_turned_118 : decode cX8_turned 118 = .ok (.iinc 4 1, 3) := by decide +kernel
theorem dX8_turned_121 : decode cX8_turned 121 = .ok (.goto (-67), 3) := by decide +kernel
theorem dX8_turned_124 : decode cX8_turned 124 = .ok (.iload_n 3, 1) := by decide +kernel
theorem dX8_turned_125 : decode cX8_turned 125 = .ok (.ifCond .ne 6, 3) := by decide +kernel
theorem dX8_turned_128 : decode cX8_turned 128 = .ok (.bipush (-4), 2) := by decide +kernel
theorem dX8_turned_130 : decode cX8_turned 130 = .ok (.ireturn, 1) := by decide +kernel
theorem dX8_turned_131 : decode cX8_turned 131 = .ok (.aload_n 0, 1) := by decide +kernel
theorem dX8_turned_132 : decode cX8_turned 132 = .ok (.iload_n 1, 1) := by decide +kernel
theorem dX8_turned_133 : decode cX8_turned 133 = .ok (.aload_n 0, 1) := by decide +kernel
theorem dX8_turned_134 : decode cX8_turned 134 = .ok (.getfield 32, 3) := by decide +kernel
theorem dX8_turned_137 : decode cX8_turned 137 = .ok (.iconst 0, 1) := by decide +kernel
theorem dX8_turned_138 : decode cX8_turned 138 = .ok (.iaload, 1) := by decide +kernel
theorem dX8_turned_139 : decode cX8_turned 139 = .ok (.invokevirtual 234, 3) := by decide +kernel
theorem dX8_turned_142 : decode cX8_turned 142 = .ok (.istore 4, 2) := by decide +kernel
theorem dX8_turned_144 : decode cX8_turned 144 = .ok (.iconst 0, 1) := by decide +kernel
theorem dX8_turned_145 : decode cX8_turned 145 = .ok (.istore 5, 2) := by decide +kernel
theorem dX8_turned_147 : decode cX8_turned 147 = .ok (.iconst 0, 1) := by decide +kernel
theorem dX8_turned_148 : decode cX8_turned 148 = .ok (.istore 6, 2) := by decide +kernel
theorem dX8_turned_150 : decode cX8_turned 150 = .ok (.iload 6, 2) := by decide +kernel
theorem dX8_turned_152 : decode cX8_turned 152 = .ok (.iload 4, 2) := by decide +kernel
theorem dX8_turned_154 : decode cX8_turned 154 = .ok (.if_icmp .ge 34, 3) := by decide +kernel
theorem dX8_turned_157 : decode cX8_turned 157 = .ok (.aload_n 0, 1) := by decide +kernel
theorem dX8_turned_158 : decode cX8_turned 158 = .ok (.getfield 61, 3) := by decide +kernel
theorem dX8_turned_161 : decode cX8_turned 161 = .ok (.iload 6, 2) := by decide +kernel
theorem dX8_turned_163 : decode cX8_turned 163 = .ok (.iaload, 1) := by decide +kernel
theorem dX8_turned_164 : decode cX8_turned 164 = .ok (.aload_n 0, 1) := by decide +kernel
theorem dX8_turned_165 : decode cX8_turned 165 = .ok (.getfield 16, 3) := by decide +kernel
theorem dX8_turned_168 : decode cX8_turned 168 = .ok (.iconst 3, 1) := by decide +kernel
theorem dX8_turned_169 : decode cX8_turned 169 = .ok (.iaload, 1) := by decide +kernel
theorem dX8_turned_170 : decode cX8_turned 170 = .ok (.if_icmp .ne 8, 3) := by decide +kernel
theorem dX8_turned_173 : decode cX8_turned 173 = .ok (.iload 6, 2) := by decide +kernel
theorem dX8_turned_175 : decode cX8_turned 175 = .ok (.goto 5, 3) := by decide +kernel
theorem dX8_turned_178 : decode cX8_turned 178 = .ok (.iload 5, 2) := by decide +kernel
theorem dX8_turned_180 : decode cX8_turned 180 = .ok (.istore 5, 2) := by decide +kernel
theorem dX8_turned_182 : decode cX8_turned 182 = .ok (.iinc 6 1, 3) := by decide +kernel
theorem dX8_turned_185 : decode cX8_turned 185 = .ok (.goto (-35), 3) := by decide +kernel
theorem dX8_turned_188 : decode cX8_turned 188 = .ok (.iconst (-1), 1) := by decide +kernel
theorem dX8_turned_189 : decode cX8_turned 189 = .ok (.istore 6, 2) := by decide +kernel
theorem dX8_turned_191 : decode cX8_turned 191 = .ok (.iconst 1, 1) := by decide +kernel
theorem dX8_turned_192 : decode cX8_turned 192 = .ok (.istore 7, 2) := by decide +kernel
theorem dX8_turned_194 : decode cX8_turned 194 = .ok (.iconst 0, 1) := by decide +kernel
theorem dX8_turned_195 : decode cX8_turned 195 = .ok (.istore 8, 2) := by decide +kernel
theorem dX8_turned_197 : decode cX8_turned 197 = .ok (.iload 8, 2) := by decide +kernel
theorem dX8_turned_199 : decode cX8_turned 199 = .ok (.iload 4, 2) := by decide +kernel
theorem dX8_turned_201 : decode cX8_turned 201 = .ok (.if_icmp .ge 122, 3) := by decide +kernel
theorem dX8_turned_204 : decode cX8_turned 204 = .ok (.iconst 0, 1) := by decide +kernel
theorem dX8_turned_205 : decode cX8_turned 205 = .ok (.istore 9, 2) := by decide +kernel
theorem dX8_turned_207 : decode cX8_turned 207 = .ok (.iload 9, 2) := by decide +kernel
theorem dX8_turned_209 : decode cX8_turned 209 = .ok (.aload_n 0, 1) := by decide +kernel
theorem dX8_turned_210 : decode cX8_turned 210 = .ok (.getfield 68, 3) := by decide +kernel
theorem dX8_turned_213 : decode cX8_turned 213 = .ok (.if_icmp .ge 104, 3) := by decide +kernel
theorem dX8_turned_216 : decode cX8_turned 216 = .ok (.aload_n 0, 1) := by decide +kernel
theorem dX8_turned_217 : decode cX8_turned 217 = .ok (.getfield 32, 3) := by decide +kernel
theorem dX8_turned_220 : decode cX8_turned 220 = .ok (.iload 9, 2) := by decide +kernel
theorem dX8_turned_222 : decode cX8_turned 222 = .ok (.iaload, 1) := by decide +kernel
theorem dX8_turned_223 : decode cX8_turned 223 = .ok (.aload_n 0, 1) := by decide +kernel
theorem dX8_turned_224 : decode cX8_turned 224 = .ok (.getfield 61, 3) := by decide +kernel
theorem dX8_turned_227 : decode cX8_turned 227 = .ok (.iload 8, 2) := by decide +kernel
theorem dX8_turned_229 : decode cX8_turned 229 = .ok (.iaload, 1) := by decide +kernel
theorem dX8_turned_230 : decode cX8_turned 230 = .ok (.if_icmp .ne 81, 3) := by decide +kernel
theorem dX8_turned_233 : decode cX8_turned 233 = .ok (.iconst 0, 1) := by decide +kernel
theorem dX8_turned_234 : decode cX8_turned 234 = .ok (.istore 10, 2) := by decide +kernel
theorem dX8_turned_236 : decode cX8_turned 236 = .ok (.iconst 0, 1) := by decide +kernel
theorem dX8_turned_237 : decode cX8_turned 237 = .ok (.istore 11, 2) := by decide +kernel
theorem dX8_turned_239 : decode cX8_turned 239 = .ok (.iload 11, 2) := by decide +kernel
theorem dX8_turned_241 : decode cX8_turned 241 = .ok (.iload 4, 2) := by decide +kernel
theorem dX8_turned_243 : decode cX8_turned 243 = .ok (.if_icmp .ge 45, 3) := by decide +kernel
theorem dX8_turned_246 : decode cX8_turned 246 = .ok (.aload_n 0, 1) := by decide +kernel
theorem dX8_turned_247 : decode cX8_turned 247 = .ok (.getfield 61, 3) := by decide +kernel
theorem dX8_turned_250 : decode cX8_turned 250 = .ok (.iload 5, 2) := by decide +kernel
theorem dX8_turned_252 : decode cX8_turned 252 = .ok (.iload 11, 2) := by decide +kernel
theorem dX8_turned_254 : decode cX8_turned 254 = .ok (.iadd, 1) := by decide +kernel
theorem dX8_turned_255 : decode cX8_turned 255 = .ok (.iload 4, 2) := by decide +kernel
theorem dX8_turned_257 : decode cX8_turned 257 = .ok (.irem, 1) := by decide +kernel
theorem dX8_turned_258 : decode cX8_turned 258 = .ok (.iaload, 1) := by decide +kernel
theorem dX8_turned_259 : decode cX8_turned 259 = .ok (.aload_n 0, 1) := by decide +kernel
theorem dX8_turned_260 : decode cX8_turned 260 = .ok (.getfield 16, 3) := by decide +kernel
theorem dX8_turned_263 : decode cX8_turned 263 = .ok (.iconst 4, 1) := by decide +kernel
theorem dX8_turned_264 : decode cX8_turned 264 = .ok (.iload 9, 2) := by decide +kernel
theorem dX8_turned_266 : decode cX8_turned 266 = .ok (.imul, 1) := by decide +kernel
theorem dX8_turned_267 : decode cX8_turned 267 = .ok (.iconst 3, 1) := by decide +kernel
theorem dX8_turned_268 : decode cX8_turned 268 = .ok (.iadd, 1) := by decide +kernel
theorem dX8_turned_269 : decode cX8_turned 269 = .ok (.iaload, 1) := by decide +kernel
theorem dX8_turned_270 : decode cX8_turned 270 = .ok (.if_icmp .ne 8, 3) := by decide +kernel
theorem dX8_turned_273 : decode cX8_turned 273 = .ok (.iload 11, 2) := by decide +kernel
theorem dX8_turned_275 : decode cX8_turned 275 = .ok (.goto 5, 3) := by decide +kernel
theorem dX8_turned_278 : decode cX8_turned 278 = .ok (.iload 10, 2) := by decide +kernel
theorem dX8_turned_280 : decode cX8_turned 280 = .ok (.istore 10, 2) := by decide +kernel
theorem dX8_turned_282 : decode cX8_turned 282 = .ok (.iinc 11 1, 3) := by decide +kernel
theorem dX8_turned_285 : decode cX8_turned 285 = .ok (.goto (-46), 3) := by decide +kernel
theorem dX8_turned_288 : decode cX8_turned 288 = .ok (.iload 7, 2) := by decide +kernel
theorem dX8_turned_290 : decode cX8_turned 290 = .ok (.ifCond .eq 14, 3) := by decide +kernel
theorem dX8_turned_293 : decode cX8_turned 293 = .ok (.iload 10, 2) := by decide +kernel
theorem dX8_turned_295 : decode cX8_turned 295 = .ok (.iload 6, 2) := by decide +kernel
theorem dX8_turned_297 : decode cX8_turned 297 = .ok (.if_icmp .le 7, 3) := by decide +kernel
theorem dX8_turned_300 : decode cX8_turned 300 = .ok (.iconst 1, 1) := by decide +kernel
theorem dX8_turned_301 : decode cX8_turned 301 = .ok (.goto 4, 3) := by decide +kernel
theorem dX8_turned_304 : decode cX8_turned 304 = .ok (.iconst 0, 1) := by decide +kernel
theorem dX8_turned_305 : decode cX8_turned 305 = .ok (.istore 7, 2) := by decide +kernel
theorem dX8_turned_307 : decode cX8_turned 307 = .ok (.iload 10, 2) := by decide +kernel
theorem dX8_turned_309 : decode cX8_turned 309 = .ok (.istore 6, 2) := by decide +kernel
theorem dX8_turned_311 : decode cX8_turned 311 = .ok (.iinc 9 1, 3) := by decide +kernel
theorem dX8_turned_314 : decode cX8_turned 314 = .ok (.goto (-107), 3) := by decide +kernel
theorem dX8_turned_317 : decode cX8_turned 317 = .ok (.iinc 8 1, 3) := by decide +kernel
theorem dX8_turned_320 : decode cX8_turned 320 = .ok (.goto (-123), 3) := by decide +kernel
theorem dX8_turned_323 : decode cX8_turned 323 = .ok (.iload 7, 2) := by decide +kernel
theorem dX8_turned_325 : decode cX8_turned 325 = .ok (.ifCond .eq 7, 3) := by decide +kernel
theorem dX8_turned_328 : decode cX8_turned 328 = .ok (.iconst 1, 1) := by decide +kernel
theorem dX8_turned_329 : decode cX8_turned 329 = .ok (.goto 4, 3) := by decide +kernel
theorem dX8_turned_332 : decode cX8_turned 332 = .ok (.iconst 0, 1) := by decide +kernel
theorem dX8_turned_333 : decode cX8_turned 333 = .ok (.ireturn, 1) := by decide +kernel
theorem dX8_codeOf_0 : decode cX8_codeOf 0 = .ok (.iconst 0, 1) := by decide +kernel
theorem dX8_codeOf_1 : decode cX8_codeOf 1 = .ok (.istore_n 3, 1) := by decide +kernel
theorem dX8_codeOf_2 : decode cX8_codeOf 2 = .ok (.aload_n 0, 1) := by decide +kernel
theorem dX8_codeOf_3 : decode cX8_codeOf 3 = .ok (.getfield 68, 3) := by decide +kernel
theorem dX8_codeOf_6 : decode cX8_codeOf 6 = .ok (.iconst 1, 1) := by decide +kernel
theorem dX8_codeOf_7 : decode cX8_codeOf 7 = .ok (.isub, 1) := by decide +kernel
theorem dX8_codeOf_8 : decode cX8_codeOf 8 = .ok (.istore 4, 2) := by decide +kernel
theorem dX8_codeOf_10 : decode cX8_codeOf 10 = .ok (.iload 4, 2) := by decide +kernel
theorem dX8_codeOf_12 : decode cX8_codeOf 12 = .ok (.ifCond .lt 19, 3) := by decide +kernel
theorem dX8_codeOf_15 : decode cX8_codeOf 15 = .ok (.bipush 12, 2) := by decide +kernel
theorem dX8_codeOf_17 : decode cX8_codeOf 17 = .ok (.iload_n 3, 1) := by decide +kernel
theorem dX8_codeOf_18 : decode cX8_codeOf 18 = .ok (.imul, 1) := by decide +kernel
theorem dX8_codeOf_19 : decode cX8_codeOf 19 = .ok (.aload_n 1, 1) := by decide +kernel
theorem dX8_codeOf_20 : decode cX8_codeOf 20 = .ok (.iload 4, 2) := by decide +kernel
theorem dX8_codeOf_22 : decode cX8_codeOf 22 = .ok (.iaload, 1) := by decide +kernel
theorem dX8_codeOf_23 : decode cX8_codeOf 23 = .ok (.iadd, 1) := by decide +kernel
theorem dX8_codeOf_24 : decode cX8_codeOf 24 = .ok (.istore_n 3, 1) := by decide +kernel
theorem dX8_codeOf_25 : decode cX8_codeOf 25 = .ok (.iinc 4 (-1), 3) := by decide +kernel
theorem dX8_codeOf_28 : decode cX8_codeOf 28 = .ok (.goto (-18), 3) := by decide +kernel
theorem dX8_codeOf_31 : decode cX8_codeOf 31 = .ok (.iload_n 3, 1) := by decide +kernel
theorem dX8_codeOf_32 : decode cX8_codeOf 32 = .ok (.aload_n 0, 1) := by decide +kernel
theorem dX8_codeOf_33 : decode cX8_codeOf 33 = .ok (.getfield 176, 3) := by decide +kernel
theorem dX8_codeOf_36 : decode cX8_codeOf 36 = .ok (.iconst 1, 1) := by decide +kernel
theorem dX8_codeOf_37 : decode cX8_codeOf 37 = .ok (.if_icmp .ne 11, 3) := by decide +kernel
theorem dX8_codeOf_40 : decode cX8_codeOf 40 = .ok (.iload_n 2, 1) := by decide +kernel
theorem dX8_codeOf_41 : decode cX8_codeOf 41 = .ok (.sipush 20736, 3) := by decide +kernel
theorem dX8_codeOf_44 : decode cX8_codeOf 44 = .ok (.imul, 1) := by decide +kernel
theorem dX8_codeOf_45 : decode cX8_codeOf 45 = .ok (.goto 4, 3) := by decide +kernel
theorem dX8_codeOf_48 : decode cX8_codeOf 48 = .ok (.iconst 0, 1) := by decide +kernel
theorem dX8_codeOf_49 : decode cX8_codeOf 49 = .ok (.iadd, 1) := by decide +kernel
theorem dX8_codeOf_50 : decode cX8_codeOf 50 = .ok (.ireturn, 1) := by decide +kernel
theorem dX8_place_0 : decode cX8_place 0 = .ok (.iload_n 1, 1) := by decide +kernel
theorem dX8_place_1 : decode cX8_place 1 = .ok (.sipush 20736, 3) := by decide +kernel
theorem dX8_place_4 : decode cX8_place 4 = .ok (.irem, 1) := by decide +kernel
theorem dX8_place_5 : decode cX8_place 5 = .ok (.istore_n 2, 1) := by decide +kernel
theorem dX8_place_6 : decode cX8_place 6 = .ok (.iconst 0, 1) := by decide +kernel
theorem dX8_place_7 : decode cX8_place 7 = .ok (.istore_n 3, 1) := by decide +kernel
theorem dX8_place_8 : decode cX8_place 8 = .ok (.iload_n 3, 1) := by decide +kernel
theorem dX8_place_9 : decode cX8_place 9 = .ok (.aload_n 0, 1) := by decide +kernel
theorem dX8_place_10 : decode cX8_place 10 = .ok (.getfield 68, 3) := by decide +kernel
theorem dX8_place_13 : decode cX8_place 13 = .ok (.if_icmp .ge 24, 3) := by decide +kernel
theorem dX8_place_16 : decode cX8_place 16 = .ok (.aload_n 0, 1) := by decide +kernel
theorem dX8_place_17 : decode cX8_place 17 = .ok (.getfield 58, 3) := by decide +kernel
theorem dX8_place_20 : decode cX8_place 20 = .ok (.iload_n 3, 1) := by decide +kernel
theorem dX8_place_21 : decode cX8_place 21 = .ok (.iload_n 2, 1) := by decide +kernel
theorem dX8_place_22 : decode cX8_place 22 = .ok (.bipush 12, 2) := by decide +kernel
theorem dX8_place_24 : decode cX8_place 24 = .ok (.irem, 1) := by decide +kernel
theorem dX8_place_25 : decode cX8_place 25 = .ok (.iastore, 1) := by decide +kernel
theorem dX8_place_26 : decode cX8_place 26 = .ok (.iload_n 2, 1) := by decide +kernel
theorem dX8_place_27 : decode cX8_place 27 = .ok (.bipush 12, 2) := by decide +kernel
theorem dX8_place_29 : decode cX8_place 29 = .ok (.idiv, 1) := by decide +kernel
theorem dX8_place_30 : decode cX8_place 30 = .ok (.istore_n 2, 1) := by decide +kernel
theorem dX8_place_31 : decode cX8_place 31 = .ok (.iinc 3 1, 3) := by decide +kernel
theorem dX8_place_34 : decode cX8_place 34 = .ok (.goto (-26), 3) := by decide +kernel
theorem dX8_place_37 : decode cX8_place 37 = .ok (.return_, 1) := by decide +kernel
set_option maxRecDepth 20000 in
theorem ggX8_layLine_X8_codeOf : GoodIn wsX8_layLine wsX8_codeOf := goodIn_r _ [17, 7, 18, 55, 56, 57, 58, 59, 60, 61, 62, 63, 64, 65, 66, 67, 68, 69, 70, 71, 72, 73, 74, 75, 76, 77, 78, 79, 80, 81, 82, 83, 84, 85, 86, 87, 88] (by decide +kernel) (by decide +kernel)
set_option maxRecDepth 20000 in
theorem gX8_layLine_X8_codeOf : GoodIn wsX8_layLine (wsV RX8 237 RX8 yX8_codeOf wsX8_codeOf) := goodIn_app (goodIn_of _ (by decide +kernel)) ggX8_layLine_X8_codeOf
set_option maxRecDepth 20000 in
theorem ggX8_layLine_X8_place : GoodIn wsX8_layLine wsX8_place := goodIn_r _ [22, 7, 8, 55, 56, 57, 58, 59, 60, 61, 62, 63, 64, 65, 66, 67, 68, 69, 70, 71, 72, 73, 74, 75, 76, 77, 78, 79, 80, 81, 82, 83, 84, 85, 86, 87, 88] (by decide +kernel) (by decide +kernel)
set_option maxRecDepth 20000 in
theorem gX8_layLine_X8_place : GoodIn wsX8_layLine (wsV RX8 244 RX8 yX8_place wsX8_place) := goodIn_app (goodIn_of _ (by decide +kernel)) ggX8_layLine_X8_place
set_option maxRecDepth 20000 in
theorem ggX8_layLine_X8_mayOf : GoodIn wsX8_layLine wsX8_mayOf := goodIn_r _ [26, 18, 27, 9, 10, 28, 29, 30, 16, 31, 7, 32, 33, 34, 35, 36, 37, 38, 39, 40, 41, 42, 43, 44, 45, 46, 47, 48, 49, 50, 51, 52, 53, 54, 55, 56, 57, 58, 59, 60, 61, 62, 63, 64, 65, 66, 67, 68, 69, 70, 71, 72, 73, 74, 75, 76, 77, 78, 79, 80, 81, 82, 83, 84, 85, 86, 87, 88] (by decide +kernel) (by decide +kernel)
set_option maxRecDepth 20000 in
theorem gX8_layLine_X8_mayOf : GoodIn wsX8_layLine (wsV RX8 213 RX8 yX8_mayOf wsX8_mayOf) := goodIn_app (goodIn_of _ (by decide +kernel)) ggX8_layLine_X8_mayOf
set_option maxRecDepth 20000 in
theorem ggX8_layLine_X8_has : GoodIn wsX8_layLine wsX8_has := goodIn_r _ [46] (by decide +kernel) (by decide +kernel)
set_option maxRecDepth 20000 in
theorem gX8_layLine_X8_has : GoodIn wsX8_layLine (va_wsS RX8 126 yX8_has wsX8_has) := goodIn_app (goodIn_of _ (by decide +kernel)) ggX8_layLine_X8_has
theorem dX8_layLine_0 : decode cX8_layLine 0 = .ok (.iconst 0, 1) := by decide +kernel
theorem dX8_layLine_1 : decode cX8_layLine 1 = .ok (.istore_n 1, 1) := by decide +kernel
theorem dX8_layLine_2 : decode cX8_layLine 2 = .ok (.iload_n 1, 1) := by decide +kernel
theorem dX8_layLine_3 : decode cX8_layLine 3 = .ok (.ldc 45, 2) := by decide +kernel
theorem dX8_layLine_5 : decode cX8_layLine 5 = .ok (.if_icmp .ge 16, 3) := by decide +kernel
theorem dX8_layLine_8 : decode cX8_layLine 8 = .ok (.aload_n 0, 1) := by decide +kernel
theorem dX8_layLine_9 : decode cX8_layLine 9 = .ok (.getfield 46, 3) := by decide +kernel
theorem dX8_layLine_12 : decode cX8_layLine 12 = .ok (.iload_n 1, 1) := by decide +kernel
theorem dX8_layLine_13 : decode cX8_layLine 13 = .ok (.iconst (-1), 1) := by decide +kernel
theorem dX8_layLine_14 : decode cX8_layLine 14 = .ok (.iastore, 1) := by decide +kernel
theorem dX8_layLine_15 : decode cX8_layLine 15 = .ok (.iinc 1 1, 3) := by decide +kernel
theorem dX8_layLine_18 : decode cX8_layLine 18 = .ok (.goto (-16), 3) := by decide +kernel
theorem dX8_layLine_21 : decode cX8_layLine 21 = .ok (.aload_n 0, 1) := by decide +kernel
theorem dX8_layLine_22 : decode cX8_layLine 22 = .ok (.aload_n 0, 1) := by decide +kernel
theorem dX8_layLine_23 : decode cX8_layLine 23 = .ok (.getfield 32, 3) := by decide +kernel
theorem dX8_layLine_26 : decode cX8_layLine 26 = .ok (.aload_n 0, 1) := by decide +kernel
theorem dX8_layLine_27 : decode cX8_layLine 27 = .ok (.getfield 183, 3) := by decide +kernel
theorem dX8_layLine_30 : decode cX8_layLine 30 = .ok (.iconst 2, 1) := by decide +kernel
theorem dX8_layLine_31 : decode cX8_layLine 31 = .ok (.irem, 1) := by decide +kernel
theorem dX8_layLine_32 : decode cX8_layLine 32 = .ok (.invokevirtual 237, 3) := by decide +kernel
theorem dX8_layLine_35 : decode cX8_layLine 35 = .ok (.istore_n 1, 1) := by decide +kernel
theorem dX8_layLine_36 : decode cX8_layLine 36 = .ok (.aload_n 0, 1) := by decide +kernel
theorem dX8_layLine_37 : decode cX8_layLine 37 = .ok (.getfield 46, 3) := by decide +kernel
theorem dX8_layLine_40 : decode cX8_layLine 40 = .ok (.iload_n 1, 1) := by decide +kernel
theorem dX8_layLine_41 : decode cX8_layLine 41 = .ok (.iconst 0, 1) := by decide +kernel
theorem dX8_layLine_42 : decode cX8_layLine 42 = .ok (.iastore, 1) := by decide +kernel
theorem dX8_layLine_43 : decode cX8_layLine 43 = .ok (.aload_n 0, 1) := by decide +kernel
theorem dX8_layLine_44 : decode cX8_layLine 44 = .ok (.getfield 49, 3) := by decide +kernel
theorem dX8_layLine_47 : decode cX8_layLine 47 = .ok (.iconst 0, 1) := by decide +kernel
theorem dX8_layLine_48 : decode cX8_layLine 48 = .ok (.iload_n 1, 1) := by decide +kernel
theorem dX8_layLine_49 : decode cX8_layLine 49 = .ok (.iastore, 1) := by decide +kernel
theorem dX8_layLine_50 : decode cX8_layLine 50 = .ok (.aload_n 0, 1) := by decide +kernel
theorem dX8_layLine_51 : decode cX8_layLine 51 = .ok (.iconst 1, 1) := by decide +kernel
theorem dX8_layLine_52 : decode cX8_layLine 52 = .ok (.putfield 241, 3) := by decide +kernel
theorem dX8_layLine_55 : decode cX8_layLine 55 = .ok (.iconst 0, 1) := by decide +kernel
theorem dX8_layLine_56 : decode cX8_layLine 56 = .ok (.istore_n 2, 1) := by decide +kernel
