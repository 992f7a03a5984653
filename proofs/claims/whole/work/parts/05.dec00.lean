theorem dX0_init_0 : decode cX0_init 0 = .ok (.aload_n 0, 1) := by decide +kernel
theorem dX0_init_1 : decode cX0_init 1 = .ok (.invokespecial 3, 3) := by decide +kernel
theorem dX0_init_4 : decode cX0_init 4 = .ok (.aload_n 0, 1) := by decide +kernel
theorem dX0_init_5 : decode cX0_init 5 = .ok (.sipush 192, 3) := by decide +kernel
theorem dX0_init_8 : decode cX0_init 8 = .ok (.newarray .int, 2) := by decide +kernel
theorem dX0_init_10 : decode cX0_init 10 = .ok (.putfield 11, 3) := by decide +kernel
theorem dX0_init_13 : decode cX0_init 13 = .ok (.return_, 1) := by decide +kernel
set_option maxRecDepth 20000 in
theorem ggX0_lay_J7_fill_53178 : GoodIn wsX0_lay wsJ7_fill_53178 := goodIn_r _ [7] (by decide +kernel) (by decide +kernel)
set_option maxRecDepth 20000 in
theorem gX0_lay_J7_fill_53178 : GoodIn wsX0_lay (va_wsS RX0 15 yJ7_fill_53178 wsJ7_fill_53178) := goodIn_app (goodIn_of _ (by decide +kernel)) ggX0_lay_J7_fill_53178
theorem dX0_lay_0 : decode cX0_lay 0 = .ok (.aload_n 0, 1) := by decide +kernel
theorem dX0_lay_1 : decode cX0_lay 1 = .ok (.getfield 11, 3) := by decide +kernel
theorem dX0_lay_4 : decode cX0_lay 4 = .ok (.iconst (-1), 1) := by decide +kernel
theorem dX0_lay_5 : decode cX0_lay 5 = .ok (.invokestatic 15, 3) := by decide +kernel
theorem dX0_lay_8 : decode cX0_lay 8 = .ok (.iload_n 1, 1) := by decide +kernel
theorem dX0_lay_9 : decode cX0_lay 9 = .ok (.iconst 1, 1) := by decide +kernel
theorem dX0_lay_10 : decode cX0_lay 10 = .ok (.if_icmp .ge 4, 3) := by decide +kernel
theorem dX0_lay_13 : decode cX0_lay 13 = .ok (.return_, 1) := by decide +kernel
theorem dX0_lay_14 : decode cX0_lay 14 = .ok (.iconst 0, 1) := by decide +kernel
theorem dX0_lay_15 : decode cX0_lay 15 = .ok (.istore_n 3, 1) := by decide +kernel
theorem dX0_lay_16 : decode cX0_lay 16 = .ok (.iload_n 3, 1) := by decide +kernel
theorem dX0_lay_17 : decode cX0_lay 17 = .ok (.iload_n 1, 1) := by decide +kernel
theorem dX0_lay_18 : decode cX0_lay 18 = .ok (.iload_n 2, 1) := by decide +kernel
theorem dX0_lay_19 : decode cX0_lay 19 = .ok (.imul, 1) := by decide +kernel
theorem dX0_lay_20 : decode cX0_lay 20 = .ok (.if_icmp .ge 108, 3) := by decide +kernel
theorem dX0_lay_23 : decode cX0_lay 23 = .ok (.iload_n 3, 1) := by decide +kernel
theorem dX0_lay_24 : decode cX0_lay 24 = .ok (.bipush 12, 2) := by decide +kernel
theorem dX0_lay_26 : decode cX0_lay 26 = .ok (.if_icmp .ge 102, 3) := by decide +kernel
theorem dX0_lay_29 : decode cX0_lay 29 = .ok (.iconst 0, 1) := by decide +kernel
theorem dX0_lay_30 : decode cX0_lay 30 = .ok (.istore 4, 2) := by decide +kernel
theorem dX0_lay_32 : decode cX0_lay 32 = .ok (.iload 4, 2) := by decide +kernel
theorem dX0_lay_34 : decode cX0_lay 34 = .ok (.bipush 16, 2) := by decide +kernel
theorem dX0_lay_36 : decode cX0_lay 36 = .ok (.if_icmp .ge 86, 3) := by decide +kernel
theorem dX0_lay_39 : decode cX0_lay 39 = .ok (.iload_n 3, 1) := by decide +kernel
theorem dX0_lay_40 : decode cX0_lay 40 = .ok (.iload_n 1, 1) := by decide +kernel
theorem dX0_lay_41 : decode cX0_lay 41 = .ok (.irem, 1) := by decide +kernel
theorem dX0_lay_42 : decode cX0_lay 42 = .ok (.getstatic 21, 3) := by decide +kernel
theorem dX0_lay_45 : decode cX0_lay 45 = .ok (.iload 4, 2) := by decide +kernel
theorem dX0_lay_47 : decode cX0_lay 47 = .ok (.iaload, 1) := by decide +kernel
theorem dX0_lay_48 : decode cX0_lay 48 = .ok (.iadd, 1) := by decide +kernel
theorem dX0_lay_49 : decode cX0_lay 49 = .ok (.istore 5, 2) := by decide +kernel
theorem dX0_lay_51 : decode cX0_lay 51 = .ok (.iload_n 3, 1) := by decide +kernel
theorem dX0_lay_52 : decode cX0_lay 52 = .ok (.iload_n 1, 1) := by decide +kernel
theorem dX0_lay_53 : decode cX0_lay 53 = .ok (.idiv, 1) := by decide +kernel
theorem dX0_lay_54 : decode cX0_lay 54 = .ok (.getstatic 24, 3) := by decide +kernel
theorem dX0_lay_57 : decode cX0_lay 57 = .ok (.iload 4, 2) := by decide +kernel
theorem dX0_lay_59 : decode cX0_lay 59 = .ok (.iaload, 1) := by decide +kernel
theorem dX0_lay_60 : decode cX0_lay 60 = .ok (.iadd, 1) := by decide +kernel
theorem dX0_lay_61 : decode cX0_lay 61 = .ok (.istore 6, 2) := by decide +kernel
theorem dX0_lay_63 : decode cX0_lay 63 = .ok (.iload 5, 2) := by decide +kernel
theorem dX0_lay_65 : decode cX0_lay 65 = .ok (.ifCond .lt 24, 3) := by decide +kernel
theorem dX0_lay_68 : decode cX0_lay 68 = .ok (.iload 5, 2) := by decide +kernel
theorem dX0_lay_70 : decode cX0_lay 70 = .ok (.iload_n 1, 1) := by decide +kernel
theorem dX0_lay_71 : decode cX0_lay 71 = .ok (.if_icmp .ge 18, 3) := by decide +kernel
theorem dX0_lay_74 : decode cX0_lay 74 = .ok (.iload 6, 2) := by decide +kernel
theorem dX0_lay_76 : decode cX0_lay 76 = .ok (.ifCond .lt 13, 3) := by decide +kernel
theorem dX0_lay_79 : decode cX0_lay 79 = .ok (.iload 6, 2) := by decide +kernel
theorem dX0_lay_81 : decode cX0_lay 81 = .ok (.iload_n 2, 1) := by decide +kernel
theorem dX0_lay_82 : decode cX0_lay 82 = .ok (.if_icmp .ge 7, 3) := by decide +kernel
theorem dX0_lay_85 : decode cX0_lay 85 = .ok (.iconst 1, 1) := by decide +kernel
theorem dX0_lay_86 : decode cX0_lay 86 = .ok (.goto 4, 3) := by decide +kernel
theorem dX0_lay_89 : decode cX0_lay 89 = .ok (.iconst 0, 1) := by decide +kernel
theorem dX0_lay_90 : decode cX0_lay 90 = .ok (.istore 7, 2) := by decide +kernel
theorem dX0_lay_92 : decode cX0_lay 92 = .ok (.iload 7, 2) := by decide +kernel
theorem dX0_lay_94 : decode cX0_lay 94 = .ok (.ifCond .eq 22, 3) := by decide +kernel
theorem dX0_lay_97 : decode cX0_lay 97 = .ok (.aload_n 0, 1) := by decide +kernel
theorem dX0_lay_98 : decode cX0_lay 98 = .ok (.getfield 11, 3) := by decide +kernel
theorem dX0_lay_101 : decode cX0_lay 101 = .ok (.iload 4, 2) := by decide +kernel
theorem dX0_lay_103 : decode cX0_lay 103 = .ok (.bipush 12, 2) := by decide +kernel
theorem dX0_lay_105 : decode cX0_lay 105 = .ok (.imul, 1) := by decide +kernel
theorem dX0_lay_106 : decode cX0_lay 106 = .ok (.iload_n 3, 1) := by decide +kernel
theorem dX0_lay_107 : decode cX0_lay 107 = .ok (.iadd, 1) := by decide +kernel
theorem dX0_lay_108 : decode cX0_lay 108 = .ok (.iload 6, 2) := by decide +kernel
theorem dX0_lay_110 : decode cX0_lay 110 = .ok (.iload_n 1, 1) := by decide +kernel
theorem dX0_lay_111 : decode cX0_lay 111 = .ok (.imul, 1) := by decide +kernel
theorem dX0_lay_112 : decode cX0_lay 112 = .ok (.iload 5, 2) := by decide +kernel
theorem dX0_lay_114 : decode cX0_lay 114 = .ok (.iadd, 1) := by decide +kernel
theorem dX0_lay_115 : decode cX0_lay 115 = .ok (.iastore, 1) := by decide +kernel
theorem dX0_lay_116 : decode cX0_lay 116 = .ok (.iinc 4 1, 3) := by decide +kernel
theorem dX0_lay_119 : decode cX0_lay 119 = .ok (.goto (-87), 3) := by decide +kernel
theorem dX0_lay_122 : decode cX0_lay 122 = .ok (.iinc 3 1, 3) := by decide +kernel
theorem dX0_lay_125 : decode cX0_lay 125 = .ok (.goto (-109), 3) := by decide +kernel
theorem dX0_lay_128 : decode cX0_lay 128 = .ok (.return_, 1) := by decide +kernel
set_option maxRecDepth 20000 in
theorem ggX0_reached_X7_noKind : GoodIn wsX0_reached wsX7_noKind := goodIn_r _ [7] (by decide +kernel) (by decide +kernel)
set_option maxRecDepth 20000 in
theorem gX0_reached_X7_noKind_n27 : GoodIn wsX0_reached (wsX7_noKind) := ggX0_reached_X7_noKind
set_option maxRecDepth 20000 in
theorem ggX0_reached_X7_bit : GoodIn wsX0_reached wsX7_bit := goodIn_r _ [9] (by decide +kernel) (by decide +kernel)
set_option maxRecDepth 20000 in
theorem gX0_reached_X7_bit_n40 : GoodIn wsX0_reached (wsX7_bit) := ggX0_reached_X7_bit
theorem dX0_reached_0 : decode cX0_reached 0 = .ok (.iload_n 1, 1) := by decide +kernel
theorem dX0_reached_1 : decode cX0_reached 1 = .ok (.invokestatic 27, 3) := by decide +kernel
theorem dX0_reached_4 : decode cX0_reached 4 = .ok (.ifCond .ne 13, 3) := by decide +kernel
theorem dX0_reached_7 : decode cX0_reached 7 = .ok (.iload_n 2, 1) := by decide +kernel
theorem dX0_reached_8 : decode cX0_reached 8 = .ok (.ifCond .lt 9, 3) := by decide +kernel
theorem dX0_reached_11 : decode cX0_reached 11 = .ok (.iload_n 2, 1) := by decide +kernel
theorem dX0_reached_12 : decode cX0_reached 12 = .ok (.bipush 12, 2) := by decide +kernel
theorem dX0_reached_14 : decode cX0_reached 14 = .ok (.if_icmp .lt 5, 3) := by decide +kernel
theorem dX0_reached_17 : decode cX0_reached 17 = .ok (.iconst 0, 1) := by decide +kernel
theorem dX0_reached_18 : decode cX0_reached 18 = .ok (.ireturn, 1) := by decide +kernel
theorem dX0_reached_19 : decode cX0_reached 19 = .ok (.iconst 0, 1) := by decide +kernel
theorem dX0_reached_20 : decode cX0_reached 20 = .ok (.istore 5, 2) := by decide +kernel
theorem dX0_reached_22 : decode cX0_reached 22 = .ok (.getstatic 31, 3) := by decide +kernel
theorem dX0_reached_25 : decode cX0_reached 25 = .ok (.iload_n 1, 1) := by decide +kernel
theorem dX0_reached_26 : decode cX0_reached 26 = .ok (.iaload, 1) := by decide +kernel
theorem dX0_reached_27 : decode cX0_reached 27 = .ok (.istore 6, 2) := by decide +kernel
theorem dX0_reached_29 : decode cX0_reached 29 = .ok (.iload 6, 2) := by decide +kernel
theorem dX0_reached_31 : decode cX0_reached 31 = .ok (.getstatic 34, 3) := by decide +kernel
theorem dX0_reached_34 : decode cX0_reached 34 = .ok (.iload_n 1, 1) := by decide +kernel
theorem dX0_reached_35 : decode cX0_reached 35 = .ok (.iaload, 1) := by decide +kernel
theorem dX0_reached_36 : decode cX0_reached 36 = .ok (.if_icmp .ge 96, 3) := by decide +kernel
theorem dX0_reached_39 : decode cX0_reached 39 = .ok (.iload 6, 2) := by decide +kernel
theorem dX0_reached_41 : decode cX0_reached 41 = .ok (.bipush 12, 2) := by decide +kernel
theorem dX0_reached_43 : decode cX0_reached 43 = .ok (.imul, 1) := by decide +kernel
theorem dX0_reached_44 : decode cX0_reached 44 = .ok (.istore 7, 2) := by decide +kernel
theorem dX0_reached_46 : decode cX0_reached 46 = .ok (.aload_n 0, 1) := by decide +kernel
theorem dX0_reached_47 : decode cX0_reached 47 = .ok (.getfield 11, 3) := by decide +kernel
theorem dX0_reached_50 : decode cX0_reached 50 = .ok (.iload 7, 2) := by decide +kernel
theorem dX0_reached_52 : decode cX0_reached 52 = .ok (.iload_n 2, 1) := by decide +kernel
theorem dX0_reached_53 : decode cX0_reached 53 = .ok (.iadd, 1) := by decide +kernel
theorem dX0_reached_54 : decode cX0_reached 54 = .ok (.iaload, 1) := by decide +kernel
theorem dX0_reached_55 : decode cX0_reached 55 = .ok (.istore 8, 2) := by decide +kernel
theorem dX0_reached_57 : decode cX0_reached 57 = .ok (.iconst 0, 1) := by decide +kernel
theorem dX0_reached_58 : decode cX0_reached 58 = .ok (.istore 9, 2) := by decide +kernel
theorem dX0_reached_60 : decode cX0_reached 60 = .ok (.iload 9, 2) := by decide +kernel
theorem dX0_reached_62 : decode cX0_reached 62 = .ok (.getstatic 37, 3) := by decide +kernel
theorem dX0_reached_65 : decode cX0_reached 65 = .ok (.iload_n 1, 1) := by decide +kernel
theorem dX0_reached_66 : decode cX0_reached 66 = .ok (.iaload, 1) := by decide +kernel
theorem dX0_reached_67 : decode cX0_reached 67 = .ok (.if_icmp .ge 59, 3) := by decide +kernel
theorem dX0_reached_70 : decode cX0_reached 70 = .ok (.iload 8, 2) := by decide +kernel
theorem dX0_reached_72 : decode cX0_reached 72 = .ok (.ifCond .lt 54, 3) := by decide +kernel
theorem dX0_reached_75 : decode cX0_reached 75 = .ok (.iload_n 3, 1) := by decide +kernel
theorem dX0_reached_76 : decode cX0_reached 76 = .ok (.iload 8, 2) := by decide +kernel
theorem dX0_reached_78 : decode cX0_reached 78 = .ok (.invokestatic 40, 3) := by decide +kernel
theorem dX0_reached_81 : decode cX0_reached 81 = .ok (.ifCond .ne 45, 3) := by decide +kernel
theorem dX0_reached_84 : decode cX0_reached 84 = .ok (.iload 5, 2) := by decide +kernel
theorem dX0_reached_86 : decode cX0_reached 86 = .ok (.iconst 1, 1) := by decide +kernel
theorem dX0_reached_87 : decode cX0_reached 87 = .ok (.iload 8, 2) := by decide +kernel
theorem dX0_reached_89 : decode cX0_reached 89 = .ok (.ishl, 1) := by decide +kernel
theorem dX0_reached_90 : decode cX0_reached 90 = .ok (.ior, 1) := by decide +kernel
theorem dX0_reached_91 : decode cX0_reached 91 = .ok (.istore 5, 2) := by decide +kernel
theorem dX0_reached_93 : decode cX0_reached 93 = .ok (.iload 4, 2) := by decide +kernel
theorem dX0_reached_95 : decode cX0_reached 95 = .ok (.iload 8, 2) := by decide +kernel
theorem dX0_reached_97 : decode cX0_reached 97 = .ok (.invokestatic 40, 3) := by decide +kernel
theorem dX0_reached_100 : decode cX0_reached 100 = .ok (.iconst 1, 1) := by decide +kernel
theorem dX0_reached_101 : decode cX0_reached 101 = .ok (.if_icmp .ne 7, 3) := by decide +kernel
theorem dX0_reached_104 : decode cX0_reached 104 = .ok (.iconst (-1), 1) := by decide +kernel
theorem dX0_reached_105 : decode cX0_reached 105 = .ok (.goto 13, 3) := by decide +kernel
theorem dX0_reached_108 : decode cX0_reached 108 = .ok (.aload_n 0, 1) := by decide +kernel
theorem dX0_reached_109 : decode cX0_reached 109 = .ok (.getfield 11, 3) := by decide +kernel
theorem dX0_reached_112 : decode cX0_reached 112 = .ok (.iload 7, 2) := by decide +kernel
theorem dX0_reached_114 : decode cX0_reached 114 = .ok (.iload 8, 2) := by decide +kernel
theorem dX0_reached_116 : decode cX0_reached 116 = .ok (.iadd, 1) := by decide +kernel
theorem dX0_reached_117 : decode cX0_reached 117 = .ok (.iaload, 1) := by decide +kernel
theorem dX0_reached_118 : decode cX0_reached 118 = .ok (.istore 8, 2) := by decide +kernel
theorem dX0_reached_120 : decode cX0_reached 120 = .ok (.iinc 9 1, 3) := by decide +kernel
theorem dX0_reached_123 : decode cX0_reached 123 = .ok (.goto (-63), 3) := by decide +kernel
theorem dX0_reached_126 : decode cX0_reached 126 = .ok (.iinc 6 1, 3) := by decide +kernel
theorem dX0_reached_129 : decode cX0_reached 129 = .ok (.goto (-100), 3) := by decide +kernel
theorem dX0_reached_132 : decode cX0_reached 132 = .ok (.iload 5, 2) := by decide +kernel
theorem dX0_reached_134 : decode cX0_reached 134 = .ok (.ireturn, 1) := by decide +kernel
theorem dX1_init_0 : decode cX1_init 0 = .ok (.aload_n 0, 1) := by decide +kernel
theorem dX1_init_1 : decode cX1_init 1 = .ok (.invokespecial 3, 3) := by decide +kernel
theorem dX1_init_4 : decode cX1_init 4 = .ok (.aload_n 0, 1) := by decide +kernel
theorem dX1_init_5 : decode cX1_init 5 = .ok (.aload_n 1, 1) := by decide +kernel
theorem dX1_init_6 : decode cX1_init 6 = .ok (.putfield 9, 3) := by decide +kernel
theorem dX1_init_9 : decode cX1_init 9 = .ok (.aload_n 0, 1) := by decide +kernel
theorem dX1_init_10 : decode cX1_init 10 = .ok (.aload_n 2, 1) := by decide +kernel
theorem dX1_init_11 : decode cX1_init 11 = .ok (.putfield 15, 3) := by decide +kernel
theorem dX1_init_14 : decode cX1_init 14 = .ok (.return_, 1) := by decide +kernel
set_option maxRecDepth 20000 in
theorem ggX1_allowed_X1_openTo : GoodIn wsX1_allowed wsX1_openTo := goodIn_r _ [5, 6, 7, 8, 9, 10, 11, 12, 13, 14, 15, 16, 17, 18, 19, 20, 21, 22, 23, 24, 25, 26, 27, 28, 29, 30, 31, 32, 44, 45, 46, 47, 48, 49, 50, 51, 52, 53, 54, 55] (by decide +kernel) (by decide +kernel)
set_option maxRecDepth 20000 in
theorem gX1_allowed_X1_openTo : GoodIn wsX1_allowed (wsV RX1 19 RX1 yX1_openTo wsX1_openTo) := goodIn_app (goodIn_of _ (by decide +kernel)) ggX1_allowed_X1_openTo
set_option maxRecDepth 20000 in
theorem ggX1_allowed_X7_bit : GoodIn wsX1_allowed wsX7_bit := goodIn_r _ [32] (by decide +kernel) (by decide +kernel)
set_option maxRecDepth 20000 in
theorem gX1_allowed_X7_bit_n23 : GoodIn wsX1_allowed (wsX7_bit) := ggX1_allowed_X7_bit
set_option maxRecDepth 20000 in
theorem ggX1_allowed_X7_moved : GoodIn wsX1_allowed wsX7_moved := goodIn_r _ [34] (by decide +kernel) (by decide +kernel)
set_option maxRecDepth 20000 in
theorem gX1_allowed_X7_moved_n27 : GoodIn wsX1_allowed (wsX7_moved) := ggX1_allowed_X7_moved
set_option maxRecDepth 20000 in
theorem ggX1_allowed_X1_mayStand : GoodIn wsX1_allowed wsX1_mayStand := goodIn_r _ [38, 6, 7, 39, 40, 41, 4, 42, 43, 9, 10, 8, 11, 12, 13, 14, 15, 16, 17, 18, 19, 20, 21, 22, 23, 24, 25, 26, 27, 28, 29, 30, 31, 32, 44, 45, 46, 47, 48, 49, 50, 51, 52, 53, 54, 55] (by decide +kernel) (by decide +kernel)
set_option maxRecDepth 20000 in
theorem gX1_allowed_X1_mayStand : GoodIn wsX1_allowed (wsV RX1 31 RX1 yX1_mayStand wsX1_mayStand) := goodIn_app (goodIn_of _ (by decide +kernel)) ggX1_allowed_X1_mayStand
theorem dX1_allowed_0 : decode cX1_allowed 0 = .ok (.aload_n 0, 1) := by decide +kernel
theorem dX1_allowed_1 : decode cX1_allowed 1 = .ok (.iload_n 1, 1) := by decide +kernel
theorem dX1_allowed_2 : decode cX1_allowed 2 = .ok (.iload_n 2, 1) := by decide +kernel
theorem dX1_allowed_3 : decode cX1_allowed 3 = .ok (.iload_n 3, 1) := by decide +kernel
theorem dX1_allowed_4 : decode cX1_allowed 4 = .ok (.iload 4, 2) := by decide +kernel
theorem dX1_allowed_6 : decode cX1_allowed 6 = .ok (.invokevirtual 19, 3) := by decide +kernel
theorem dX1_allowed_9 : decode cX1_allowed 9 = .ok (.istore 5, 2) := by decide +kernel
theorem dX1_allowed_11 : decode cX1_allowed 11 = .ok (.iconst 0, 1) := by decide +kernel
theorem dX1_allowed_12 : decode cX1_allowed 12 = .ok (.istore 6, 2) := by decide +kernel
theorem dX1_allowed_14 : decode cX1_allowed 14 = .ok (.iconst 0, 1) := by decide +kernel
theorem dX1_allowed_15 : decode cX1_allowed 15 = .ok (.istore 7, 2) := by decide +kernel
theorem dX1_allowed_17 : decode cX1_allowed 17 = .ok (.iload 7, 2) := by decide +kernel
theorem dX1_allowed_19 : decode cX1_allowed 19 = .ok (.bipush 12, 2) := by decide +kernel
theorem dX1_allowed_21 : decode cX1_allowed 21 = .ok (.if_icmp .ge 45, 3) := by decide +kernel
theorem dX1_allowed_24 : decode cX1_allowed 24 = .ok (.iload 5, 2) := by decide +kernel
theorem dX1_allowed_26 : decode cX1_allowed 26 = .ok (.iload 7, 2) := by decide +kernel
theorem dX1_allowed_28 : decode cX1_allowed 28 = .ok (.invokestatic 23, 3) := by decide +kernel
theorem dX1_allowed_31 : decode cX1_allowed 31 = .ok (.iconst 1, 1) := by decide +kernel
theorem dX1_allowed_32 : decode cX1_allowed 32 = .ok (.if_icmp .ne 28, 3) := by decide +kernel
theorem dX1_allowed_35 : decode cX1_allowed 35 = .ok (.aload_n 0, 1) := by decide +kernel
theorem dX1_allowed_36 : decode cX1_allowed 36 = .ok (.iload_n 2, 1) := by decide +kernel
theorem dX1_allowed_37 : decode cX1_allowed 37 = .ok (.iload_n 1, 1) := by decide +kernel
theorem dX1_allowed_38 : decode cX1_allowed 38 = .ok (.iload 7, 2) := by decide +kernel
theorem dX1_allowed_40 : decode cX1_allowed 40 = .ok (.invokestatic 27, 3) := by decide +kernel
theorem dX1_allowed_43 : decode cX1_allowed 43 = .ok (.iload 4, 2) := by decide +kernel
theorem dX1_allowed_45 : decode cX1_allowed 45 = .ok (.invokevirtual 31, 3) := by decide +kernel
theorem dX1_allowed_48 : decode cX1_allowed 48 = .ok (.ifCond .eq 12, 3) := by decide +kernel
theorem dX1_allowed_51 : decode cX1_allowed 51 = .ok (.iload 6, 2) := by decide +kernel
theorem dX1_allowed_53 : decode cX1_allowed 53 = .ok (.iconst 1, 1) := by decide +kernel
theorem dX1_allowed_54 : decode cX1_allowed 54 = .ok (.iload 7, 2) := by decide +kernel
theorem dX1_allowed_56 : decode cX1_allowed 56 = .ok (.ishl, 1) := by decide +kernel
theorem dX1_allowed_57 : decode cX1_allowed 57 = .ok (.ior, 1) := by decide +kernel
theorem dX1_allowed_58 : decode cX1_allowed 58 = .ok (.istore 6, 2) := by decide +kernel
theorem dX1_allowed_60 : decode cX1_allowed 60 = .ok (.iinc 7 1, 3) := by decide +kernel
theorem dX1_allowed_63 : decode cX1_allowed 63 = .ok (.goto (-46), 3) := by decide +kernel
theorem dX1_allowed_66 : decode cX1_allowed 66 = .ok (.iload 6, 2) := by decide +kernel
theorem dX1_allowed_68 : decode cX1_allowed 68 = .ok (.ireturn, 1) := by decide +kernel
set_option maxRecDepth 20000 in
theorem ggX1_openTo_X5_taken : GoodIn wsX1_openTo wsX5_taken := goodIn_r _ [10, 11, 12, 13, 14, 30, 31, 32, 33, 34, 35, 36, 37, 38] (by decide +kernel) (by decide +kernel)
set_option maxRecDepth 20000 in
theorem gX1_openTo_X5_taken : GoodIn wsX1_openTo (wsV RX1 45 RX5 yX5_taken wsX5_taken) := goodIn_app (goodIn_of _ (by decide +kernel)) ggX1_openTo_X5_taken
set_option maxRecDepth 20000 in
theorem ggX1_openTo_X7_placeOf : GoodIn wsX1_openTo wsX7_placeOf := goodIn_r _ [14] (by decide +kernel) (by decide +kernel)
set_option maxRecDepth 20000 in
theorem gX1_openTo_X7_placeOf_n52 : GoodIn wsX1_openTo (wsX7_placeOf) := ggX1_openTo_X7_placeOf
set_option maxRecDepth 20000 in
theorem ggX1_openTo_X0_reached : GoodIn wsX1_openTo wsX0_reached := goodIn_r _ [19, 20, 21, 22, 23, 24, 13, 25, 26, 27, 39] (by decide +kernel) (by decide +kernel)
set_option maxRecDepth 20000 in
theorem gX1_openTo_X0_reached : GoodIn wsX1_openTo (wsV RX1 55 RX0 yX0_reached wsX0_reached) := goodIn_app (goodIn_of _ (by decide +kernel)) ggX1_openTo_X0_reached
theorem dX1_openTo_0 : decode cX1_openTo 0 = .ok (.iload_n 1, 1) := by decide +kernel
theorem dX1_openTo_1 : decode cX1_openTo 1 = .ok (.ifCond .lt 8, 3) := by decide +kernel
theorem dX1_openTo_4 : decode cX1_openTo 4 = .ok (.iload_n 1, 1) := by decide +kernel
theorem dX1_openTo_5 : decode cX1_openTo 5 = .ok (.iconst 4, 1) := by decide +kernel
theorem dX1_openTo_6 : decode cX1_openTo 6 = .ok (.if_icmp .lt 5, 3) := by decide +kernel
theorem dX1_openTo_9 : decode cX1_openTo 9 = .ok (.iconst 0, 1) := by decide +kernel
theorem dX1_openTo_10 : decode cX1_openTo 10 = .ok (.ireturn, 1) := by decide +kernel
theorem dX1_openTo_11 : decode cX1_openTo 11 = .ok (.aload_n 0, 1) := by decide +kernel
theorem dX1_openTo_12 : decode cX1_openTo 12 = .ok (.getfield 9, 3) := by decide +kernel
theorem dX1_openTo_15 : decode cX1_openTo 15 = .ok (.getfield 35, 3) := by decide +kernel
theorem dX1_openTo_18 : decode cX1_openTo 18 = .ok (.iconst 1, 1) := by decide +kernel
theorem dX1_openTo_19 : decode cX1_openTo 19 = .ok (.if_icmp .ne 20, 3) := by decide +kernel
theorem dX1_openTo_22 : decode cX1_openTo 22 = .ok (.aload_n 0, 1) := by decide +kernel
theorem dX1_openTo_23 : decode cX1_openTo 23 = .ok (.getfield 9, 3) := by decide +kernel
theorem dX1_openTo_26 : decode cX1_openTo 26 = .ok (.getfield 41, 3) := by decide +kernel
theorem dX1_openTo_29 : decode cX1_openTo 29 = .ok (.iload_n 1, 1) := by decide +kernel
theorem dX1_openTo_30 : decode cX1_openTo 30 = .ok (.iaload, 1) := by decide +kernel
theorem dX1_openTo_31 : decode cX1_openTo 31 = .ok (.iload_n 3, 1) := by decide +kernel
theorem dX1_openTo_32 : decode cX1_openTo 32 = .ok (.iconst 1, 1) := by decide +kernel
theorem dX1_openTo_33 : decode cX1_openTo 33 = .ok (.iand, 1) := by decide +kernel
theorem dX1_openTo_34 : decode cX1_openTo 34 = .ok (.if_icmp .eq 5, 3) := by decide +kernel
theorem dX1_openTo_37 : decode cX1_openTo 37 = .ok (.iconst 0, 1) := by decide +kernel
theorem dX1_openTo_38 : decode cX1_openTo 38 = .ok (.ireturn, 1) := by decide +kernel
theorem dX1_openTo_39 : decode cX1_openTo 39 = .ok (.aload_n 0, 1) := by decide +kernel
theorem dX1_openTo_40 : decode cX1_openTo 40 = .ok (.getfield 9, 3) := by decide +kernel
theorem dX1_openTo_43 : decode cX1_openTo 43 = .ok (.iload_n 2, 1) := by decide +kernel
theorem dX1_openTo_44 : decode cX1_openTo 44 = .ok (.invokevirtual 45, 3) := by decide +kernel
theorem dX1_openTo_47 : decode cX1_openTo 47 = .ok (.istore 5, 2) := by decide +kernel
theorem dX1_openTo_49 : decode cX1_openTo 49 = .ok (.aload_n 0, 1) := by decide +kernel
theorem dX1_openTo_50 : decode cX1_openTo 50 = .ok (.getfield 15, 3) := by decide +kernel
theorem dX1_openTo_53 : decode cX1_openTo 53 = .ok (.aload_n 0, 1) := by decide +kernel
theorem dX1_openTo_54 : decode cX1_openTo 54 = .ok (.getfield 9, 3) := by decide +kernel
theorem dX1_openTo_57 : decode cX1_openTo 57 = .ok (.getfield 49, 3) := by decide +kernel
theorem dX1_openTo_60 : decode cX1_openTo 60 = .ok (.iload_n 1, 1) := by decide +kernel
theorem dX1_openTo_61 : decode cX1_openTo 61 = .ok (.iaload, 1) := by decide +kernel
theorem dX1_openTo_62 : decode cX1_openTo 62 = .ok (.iload_n 1, 1) := by decide +kernel
theorem dX1_openTo_63 : decode cX1_openTo 63 = .ok (.iload_n 2, 1) := by decide +kernel
theorem dX1_openTo_64 : decode cX1_openTo 64 = .ok (.invokestatic 52, 3) := by decide +kernel
theorem dX1_openTo_67 : decode cX1_openTo 67 = .ok (.iload 4, 2) := by decide +kernel
theorem dX1_openTo_69 : decode cX1_openTo 69 = .ok (.iload 5, 2) := by decide +kernel
theorem dX1_openTo_71 : decode cX1_openTo 71 = .ok (.invokevirtual 55, 3) := by decide +kernel
theorem dX1_openTo_74 : decode cX1_openTo 74 = .ok (.iload 5, 2) := by decide +kernel
theorem dX1_openTo_76 : decode cX1_openTo 76 = .ok (.iconst (-1), 1) := by decide +kernel
theorem dX1_openTo_77 : decode cX1_openTo 77 = .ok (.ixor, 1) := by decide +kernel
theorem dX1_openTo_78 : decode cX1_openTo 78 = .ok (.iand, 1) := by decide +kernel
theorem dX1_openTo_79 : decode cX1_openTo 79 = .ok (.ireturn, 1) := by decide +kernel
set_option maxRecDepth 20000 in
theorem ggX1_mayStand_X1_attackedMen : GoodIn wsX1_mayStand wsX1_attackedMen := goodIn_r _ [7, 1, 8, 9, 10, 11, 12, 13, 14, 15, 16, 17, 18, 19, 20, 21, 22, 23, 24, 25, 26, 27, 28, 29, 30, 31, 32, 33, 34, 35, 36, 37, 38, 39, 40, 41, 42, 43, 44, 45] (by decide +kernel) (by decide +kernel)
set_option maxRecDepth 20000 in
theorem gX1_mayStand_X1_attackedMen : GoodIn wsX1_mayStand (wsV RX1 60 RX1 yX1_attackedMen wsX1_attackedMen) := goodIn_app (goodIn_of _ (by decide +kernel)) ggX1_mayStand_X1_attackedMen
theorem dX1_mayStand_0 : decode cX1_mayStand 0 = .ok (.aload_n 0, 1) := by decide +kernel
theorem dX1_mayStand_1 : decode cX1_mayStand 1 = .ok (.getfield 9, 3) := by decide +kernel
theorem dX1_mayStand_4 : decode cX1_mayStand 4 = .ok (.getfield 35, 3) := by decide +kernel
theorem dX1_mayStand_7 : decode cX1_mayStand 7 = .ok (.iconst 2, 1) := by decide +kernel
theorem dX1_mayStand_8 : decode cX1_mayStand 8 = .ok (.if_icmp .ne 12, 3) := by decide +kernel
theorem dX1_mayStand_11 : decode cX1_mayStand 11 = .ok (.aload_n 0, 1) := by decide +kernel
theorem dX1_mayStand_12 : decode cX1_mayStand 12 = .ok (.iload_n 1, 1) := by decide +kernel
theorem dX1_mayStand_13 : decode cX1_mayStand 13 = .ok (.iload_n 2, 1) := by decide +kernel
theorem dX1_mayStand_14 : decode cX1_mayStand 14 = .ok (.invokevirtual 60, 3) := by decide +kernel
theorem dX1_mayStand_17 : decode cX1_mayStand 17 = .ok (.ifCond .ne 7, 3) := by decide +kernel
theorem dX1_mayStand_20 : decode cX1_mayStand 20 = .ok (.iconst 1, 1) := by decide +kernel
theorem dX1_mayStand_21 : decode cX1_mayStand 21 = .ok (.goto 4, 3) := by decide +kernel
theorem dX1_mayStand_24 : decode cX1_mayStand 24 = .ok (.iconst 0, 1) := by decide +kernel
theorem dX1_mayStand_25 : decode cX1_mayStand 25 = .ok (.ireturn, 1) := by decide +kernel
set_option maxRecDepth 20000 in
theorem ggX1_attackedMen_X5_taken : GoodIn wsX1_attackedMen wsX5_taken := goodIn_r _ [10, 11, 12, 13, 14, 30, 31, 32, 33, 34, 35, 36, 37, 38] (by decide +kernel) (by decide +kernel)
set_option maxRecDepth 20000 in
theorem gX1_attackedMen_X5_taken : GoodIn wsX1_attackedMen (wsV RX1 45 RX5 yX5_taken wsX5_taken) := goodIn_app (goodIn_of _ (by decide +kernel)) ggX1_attackedMen_X5_taken
set_option maxRecDepth 20000 in
theorem ggX1_attackedMen_X7_placeOf : GoodIn wsX1_attackedMen wsX7_placeOf := goodIn_r _ [14] (by decide +kernel) (by decide +kernel)
set_option maxRecDepth 20000 in
theorem gX1_attackedMen_X7_placeOf_n52 : GoodIn wsX1_attackedMen (wsX7_placeOf) := ggX1_attackedMen_X7_placeOf
set_option maxRecDepth 20000 in
theorem ggX1_attackedMen_X0_reached : GoodIn wsX1_attackedMen wsX0_reached := goodIn_r _ [19, 20, 21, 22, 23, 24, 13, 25, 26, 27, 39] (by decide +kernel) (by decide +kernel)
set_option maxRecDepth 20000 in
theorem gX1_attackedMen_X0_reached : GoodIn wsX1_attackedMen (wsV RX1 55 RX0 yX0_reached wsX0_reached) := goodIn_app (goodIn_of _ (by decide +kernel)) ggX1_attackedMen_X0_reached
set_option maxRecDepth 20000 in
theorem ggX1_attackedMen_X7_bit : GoodIn wsX1_attackedMen wsX7_bit := goodIn_r _ [27] (by decide +kernel) (by decide +kernel)
set_option maxRecDepth 20000 in
theorem gX1_attackedMen_X7_bit_n23 : GoodIn wsX1_attackedMen (wsX7_bit) := ggX1_attackedMen_X7_bit
theorem dX1_attackedMen_0 : decode cX1_attackedMen 0 = .ok (.aload_n 0, 1) := by decide +kernel
theorem dX1_attackedMen_1 : decode cX1_attackedMen 1 = .ok (.getfield 9, 3) := by decide +kernel
theorem dX1_attackedMen_4 : decode cX1_attackedMen 4 = .ok (.iload_n 1, 1) := by decide +kernel
theorem dX1_attackedMen_5 : decode cX1_attackedMen 5 = .ok (.invokevirtual 45, 3) := by decide +kernel
theorem dX1_attackedMen_8 : decode cX1_attackedMen 8 = .ok (.istore_n 3, 1) := by decide +kernel
theorem dX1_attackedMen_9 : decode cX1_attackedMen 9 = .ok (.iconst 0, 1) := by decide +kernel
theorem dX1_attackedMen_10 : decode cX1_attackedMen 10 = .ok (.istore 4, 2) := by decide +kernel
theorem dX1_attackedMen_12 : decode cX1_attackedMen 12 = .ok (.iconst 0, 1) := by decide +kernel
theorem dX1_attackedMen_13 : decode cX1_attackedMen 13 = .ok (.istore 5, 2) := by decide +kernel
theorem dX1_attackedMen_15 : decode cX1_attackedMen 15 = .ok (.iconst 0, 1) := by decide +kernel
theorem dX1_attackedMen_16 : decode cX1_attackedMen 16 = .ok (.istore 6, 2) := by decide +kernel
theorem dX1_attackedMen_18 : decode cX1_attackedMen 18 = .ok (.iload 6, 2) := by decide +kernel
theorem dX1_attackedMen_20 : decode cX1_attackedMen 20 = .ok (.aload_n 0, 1) := by decide +kernel
theorem dX1_attackedMen_21 : decode cX1_attackedMen 21 = .ok (.getfield 9, 3) := by decide +kernel
theorem dX1_attackedMen_24 : decode cX1_attackedMen 24 = .ok (.getfield 63, 3) := by decide +kernel
theorem dX1_attackedMen_27 : decode cX1_attackedMen 27 = .ok (.if_icmp .ge 66, 3) := by decide +kernel
theorem dX1_attackedMen_30 : decode cX1_attackedMen 30 = .ok (.aload_n 0, 1) := by decide +kernel
theorem dX1_attackedMen_31 : decode cX1_attackedMen 31 = .ok (.getfield 15, 3) := by decide +kernel
theorem dX1_attackedMen_34 : decode cX1_attackedMen 34 = .ok (.aload_n 0, 1) := by decide +kernel
theorem dX1_attackedMen_35 : decode cX1_attackedMen 35 = .ok (.getfield 9, 3) := by decide +kernel
theorem dX1_attackedMen_38 : decode cX1_attackedMen 38 = .ok (.getfield 49, 3) := by decide +kernel
theorem dX1_attackedMen_41 : decode cX1_attackedMen 41 = .ok (.iload 6, 2) := by decide +kernel
theorem dX1_attackedMen_43 : decode cX1_attackedMen 43 = .ok (.iaload, 1) := by decide +kernel
theorem dX1_attackedMen_44 : decode cX1_attackedMen 44 = .ok (.iload 6, 2) := by decide +kernel
theorem dX1_attackedMen_46 : decode cX1_attackedMen 46 = .ok (.iload_n 1, 1) := by decide +kernel
theorem dX1_attackedMen_47 : decode cX1_attackedMen 47 = .ok (.invokestatic 52, 3) := by decide +kernel
theorem dX1_attackedMen_50 : decode cX1_attackedMen 50 = .ok (.iload_n 2, 1) := by decide +kernel
theorem dX1_attackedMen_51 : decode cX1_attackedMen 51 = .ok (.iload_n 3, 1) := by decide +kernel
theorem dX1_attackedMen_52 : decode cX1_attackedMen 52 = .ok (.invokevirtual 55, 3) := by decide +kernel
theorem dX1_attackedMen_55 : decode cX1_attackedMen 55 = .ok (.istore 7, 2) := by decide +kernel
theorem dX1_attackedMen_57 : decode cX1_attackedMen 57 = .ok (.aload_n 0, 1) := by decide +kernel
theorem dX1_attackedMen_58 : decode cX1_attackedMen 58 = .ok (.getfield 9, 3) := by decide +kernel
theorem dX1_attackedMen_61 : decode cX1_attackedMen 61 = .ok (.getfield 41, 3) := by decide +kernel
theorem dX1_attackedMen_64 : decode cX1_attackedMen 64 = .ok (.iload 6, 2) := by decide +kernel
theorem dX1_attackedMen_66 : decode cX1_attackedMen 66 = .ok (.iaload, 1) := by decide +kernel
theorem dX1_attackedMen_67 : decode cX1_attackedMen 67 = .ok (.ifCond .ne 13, 3) := by decide +kernel
theorem dX1_attackedMen_70 : decode cX1_attackedMen 70 = .ok (.iload 4, 2) := by decide +kernel
theorem dX1_attackedMen_72 : decode cX1_attackedMen 72 = .ok (.iload 7, 2) := by decide +kernel
theorem dX1_attackedMen_74 : decode cX1_attackedMen 74 = .ok (.ior, 1) := by decide +kernel
theorem dX1_attackedMen_75 : decode cX1_attackedMen 75 = .ok (.istore 4, 2) := by decide +kernel
theorem dX1_attackedMen_77 : decode cX1_attackedMen 77 = .ok (.goto 10, 3) := by decide +kernel
theorem dX1_attackedMen_80 : decode cX1_attackedMen 80 = .ok (.iload 5, 2) := by decide +kernel
theorem dX1_attackedMen_82 : decode cX1_attackedMen 82 = .ok (.iload 7, 2) := by decide +kernel
theorem dX1_attackedMen_84 : decode cX1_attackedMen 84 = .ok (.ior, 1) := by decide +kernel
theorem dX1_attackedMen_85 : decode cX1_attackedMen 85 = .ok (.istore 5, 2) := by decide +kernel
theorem dX1_attackedMen_87 : decode cX1_attackedMen 87 = .ok (.iinc 6 1, 3) := by decide +kernel
theorem dX1_attackedMen_90 : decode cX1_attackedMen 90 = .ok (.goto (-72), 3) := by decide +kernel
theorem dX1_attackedMen_93 : decode cX1_attackedMen 93 = .ok (.iconst 0, 1) := by decide +kernel
theorem dX1_attackedMen_94 : decode cX1_attackedMen 94 = .ok (.istore 6, 2) := by decide +kernel
theorem dX1_attackedMen_96 : decode cX1_attackedMen 96 = .ok (.iconst 0, 1) := by decide +kernel
theorem dX1_attackedMen_97 : decode cX1_attackedMen 97 = .ok (.istore 7, 2) := by decide +kernel
theorem dX1_attackedMen_99 : decode cX1_attackedMen 99 = .ok (.iload 7, 2) := by decide +kernel
theorem dX1_attackedMen_101 : decode cX1_attackedMen 101 = .ok (.aload_n 0, 1) := by decide +kernel
theorem dX1_attackedMen_102 : decode cX1_attackedMen 102 = .ok (.getfield 9, 3) := by decide +kernel
theorem dX1_attackedMen_105 : decode cX1_attackedMen 105 = .ok (.getfield 63, 3) := by decide +kernel
theorem dX1_attackedMen_108 : decode cX1_attackedMen 108 = .ok (.if_icmp .ge 50, 3) := by decide +kernel
theorem dX1_attackedMen_111 : decode cX1_attackedMen 111 = .ok (.aload_n 0, 1) := by decide +kernel
theorem dX1_attackedMen_112 : decode cX1_attackedMen 112 = .ok (.getfield 9, 3) := by decide +kernel
theorem dX1_attackedMen_115 : decode cX1_attackedMen 115 = .ok (.getfield 41, 3) := by decide +kernel
theorem dX1_attackedMen_118 : decode cX1_attackedMen 118 = .ok (.iload 7, 2) := by decide +kernel
theorem dX1_attackedMen_120 : decode cX1_attackedMen 120 = .ok (.iaload, 1) := by decide +kernel
theorem dX1_attackedMen_121 : decode cX1_attackedMen 121 = .ok (.ifCond .ne 8, 3) := by decide +kernel
theorem dX1_attackedMen_124 : decode cX1_attackedMen 124 = .ok (.iload 5, 2) := by decide +kernel
theorem dX1_attackedMen_126 : decode cX1_attackedMen 126 = .ok (.goto 5, 3) := by decide +kernel
theorem dX1_attackedMen_129 : decode cX1_attackedMen 129 = .ok (.iload 4, 2) := by decide +kernel
theorem dX1_attackedMen_131 : decode cX1_attackedMen 131 = .ok (.istore 8, 2) := by decide +kernel
theorem dX1_attackedMen_133 : decode cX1_attackedMen 133 = .ok (.iload 6, 2) := by decide +kernel
theorem dX1_attackedMen_135 : decode cX1_attackedMen 135 = .ok (.iload 8, 2) := by decide +kernel
theorem dX1_attackedMen_137 : decode cX1_attackedMen 137 = .ok (.iload 7, 2) := by decide +kernel
theorem dX1_attackedMen_139 : decode cX1_attackedMen 139 = .ok (.iload_n 1, 1) := by decide +kernel
theorem dX1_attackedMen_140 : decode cX1_attackedMen 140 = .ok (.invokestatic 52, 3) := by decide +kernel
theorem dX1_attackedMen_143 : decode cX1_attackedMen 143 = .ok (.invokestatic 23, 3) := by decide +kernel
theorem dX1_attackedMen_146 : decode cX1_attackedMen 146 = .ok (.iload 7, 2) := by decide +kernel
theorem dX1_attackedMen_148 : decode cX1_attackedMen 148 = .ok (.ishl, 1) := by decide +kernel
theorem dX1_attackedMen_149 : decode cX1_attackedMen 149 = .ok (.ior, 1) := by decide +kernel
theorem dX1_attackedMen_150 : decode cX1_attackedMen 150 = .ok (.istore 6, 2) := by decide +kernel
theorem dX1_attackedMen_152 : decode cX1_attackedMen 152 = .ok (.iinc 7 1, 3) := by decide +kernel
theorem dX1_attackedMen_155 : decode cX1_attackedMen 155 = .ok (.goto (-56), 3) := by decide +kernel
theorem dX1_attackedMen_158 : decode cX1_attackedMen 158 = .ok (.iload 6, 2) := by decide +kernel
theorem dX1_attackedMen_160 : decode cX1_attackedMen 160 = .ok (.ireturn, 1) := by decide +kernel
theorem dX2_init_0 : decode cX2_init 0 = .ok (.aload_n 0, 1) := by decide +kernel
theorem dX2_init_1 : decode cX2_init 1 = .ok (.invokespecial 3, 3) := by decide +kernel
theorem dX2_init_4 : decode cX2_init 4 = .ok (.aload_n 0, 1) := by decide +kernel
theorem dX2_init_5 : decode cX2_init 5 = .ok (.bipush 12, 2) := by decide +kernel
theorem dX2_init_7 : decode cX2_init 7 = .ok (.newarray .int, 2) := by decide +kernel
theorem dX2_init_9 : decode cX2_init 9 = .ok (.putfield 9, 3) := by decide +kernel
theorem dX2_init_12 : decode cX2_init 12 = .ok (.aload_n 0, 1) := by decide +kernel
theorem dX2_init_13 : decode cX2_init 13 = .ok (.aload_n 1, 1) := by decide +kernel
theorem dX2_init_14 : decode cX2_init 14 = .ok (.putfield 15, 3) := by decide +kernel
theorem dX2_init_17 : decode cX2_init 17 = .ok (.return_, 1) := by decide +kernel
set_option maxRecDepth 20000 in
theorem ggX2_knot_X7_bit : GoodIn wsX2_knot wsX7_bit := goodIn_r _ [6] (by decide +kernel) (by decide +kernel)
set_option maxRecDepth 20000 in
theorem gX2_knot_X7_bit_n23 : GoodIn wsX2_knot (wsX7_bit) := ggX2_knot_X7_bit
set_option maxRecDepth 20000 in
theorem ggX2_knot_X0_reached : GoodIn wsX2_knot wsX0_reached := goodIn_r _ [11, 12, 13, 14, 15, 16, 5, 17, 4, 6, 21] (by decide +kernel) (by decide +kernel)
set_option maxRecDepth 20000 in
theorem gX2_knot_X0_reached : GoodIn wsX2_knot (wsV RX2 27 RX0 yX0_reached wsX0_reached) := goodIn_app (goodIn_of _ (by decide +kernel)) ggX2_knot_X0_reached
theorem dX2_knot_0 : decode cX2_knot 0 = .ok (.aload_n 0, 1) := by decide +kernel
theorem dX2_knot_1 : decode cX2_knot 1 = .ok (.iload_n 2, 1) := by decide +kernel
theorem dX2_knot_2 : decode cX2_knot 2 = .ok (.putfield 19, 3) := by decide +kernel
theorem dX2_knot_5 : decode cX2_knot 5 = .ok (.iconst 0, 1) := by decide +kernel
theorem dX2_knot_6 : decode cX2_knot 6 = .ok (.istore_n 3, 1) := by decide +kernel
theorem dX2_knot_7 : decode cX2_knot 7 = .ok (.iload_n 3, 1) := by decide +kernel
theorem dX2_knot_8 : decode cX2_knot 8 = .ok (.bipush 12, 2) := by decide +kernel
theorem dX2_knot_10 : decode cX2_knot 10 = .ok (.if_icmp .ge 45, 3) := by decide +kernel
theorem dX2_knot_13 : decode cX2_knot 13 = .ok (.aload_n 0, 1) := by decide +kernel
theorem dX2_knot_14 : decode cX2_knot 14 = .ok (.getfield 9, 3) := by decide +kernel
theorem dX2_knot_17 : decode cX2_knot 17 = .ok (.iload_n 3, 1) := by decide +kernel
theorem dX2_knot_18 : decode cX2_knot 18 = .ok (.aload_n 0, 1) := by decide +kernel
theorem dX2_knot_19 : decode cX2_knot 19 = .ok (.getfield 19, 3) := by decide +kernel
theorem dX2_knot_22 : decode cX2_knot 22 = .ok (.iload_n 3, 1) := by decide +kernel
theorem dX2_knot_23 : decode cX2_knot 23 = .ok (.invokestatic 23, 3) := by decide +kernel
theorem dX2_knot_26 : decode cX2_knot 26 = .ok (.iconst 1, 1) := by decide +kernel
theorem dX2_knot_27 : decode cX2_knot 27 = .ok (.if_icmp .ne 7, 3) := by decide +kernel
theorem dX2_knot_30 : decode cX2_knot 30 = .ok (.iconst 0, 1) := by decide +kernel
theorem dX2_knot_31 : decode cX2_knot 31 = .ok (.goto 17, 3) := by decide +kernel
theorem dX2_knot_34 : decode cX2_knot 34 = .ok (.aload_n 0, 1) := by decide +kernel
theorem dX2_knot_35 : decode cX2_knot 35 = .ok (.getfield 15, 3) := by decide +kernel
theorem dX2_knot_38 : decode cX2_knot 38 = .ok (.iload_n 1, 1) := by decide +kernel
theorem dX2_knot_39 : decode cX2_knot 39 = .ok (.iload_n 3, 1) := by decide +kernel
theorem dX2_knot_40 : decode cX2_knot 40 = .ok (.aload_n 0, 1) := by decide +kernel
theorem dX2_knot_41 : decode cX2_knot 41 = .ok (.getfield 19, 3) := by decide +kernel
theorem dX2_knot_44 : decode cX2_knot 44 = .ok (.iconst 0, 1) := by decide +kernel
theorem dX2_knot_45 : decode cX2_knot 45 = .ok (.invokevirtual 27, 3) := by decide +kernel
theorem dX2_knot_48 : decode cX2_knot 48 = .ok (.iastore, 1) := by decide +kernel
theorem dX2_knot_49 : decode cX2_knot 49 = .ok (.iinc 3 1, 3) := by decide +kernel
theorem dX2_knot_52 : decode cX2_knot 52 = .ok (.goto (-45), 3) := by decide +kernel
theorem dX2_knot_55 : decode cX2_knot 55 = .ok (.return_, 1) := by decide +kernel
set_option maxRecDepth 20000 in
theorem ggX2_partAt_X7_bit : GoodIn wsX2_partAt wsX7_bit := goodIn_r _ [5] (by decide +kernel) (by decide +kernel)
set_option maxRecDepth 20000 in
theorem gX2_partAt_X7_bit_n23 : GoodIn wsX2_partAt (wsX7_bit) := ggX2_partAt_X7_bit
theorem dX2_partAt_0 : decode cX2_partAt 0 = .ok (.aload_n 0, 1) := by decide +kernel
theorem dX2_partAt_1 : decode cX2_partAt 1 = .ok (.getfield 19, 3) := by decide +kernel
theorem dX2_partAt_4 : decode cX2_partAt 4 = .ok (.iload_n 1, 1) := by decide +kernel
theorem dX2_partAt_5 : decode cX2_partAt 5 = .ok (.invokestatic 23, 3) := by decide +kernel
theorem dX2_partAt_8 : decode cX2_partAt 8 = .ok (.iconst 1, 1) := by decide +kernel
theorem dX2_partAt_9 : decode cX2_partAt 9 = .ok (.if_icmp .ne 5, 3) := by decide +kernel
theorem dX2_partAt_12 : decode cX2_partAt 12 = .ok (.iconst 0, 1) := by decide +kernel
theorem dX2_partAt_13 : decode cX2_partAt 13 = .ok (.ireturn, 1) := by decide +kernel
theorem dX2_partAt_14 : decode cX2_partAt 14 = .ok (.iconst 1, 1) := by decide +kernel
theorem dX2_partAt_15 : decode cX2_partAt 15 = .ok (.iload_n 1, 1) := by decide +kernel
theorem dX2_partAt_16 : decode cX2_partAt 16 = .ok (.ishl, 1) := by decide +kernel
theorem dX2_partAt_17 : decode cX2_partAt 17 = .ok (.istore_n 2, 1) := by decide +kernel
theorem dX2_partAt_18 : decode cX2_partAt 18 = .ok (.iconst 1, 1) := by decide +kernel
theorem dX2_partAt_19 : decode cX2_partAt 19 = .ok (.istore_n 3, 1) := by decide +kernel
theorem dX2_partAt_20 : decode cX2_partAt 20 = .ok (.iload_n 3, 1) := by decide +kernel
theorem dX2_partAt_21 : decode cX2_partAt 21 = .ok (.bipush 12, 2) := by decide +kernel
theorem dX2_partAt_23 : decode cX2_partAt 23 = .ok (.if_icmp .ge 53, 3) := by decide +kernel
theorem dX2_partAt_26 : decode cX2_partAt 26 = .ok (.iload_n 2, 1) := by decide +kernel
theorem dX2_partAt_27 : decode cX2_partAt 27 = .ok (.istore 4, 2) := by decide +kernel
theorem dX2_partAt_29 : decode cX2_partAt 29 = .ok (.iconst 0, 1) := by decide +kernel
theorem dX2_partAt_30 : decode cX2_partAt 30 = .ok (.istore 5, 2) := by decide +kernel
theorem dX2_partAt_32 : decode cX2_partAt 32 = .ok (.iload 5, 2) := by decide +kernel
theorem dX2_partAt_34 : decode cX2_partAt 34 = .ok (.bipush 12, 2) := by decide +kernel
theorem dX2_partAt_36 : decode cX2_partAt 36 = .ok (.if_icmp .ge 31, 3) := by decide +kernel
theorem dX2_partAt_39 : decode cX2_partAt 39 = .ok (.iload_n 2, 1) := by decide +kernel
theorem dX2_partAt_40 : decode cX2_partAt 40 = .ok (.iload 5, 2) := by decide +kernel
theorem dX2_partAt_42 : decode cX2_partAt 42 = .ok (.invokestatic 23, 3) := by decide +kernel
theorem dX2_partAt_45 : decode cX2_partAt 45 = .ok (.iconst 1, 1) := by decide +kernel
theorem dX2_partAt_46 : decode cX2_partAt 46 = .ok (.if_icmp .ne 15, 3) := by decide +kernel
theorem dX2_partAt_49 : decode cX2_partAt 49 = .ok (.iload 4, 2) := by decide +kernel
theorem dX2_partAt_51 : decode cX2_partAt 51 = .ok (.aload_n 0, 1) := by decide +kernel
theorem dX2_partAt_52 : decode cX2_partAt 52 = .ok (.getfield 9, 3) := by decide +kernel
theorem dX2_partAt_55 : decode cX2_partAt 55 = .ok (.iload 5, 2) := by decide +kernel
theorem dX2_partAt_57 : decode cX2_partAt 57 = .ok (.iaload, 1) := by decide +kernel
theorem dX2_partAt_58 : decode cX2_partAt 58 = .ok (.ior, 1) := by decide +kernel
theorem dX2_partAt_59 : decode cX2_partAt 59 = .ok (.istore 4, 2) := by decide +kernel
theorem dX2_partAt_61 : decode cX2_partAt 61 = .ok (.iinc 5 1, 3) := by decide +kernel
theorem dX2_partAt_64 : decode cX2_partAt 64 = .ok (.goto (-32), 3) := by decide +kernel
theorem dX2_partAt_67 : decode cX2_partAt 67 = .ok (.iload 4, 2) := by decide +kernel
theorem dX2_partAt_69 : decode cX2_partAt 69 = .ok (.istore_n 2, 1) := by decide +kernel
theorem dX2_partAt_70 : decode cX2_partAt 70 = .ok (.iinc 3 1, 3) := by decide +kernel
theorem dX2_partAt_73 : decode cX2_partAt 73 = .ok (.goto (-53), 3) := by decide +kernel
theorem dX2_partAt_76 : decode cX2_partAt 76 = .ok (.iload_n 2, 1) := by decide +kernel
theorem dX2_partAt_77 : decode cX2_partAt 77 = .ok (.ireturn, 1) := by decide +kernel
set_option maxRecDepth 20000 in
theorem ggX2_shapeOf_J6_bitCount_0f7a4 : GoodIn wsX2_shapeOf wsJ6_bitCount_0f7a4 := goodIn_r _ [4, 5, 6, 7] (by decide +kernel) (by decide +kernel)
set_option maxRecDepth 20000 in
theorem gX2_shapeOf_J6_bitCount_0f7a4 : GoodIn wsX2_shapeOf (va_wsS RX2 33 yJ6_bitCount_0f7a4 wsJ6_bitCount_0f7a4) := goodIn_app (goodIn_of _ (by decide +kernel)) ggX2_shapeOf_J6_bitCount_0f7a4
set_option maxRecDepth 20000 in
theorem ggX2_shapeOf_X2_squaresWith : GoodIn wsX2_shapeOf wsX2_squaresWith := goodIn_r _ [12, 13, 14, 15, 16, 1, 2, 3, 4, 5, 6, 7, 21, 22, 23] (by decide +kernel) (by decide +kernel)
set_option maxRecDepth 20000 in
theorem gX2_shapeOf_X2_squaresWith : GoodIn wsX2_shapeOf (wsV RX2 39 RX2 yX2_squaresWith wsX2_squaresWith) := goodIn_app (goodIn_of _ (by decide +kernel)) ggX2_shapeOf_X2_squaresWith
set_option maxRecDepth 20000 in
theorem ggX2_shapeOf_X2_joinsOf : GoodIn wsX2_shapeOf wsX2_joinsOf := goodIn_r _ [20, 13, 14, 15, 16, 1, 2, 3, 4, 5, 6, 7, 21, 22, 23] (by decide +kernel) (by decide +kernel)
set_option maxRecDepth 20000 in
theorem gX2_shapeOf_X2_joinsOf : GoodIn wsX2_shapeOf (wsV RX2 42 RX2 yX2_joinsOf wsX2_joinsOf) := goodIn_app (goodIn_of _ (by decide +kernel)) ggX2_shapeOf_X2_joinsOf
theorem dX2_shapeOf_0 : decode cX2_shapeOf 0 = .ok (.iload_n 1, 1) := by decide +kernel
theorem dX2_shapeOf_1 : decode cX2_shapeOf 1 = .ok (.invokestatic 33, 3) := by decide +kernel
theorem dX2_shapeOf_4 : decode cX2_shapeOf 4 = .ok (.istore_n 2, 1) := by decide +kernel
theorem dX2_shapeOf_5 : decode cX2_shapeOf 5 = .ok (.aload_n 0, 1) := by decide +kernel
theorem dX2_shapeOf_6 : decode cX2_shapeOf 6 = .ok (.iconst 1, 1) := by decide +kernel
theorem dX2_shapeOf_7 : decode cX2_shapeOf 7 = .ok (.iload_n 1, 1) := by decide +kernel
theorem dX2_shapeOf_8 : decode cX2_shapeOf 8 = .ok (.invokevirtual 39, 3) := by decide +kernel
theorem dX2_shapeOf_11 : decode cX2_shapeOf 11 = .ok (.istore_n 3, 1) := by decide +kernel
theorem dX2_shapeOf_12 : decode cX2_shapeOf 12 = .ok (.aload_n 0, 1) := by decide +kernel
theorem dX2_shapeOf_13 : decode cX2_shapeOf 13 = .ok (.iconst 2, 1) := by decide +kernel
theorem dX2_shapeOf_14 : decode cX2_shapeOf 14 = .ok (.iload_n 1, 1) := by decide +kernel
theorem dX2_shapeOf_15 : decode cX2_shapeOf 15 = .ok (.invokevirtual 39, 3) := by decide +kernel
theorem dX2_shapeOf_18 : decode cX2_shapeOf 18 = .ok (.istore 4, 2) := by decide +kernel
theorem dX2_shapeOf_20 : decode cX2_shapeOf 20 = .ok (.aload_n 0, 1) := by decide +kernel
theorem dX2_shapeOf_21 : decode cX2_shapeOf 21 = .ok (.iload_n 1, 1) := by decide +kernel
theorem dX2_shapeOf_22 : decode cX2_shapeOf 22 = .ok (.invokevirtual 42, 3) := by decide +kernel
theorem dX2_shapeOf_25 : decode cX2_shapeOf 25 = .ok (.istore 5, 2) := by decide +kernel
theorem dX2_shapeOf_27 : decode cX2_shapeOf 27 = .ok (.iload_n 2, 1) := by decide +kernel
theorem dX2_shapeOf_28 : decode cX2_shapeOf 28 = .ok (.iconst 1, 1) := by decide +kernel
theorem dX2_shapeOf_29 : decode cX2_shapeOf 29 = .ok (.if_icmp .ne 5, 3) := by decide +kernel
theorem dX2_shapeOf_32 : decode cX2_shapeOf 32 = .ok (.iconst 0, 1) := by decide +kernel
theorem dX2_shapeOf_33 : decode cX2_shapeOf 33 = .ok (.ireturn, 1) := by decide +kernel
theorem dX2_shapeOf_34 : decode cX2_shapeOf 34 = .ok (.iload 5, 2) := by decide +kernel
theorem dX2_shapeOf_36 : decode cX2_shapeOf 36 = .ok (.iload_n 2, 1) := by decide +kernel
theorem dX2_shapeOf_37 : decode cX2_shapeOf 37 = .ok (.iconst 1, 1) := by decide +kernel
theorem dX2_shapeOf_38 : decode cX2_shapeOf 38 = .ok (.isub, 1) := by decide +kernel
theorem dX2_shapeOf_39 : decode cX2_shapeOf 39 = .ok (.if_icmp .ne 17, 3) := by decide +kernel
theorem dX2_shapeOf_42 : decode cX2_shapeOf 42 = .ok (.iload_n 3, 1) := by decide +kernel
theorem dX2_shapeOf_43 : decode cX2_shapeOf 43 = .ok (.iload 4, 2) := by decide +kernel
theorem dX2_shapeOf_45 : decode cX2_shapeOf 45 = .ok (.iadd, 1) := by decide +kernel
theorem dX2_shapeOf_46 : decode cX2_shapeOf 46 = .ok (.iload_n 2, 1) := by decide +kernel
theorem dX2_shapeOf_47 : decode cX2_shapeOf 47 = .ok (.if_icmp .ne 7, 3) := by decide +kernel
theorem dX2_shapeOf_50 : decode cX2_shapeOf 50 = .ok (.iconst 1, 1) := by decide +kernel
theorem dX2_shapeOf_51 : decode cX2_shapeOf 51 = .ok (.goto 4, 3) := by decide +kernel
theorem dX2_shapeOf_54 : decode cX2_shapeOf 54 = .ok (.iconst 3, 1) := by decide +kernel
theorem dX2_shapeOf_55 : decode cX2_shapeOf 55 = .ok (.ireturn, 1) := by decide +kernel
theorem dX2_shapeOf_56 : decode cX2_shapeOf 56 = .ok (.iload 5, 2) := by decide +kernel
theorem dX2_shapeOf_58 : decode cX2_shapeOf 58 = .ok (.iload_n 2, 1) := by decide +kernel
theorem dX2_shapeOf_59 : decode cX2_shapeOf 59 = .ok (.if_icmp .eq 5, 3) := by decide +kernel
theorem dX2_shapeOf_62 : decode cX2_shapeOf 62 = .ok (.iconst 5, 1) := by decide +kernel
theorem dX2_shapeOf_63 : decode cX2_shapeOf 63 = .ok (.ireturn, 1) := by decide +kernel
theorem dX2_shapeOf_64 : decode cX2_shapeOf 64 = .ok (.iload 4, 2) := by decide +kernel
theorem dX2_shapeOf_66 : decode cX2_shapeOf 66 = .ok (.iload_n 2, 1) := by decide +kernel
theorem dX2_shapeOf_67 : decode cX2_shapeOf 67 = .ok (.if_icmp .ne 13, 3) := by decide +kernel
theorem dX2_shapeOf_70 : decode cX2_shapeOf 70 = .ok (.iload_n 2, 1) := by decide +kernel
theorem dX2_shapeOf_71 : decode cX2_shapeOf 71 = .ok (.ifCond .ne 7, 3) := by decide +kernel
theorem dX2_shapeOf_74 : decode cX2_shapeOf 74 = .ok (.iconst 5, 1) := by decide +kernel
theorem dX2_shapeOf_75 : decode cX2_shapeOf 75 = .ok (.goto 4, 3) := by decide +kernel
theorem dX2_shapeOf_78 : decode cX2_shapeOf 78 = .ok (.iconst 2, 1) := by decide +kernel
theorem dX2_shapeOf_79 : decode cX2_shapeOf 79 = .ok (.ireturn, 1) := by decide +kernel
theorem dX2_shapeOf_80 : decode cX2_shapeOf 80 = .ok (.iload_n 3, 1) := by decide +kernel
theorem dX2_shapeOf_81 : decode cX2_shapeOf 81 = .ok (.iconst 1, 1) := by decide +kernel
theorem dX2_shapeOf_82 : decode cX2_shapeOf 82 = .ok (.if_icmp .ne 25, 3) := by decide +kernel
theorem dX2_shapeOf_85 : decode cX2_shapeOf 85 = .ok (.aload_n 0, 1) := by decide +kernel
theorem dX2_shapeOf_86 : decode cX2_shapeOf 86 = .ok (.iconst 3, 1) := by decide +kernel
theorem dX2_shapeOf_87 : decode cX2_shapeOf 87 = .ok (.iload_n 1, 1) := by decide +kernel
theorem dX2_shapeOf_88 : decode cX2_shapeOf 88 = .ok (.invokevirtual 39, 3) := by decide +kernel
theorem dX2_shapeOf_91 : decode cX2_shapeOf 91 = .ok (.iconst 1, 1) := by decide +kernel
theorem dX2_shapeOf_92 : decode cX2_shapeOf 92 = .ok (.if_icmp .ne 15, 3) := by decide +kernel
theorem dX2_shapeOf_95 : decode cX2_shapeOf 95 = .ok (.iload 4, 2) := by decide +kernel
theorem dX2_shapeOf_97 : decode cX2_shapeOf 97 = .ok (.iload_n 2, 1) := by decide +kernel
theorem dX2_shapeOf_98 : decode cX2_shapeOf 98 = .ok (.iconst 2, 1) := by decide +kernel
theorem dX2_shapeOf_99 : decode cX2_shapeOf 99 = .ok (.isub, 1) := by decide +kernel
theorem dX2_shapeOf_100 : decode cX2_shapeOf 100 = .ok (.if_icmp .ne 7, 3) := by decide +kernel
theorem dX2_shapeOf_103 : decode cX2_shapeOf 103 = .ok (.iconst 1, 1) := by decide +kernel
theorem dX2_shapeOf_104 : decode cX2_shapeOf 104 = .ok (.goto 4, 3) := by decide +kernel
theorem dX2_shapeOf_107 : decode cX2_shapeOf 107 = .ok (.iconst 0, 1) := by decide +kernel
theorem dX2_shapeOf_108 : decode cX2_shapeOf 108 = .ok (.istore 6, 2) := by decide +kernel
theorem dX2_shapeOf_110 : decode cX2_shapeOf 110 = .ok (.iload 6, 2) := by decide +kernel
theorem dX2_shapeOf_112 : decode cX2_shapeOf 112 = .ok (.ifCond .eq 7, 3) := by decide +kernel
theorem dX2_shapeOf_115 : decode cX2_shapeOf 115 = .ok (.iconst 4, 1) := by decide +kernel
theorem dX2_shapeOf_116 : decode cX2_shapeOf 116 = .ok (.goto 4, 3) := by decide +kernel
theorem dX2_shapeOf_119 : decode cX2_shapeOf 119 = .ok (.iconst 5, 1) := by decide +kernel
theorem dX2_shapeOf_120 : decode cX2_shapeOf 120 = .ok (.ireturn, 1) := by decide +kernel
set_option maxRecDepth 20000 in
theorem ggX2_joinsOf_X7_bit : GoodIn wsX2_joinsOf wsX7_bit := goodIn_r _ [4] (by decide +kernel) (by decide +kernel)
set_option maxRecDepth 20000 in
theorem gX2_joinsOf_X7_bit_n23 : GoodIn wsX2_joinsOf (wsX7_bit) := ggX2_joinsOf_X7_bit
set_option maxRecDepth 20000 in
theorem ggX2_joinsOf_J6_bitCount_0f7a4 : GoodIn wsX2_joinsOf wsJ6_bitCount_0f7a4 := goodIn_r _ [8, 9, 10, 11] (by decide +kernel) (by decide +kernel)
set_option maxRecDepth 20000 in
theorem gX2_joinsOf_J6_bitCount_0f7a4 : GoodIn wsX2_joinsOf (va_wsS RX2 33 yJ6_bitCount_0f7a4 wsJ6_bitCount_0f7a4) := goodIn_app (goodIn_of _ (by decide +kernel)) ggX2_joinsOf_J6_bitCount_0f7a4
theorem dX2_joinsOf_0 : decode cX2_joinsOf 0 = .ok (.iconst 0, 1) := by decide +kernel
theorem dX2_joinsOf_1 : decode cX2_joinsOf 1 = .ok (.istore_n 2, 1) := by decide +kernel
theorem dX2_joinsOf_2 : decode cX2_joinsOf 2 = .ok (.iconst 0, 1) := by decide +kernel
theorem dX2_joinsOf_3 : decode cX2_joinsOf 3 = .ok (.istore_n 3, 1) := by decide +kernel
theorem dX2_joinsOf_4 : decode cX2_joinsOf 4 = .ok (.iload_n 3, 1) := by decide +kernel
theorem dX2_joinsOf_5 : decode cX2_joinsOf 5 = .ok (.bipush 12, 2) := by decide +kernel
theorem dX2_joinsOf_7 : decode cX2_joinsOf 7 = .ok (.if_icmp .ge 30, 3) := by decide +kernel
theorem dX2_joinsOf_10 : decode cX2_joinsOf 10 = .ok (.iload_n 1, 1) := by decide +kernel
theorem dX2_joinsOf_11 : decode cX2_joinsOf 11 = .ok (.iload_n 3, 1) := by decide +kernel
theorem dX2_joinsOf_12 : decode cX2_joinsOf 12 = .ok (.invokestatic 23, 3) := by decide +kernel
theorem dX2_joinsOf_15 : decode cX2_joinsOf 15 = .ok (.iconst 1, 1) := by decide +kernel
theorem dX2_joinsOf_16 : decode cX2_joinsOf 16 = .ok (.if_icmp .ne 15, 3) := by decide +kernel
theorem dX2_joinsOf_19 : decode cX2_joinsOf 19 = .ok (.iload_n 2, 1) := by decide +kernel
theorem dX2_joinsOf_20 : decode cX2_joinsOf 20 = .ok (.aload_n 0, 1) := by decide +kernel
theorem dX2_joinsOf_21 : decode cX2_joinsOf 21 = .ok (.getfield 9, 3) := by decide +kernel
theorem dX2_joinsOf_24 : decode cX2_joinsOf 24 = .ok (.iload_n 3, 1) := by decide +kernel
theorem dX2_joinsOf_25 : decode cX2_joinsOf 25 = .ok (.iaload, 1) := by decide +kernel
theorem dX2_joinsOf_26 : decode cX2_joinsOf 26 = .ok (.invokestatic 33, 3) := by decide +kernel
theorem dX2_joinsOf_29 : decode cX2_joinsOf 29 = .ok (.iadd, 1) := by decide +kernel
theorem dX2_joinsOf_30 : decode cX2_joinsOf 30 = .ok (.istore_n 2, 1) := by decide +kernel
theorem dX2_joinsOf_31 : decode cX2_joinsOf 31 = .ok (.iinc 3 1, 3) := by decide +kernel
theorem dX2_joinsOf_34 : decode cX2_joinsOf 34 = .ok (.goto (-30), 3) := by decide +kernel
theorem dX2_joinsOf_37 : decode cX2_joinsOf 37 = .ok (.iload_n 2, 1) := by decide +kernel
theorem dX2_joinsOf_38 : decode cX2_joinsOf 38 = .ok (.iconst 2, 1) := by decide +kernel
theorem dX2_joinsOf_39 : decode cX2_joinsOf 39 = .ok (.idiv, 1) := by decide +kernel
theorem dX2_joinsOf_40 : decode cX2_joinsOf 40 = .ok (.ireturn, 1) := by decide +kernel
set_option maxRecDepth 20000 in
theorem ggX2_squaresWith_X7_bit : GoodIn wsX2_squaresWith wsX7_bit := goodIn_r _ [4] (by decide +kernel) (by decide +kernel)
set_option maxRecDepth 20000 in
theorem gX2_squaresWith_X7_bit_n23 : GoodIn wsX2_squaresWith (wsX7_bit) := ggX2_squaresWith_X7_bit
set_option maxRecDepth 20000 in
theorem ggX2_squaresWith_J6_bitCount_0f7a4 : GoodIn wsX2_squaresWith wsJ6_bitCount_0f7a4 := goodIn_r _ [8, 9, 10, 11] (by decide +kernel) (by decide +kernel)
set_option maxRecDepth 20000 in
theorem gX2_squaresWith_J6_bitCount_0f7a4 : GoodIn wsX2_squaresWith (va_wsS RX2 33 yJ6_bitCount_0f7a4 wsJ6_bitCount_0f7a4) := goodIn_app (goodIn_of _ (by decide +kernel)) ggX2_squaresWith_J6_bitCount_0f7a4
theorem dX2_squaresWith_0 : decode cX2_squaresWith 0 = .ok (.iconst 0, 1) := by decide +kernel
theorem dX2_squaresWith_1 : decode cX2_squaresWith 1 = .ok (.istore_n 3, 1) := by decide +kernel
theorem dX2_squaresWith_2 : decode cX2_squaresWith 2 = .ok (.iconst 0, 1) := by decide +kernel
theorem dX2_squaresWith_3 : decode cX2_squaresWith 3 = .ok (.istore 4, 2) := by decide +kernel
theorem dX2_squaresWith_5 : decode cX2_squaresWith 5 = .ok (.iload 4, 2) := by decide +kernel
theorem dX2_squaresWith_7 : decode cX2_squaresWith 7 = .ok (.bipush 12, 2) := by decide +kernel
theorem dX2_squaresWith_9 : decode cX2_squaresWith 9 = .ok (.if_icmp .ge 36, 3) := by decide +kernel
theorem dX2_squaresWith_12 : decode cX2_squaresWith 12 = .ok (.iload_n 2, 1) := by decide +kernel
theorem dX2_squaresWith_13 : decode cX2_squaresWith 13 = .ok (.iload 4, 2) := by decide +kernel
theorem dX2_squaresWith_15 : decode cX2_squaresWith 15 = .ok (.invokestatic 23, 3) := by decide +kernel
theorem dX2_squaresWith_18 : decode cX2_squaresWith 18 = .ok (.iconst 1, 1) := by decide +kernel
theorem dX2_squaresWith_19 : decode cX2_squaresWith 19 = .ok (.if_icmp .ne 20, 3) := by decide +kernel
theorem dX2_squaresWith_22 : decode cX2_squaresWith 22 = .ok (.aload_n 0, 1) := by decide +kernel
theorem dX2_squaresWith_23 : decode cX2_squaresWith 23 = .ok (.getfield 9, 3) := by decide +kernel
theorem dX2_squaresWith_26 : decode cX2_squaresWith 26 = .ok (.iload 4, 2) := by decide +kernel
theorem dX2_squaresWith_28 : decode cX2_squaresWith 28 = .ok (.iaload, 1) := by decide +kernel
theorem dX2_squaresWith_29 : decode cX2_squaresWith 29 = .ok (.invokestatic 33, 3) := by decide +kernel
theorem dX2_squaresWith_32 : decode cX2_squaresWith 32 = .ok (.iload_n 1, 1) := by decide +kernel
theorem dX2_squaresWith_33 : decode cX2_squaresWith 33 = .ok (.if_icmp .ne 6, 3) := by decide +kernel
theorem dX2_squaresWith_36 : decode cX2_squaresWith 36 = .ok (.iinc 3 1, 3) := by decide +kernel
theorem dX2_squaresWith_39 : decode cX2_squaresWith 39 = .ok (.iinc 4 1, 3) := by decide +kernel
theorem dX2_squaresWith_42 : decode cX2_squaresWith 42 = .ok (.goto (-37), 3) := by decide +kernel
theorem dX2_squaresWith_45 : decode cX2_squaresWith 45 = .ok (.iload_n 3, 1) := by decide +kernel
theorem dX2_squaresWith_46 : decode cX2_squaresWith 46 = .ok (.ireturn, 1) := by decide +kernel
set_option maxRecDepth 20000 in
theorem ggX2_around_J6_numberOfTrailingZeros_0f7a4 : GoodIn wsX2_around wsJ6_numberOfTrailingZeros_0f7a4 := goodIn_r _ [5, 6] (by decide +kernel) (by decide +kernel)
set_option maxRecDepth 20000 in
theorem gX2_around_J6_numberOfTrailingZeros_0f7a4 : GoodIn wsX2_around (va_wsS RX2 45 yJ6_numberOfTrailingZeros_0f7a4 wsJ6_numberOfTrailingZeros_0f7a4) := goodIn_app (goodIn_of _ (by decide +kernel)) ggX2_around_J6_numberOfTrailingZeros_0f7a4
theorem dX2_around_0 : decode cX2_around 0 = .ok (.iconst 0, 1) := by decide +kernel
theorem dX2_around_1 : decode cX2_around 1 = .ok (.istore_n 3, 1) := by decide +kernel
theorem dX2_around_2 : decode cX2_around 2 = .ok (.iload_n 1, 1) := by decide +kernel
theorem dX2_around_3 : decode cX2_around 3 = .ok (.istore 4, 2) := by decide +kernel
theorem dX2_around_5 : decode cX2_around 5 = .ok (.iconst 0, 1) := by decide +kernel
theorem dX2_around_6 : decode cX2_around 6 = .ok (.istore 5, 2) := by decide +kernel
theorem dX2_around_8 : decode cX2_around 8 = .ok (.iload 5, 2) := by decide +kernel
theorem dX2_around_10 : decode cX2_around 10 = .ok (.iload_n 2, 1) := by decide +kernel
theorem dX2_around_11 : decode cX2_around 11 = .ok (.if_icmp .ge 48, 3) := by decide +kernel
theorem dX2_around_14 : decode cX2_around 14 = .ok (.iload 4, 2) := by decide +kernel
theorem dX2_around_16 : decode cX2_around 16 = .ok (.ifCond .lt 10, 3) := by decide +kernel
theorem dX2_around_19 : decode cX2_around 19 = .ok (.iload 4, 2) := by decide +kernel
theorem dX2_around_21 : decode cX2_around 21 = .ok (.bipush 12, 2) := by decide +kernel
theorem dX2_around_23 : decode cX2_around 23 = .ok (.if_icmp .lt 5, 3) := by decide +kernel
theorem dX2_around_26 : decode cX2_around 26 = .ok (.iconst (-1), 1) := by decide +kernel
theorem dX2_around_27 : decode cX2_around 27 = .ok (.ireturn, 1) := by decide +kernel
theorem dX2_around_28 : decode cX2_around 28 = .ok (.aload_n 0, 1) := by decide +kernel
theorem dX2_around_29 : decode cX2_around 29 = .ok (.getfield 9, 3) := by decide +kernel
theorem dX2_around_32 : decode cX2_around 32 = .ok (.iload 4, 2) := by decide +kernel
theorem dX2_around_34 : decode cX2_around 34 = .ok (.iaload, 1) := by decide +kernel
theorem dX2_around_35 : decode cX2_around 35 = .ok (.iload_n 3, 1) := by decide +kernel
theorem dX2_around_36 : decode cX2_around 36 = .ok (.iconst (-1), 1) := by decide +kernel
theorem dX2_around_37 : decode cX2_around 37 = .ok (.ixor, 1) := by decide +kernel
theorem dX2_around_38 : decode cX2_around 38 = .ok (.iand, 1) := by decide +kernel
theorem dX2_around_39 : decode cX2_around 39 = .ok (.istore 6, 2) := by decide +kernel
theorem dX2_around_41 : decode cX2_around 41 = .ok (.iconst 1, 1) := by decide +kernel
theorem dX2_around_42 : decode cX2_around 42 = .ok (.iload 4, 2) := by decide +kernel
theorem dX2_around_44 : decode cX2_around 44 = .ok (.ishl, 1) := by decide +kernel
theorem dX2_around_45 : decode cX2_around 45 = .ok (.istore_n 3, 1) := by decide +kernel
theorem dX2_around_46 : decode cX2_around 46 = .ok (.iload 6, 2) := by decide +kernel
theorem dX2_around_48 : decode cX2_around 48 = .ok (.invokestatic 45, 3) := by decide +kernel
theorem dX2_around_51 : decode cX2_around 51 = .ok (.istore 4, 2) := by decide +kernel
theorem dX2_around_53 : decode cX2_around 53 = .ok (.iinc 5 1, 3) := by decide +kernel
theorem dX2_around_56 : decode cX2_around 56 = .ok (.goto (-48), 3) := by decide +kernel
theorem dX2_around_59 : decode cX2_around 59 = .ok (.iload 4, 2) := by decide +kernel
theorem dX2_around_61 : decode cX2_around 61 = .ok (.ireturn, 1) := by decide +kernel
set_option maxRecDepth 20000 in
theorem ggX2_stepsTo_X2_around : GoodIn wsX2_stepsTo wsX2_around := goodIn_r _ [5, 6, 7, 8, 9, 10, 11, 12, 13, 14] (by decide +kernel) (by decide +kernel)
set_option maxRecDepth 20000 in
theorem gX2_stepsTo_X2_around : GoodIn wsX2_stepsTo (wsV RX2 48 RX2 yX2_around wsX2_around) := goodIn_app (goodIn_of _ (by decide +kernel)) ggX2_stepsTo_X2_around
theorem dX2_stepsTo_0 : decode cX2_stepsTo 0 = .ok (.iconst 0, 1) := by decide +kernel
theorem dX2_stepsTo_1 : decode cX2_stepsTo 1 = .ok (.istore_n 3, 1) := by decide +kernel
theorem dX2_stepsTo_2 : decode cX2_stepsTo 2 = .ok (.iload_n 3, 1) := by decide +kernel
theorem dX2_stepsTo_3 : decode cX2_stepsTo 3 = .ok (.bipush 12, 2) := by decide +kernel
theorem dX2_stepsTo_5 : decode cX2_stepsTo 5 = .ok (.if_icmp .ge 21, 3) := by decide +kernel
theorem dX2_stepsTo_8 : decode cX2_stepsTo 8 = .ok (.aload_n 0, 1) := by decide +kernel
theorem dX2_stepsTo_9 : decode cX2_stepsTo 9 = .ok (.iload_n 1, 1) := by decide +kernel
theorem dX2_stepsTo_10 : decode cX2_stepsTo 10 = .ok (.iload_n 3, 1) := by decide +kernel
theorem dX2_stepsTo_11 : decode cX2_stepsTo 11 = .ok (.invokevirtual 48, 3) := by decide +kernel
theorem dX2_stepsTo_14 : decode cX2_stepsTo 14 = .ok (.iload_n 2, 1) := by decide +kernel
theorem dX2_stepsTo_15 : decode cX2_stepsTo 15 = .ok (.if_icmp .ne 5, 3) := by decide +kernel
theorem dX2_stepsTo_18 : decode cX2_stepsTo 18 = .ok (.iload_n 3, 1) := by decide +kernel
theorem dX2_stepsTo_19 : decode cX2_stepsTo 19 = .ok (.ireturn, 1) := by decide +kernel
theorem dX2_stepsTo_20 : decode cX2_stepsTo 20 = .ok (.iinc 3 1, 3) := by decide +kernel
theorem dX2_stepsTo_23 : decode cX2_stepsTo 23 = .ok (.goto (-21), 3) := by decide +kernel
theorem dX2_stepsTo_26 : decode cX2_stepsTo 26 = .ok (.iconst (-1), 1) := by decide +kernel
theorem dX2_stepsTo_27 : decode cX2_stepsTo 27 = .ok (.ireturn, 1) := by decide +kernel
set_option maxRecDepth 20000 in
theorem ggX3_init_X5_init : GoodIn wsX3_init wsX5_init := goodIn_r _ [11, 12, 2, 3, 13, 14, 15, 16, 17, 18, 19, 20, 21, 22, 23, 24, 25, 26] (by decide +kernel) (by decide +kernel)
set_option maxRecDepth 20000 in
theorem gX3_init_X5_init : GoodIn wsX3_init (wsX5_init) := ggX3_init_X5_init
theorem dX3_init_0 : decode cX3_init 0 = .ok (.aload_n 0, 1) := by decide +kernel
theorem dX3_init_1 : decode cX3_init 1 = .ok (.invokespecial 3, 3) := by decide +kernel
theorem dX3_init_4 : decode cX3_init 4 = .ok (.aload_n 0, 1) := by decide +kernel
theorem dX3_init_5 : decode cX3_init 5 = .ok (.new 9, 3) := by decide +kernel
theorem dX3_init_8 : decode cX3_init 8 = .ok (.dup, 1) := by decide +kernel
theorem dX3_init_9 : decode cX3_init 9 = .ok (.invokespecial 11, 3) := by decide +kernel
theorem dX3_init_12 : decode cX3_init 12 = .ok (.putfield 12, 3) := by decide +kernel
theorem dX3_init_15 : decode cX3_init 15 = .ok (.aload_n 0, 1) := by decide +kernel
theorem dX3_init_16 : decode cX3_init 16 = .ok (.aload_n 1, 1) := by decide +kernel
theorem dX3_init_17 : decode cX3_init 17 = .ok (.putfield 18, 3) := by decide +kernel
theorem dX3_init_20 : decode cX3_init 20 = .ok (.return_, 1) := by decide +kernel
set_option maxRecDepth 20000 in
theorem ggX3_read_X5_copy : GoodIn wsX3_read wsX5_copy := goodIn_r _ [9, 10, 11, 12, 13, 14, 15, 16, 17, 18, 19, 20, 21, 22, 178, 179, 180, 181, 182, 183, 184, 185, 186] (by decide +kernel) (by decide +kernel)
set_option maxRecDepth 20000 in
theorem gX3_read_X5_copy : GoodIn wsX3_read (wsV RX3 22 RX5 yX5_copy wsX5_copy) := goodIn_app (goodIn_of _ (by decide +kernel)) ggX3_read_X5_copy
set_option maxRecDepth 20000 in
theorem ggX3_read_X6_rewind : GoodIn wsX3_read wsX6_rewind := goodIn_r _ [27, 28, 29, 187, 188, 189, 190] (by decide +kernel) (by decide +kernel)
set_option maxRecDepth 20000 in
theorem gX3_read_X6_rewind : GoodIn wsX3_read (wsV RX3 33 RX6 yX6_rewind wsX6_rewind) := goodIn_app (goodIn_of _ (by decide +kernel)) ggX3_read_X6_rewind
set_option maxRecDepth 20000 in
theorem ggX3_read_X6_next : GoodIn wsX3_read wsX6_next := goodIn_r _ [33, 29, 28, 34, 35, 36, 37, 26, 38, 39, 40, 41, 42, 43, 44, 187, 188, 189, 190] (by decide +kernel) (by decide +kernel)
set_option maxRecDepth 20000 in
theorem gX3_read_X6_next : GoodIn wsX3_read (wsV RX3 38 RX6 yX6_next wsX6_next) := goodIn_app (goodIn_of _ (by decide +kernel)) ggX3_read_X6_next
set_option maxRecDepth 20000 in
theorem ggX3_read_X3_readLine : GoodIn wsX3_read wsX3_readLine := goodIn_r _ [49, 4, 1, 50, 51, 52, 53, 26, 54, 29, 28, 35, 55, 56, 57, 58, 59, 60, 61, 62, 63, 64, 65, 66, 67, 68, 69, 70, 71, 72, 73, 74, 75, 76, 77, 78, 79, 80, 81, 82, 83, 84, 85, 86, 87, 88, 89, 90, 91, 92, 93, 94, 95, 96, 97, 98, 99, 100, 101, 102, 103, 104, 105, 106, 48, 107, 2, 108, 109, 110, 111, 30, 31, 32, 33, 34, 36, 37, 38, 39, 40, 41, 42, 43, 44, 112, 113, 114, 115, 116, 117, 118, 119, 120, 121, 122, 123, 124, 125, 126, 127, 8, 128, 10, 11, 12, 13, 129, 130, 131, 132, 14, 15, 16, 133, 134, 135, 136, 137, 138, 139, 140, 141, 142, 143, 144, 145, 146, 147, 148, 149, 150, 151, 152, 153, 154, 155, 156, 157, 158, 159, 160, 161, 162, 163, 164, 165, 17, 22, 166, 167, 168, 174, 175, 176, 177, 178, 179, 180, 181, 182, 183, 184, 185, 186, 187, 188, 189, 190] (by decide +kernel) (by decide +kernel)
set_option maxRecDepth 20000 in
theorem gX3_read_X3_readLine : GoodIn wsX3_read (wsV RX3 41 RX3 yX3_readLine wsX3_readLine) := goodIn_app (goodIn_of _ (by decide +kernel)) ggX3_read_X3_readLine
set_option maxRecDepth 20000 in
theorem ggX3_read_X3_readBehindLine : GoodIn wsX3_read wsX3_readBehindLine := goodIn_r _ [172, 2, 4, 3, 30, 31, 32, 26, 33, 29, 28, 34, 35, 36, 37, 38, 39, 40, 41, 42, 43, 44, 173, 117, 118, 119, 51, 52, 53, 54, 55, 56, 57, 58, 59, 60, 61, 62, 63, 64, 65, 66, 67, 68, 69, 70, 71, 72, 73, 74, 75, 76, 77, 78, 79, 80, 81, 82, 83, 84, 85, 86, 87, 88, 89, 90, 91, 92, 93, 94, 95, 96, 97, 98, 99, 100, 101, 102, 103, 120, 121, 122, 48, 123, 124, 174, 175, 176, 177, 187, 188, 189, 190] (by decide +kernel) (by decide +kernel)
set_option maxRecDepth 20000 in
theorem gX3_read_X3_readBehindLine : GoodIn wsX3_read (wsV RX3 44 RX3 yX3_readBehindLine wsX3_readBehindLine) := goodIn_app (goodIn_of _ (by decide +kernel)) ggX3_read_X3_readBehindLine
theorem dX3_read_0 : decode cX3_read 0 = .ok (.aload_n 0, 1) := by decide +kernel
theorem dX3_read_1 : decode cX3_read 1 = .ok (.getfield 12, 3) := by decide +kernel
theorem dX3_read_4 : decode cX3_read 4 = .ok (.aload_n 1, 1) := by decide +kernel
theorem dX3_read_5 : decode cX3_read 5 = .ok (.invokevirtual 22, 3) := by decide +kernel
theorem dX3_read_8 : decode cX3_read 8 = .ok (.aload_n 0, 1) := by decide +kernel
theorem dX3_read_9 : decode cX3_read 9 = .ok (.iconst (-1), 1) := by decide +kernel
theorem dX3_read_10 : decode cX3_read 10 = .ok (.putfield 26, 3) := by decide +kernel
theorem dX3_read_13 : decode cX3_read 13 = .ok (.aload_n 0, 1) := by decide +kernel
theorem dX3_read_14 : decode cX3_read 14 = .ok (.iconst 0, 1) := by decide +kernel
theorem dX3_read_15 : decode cX3_read 15 = .ok (.putfield 30, 3) := by decide +kernel
theorem dX3_read_18 : decode cX3_read 18 = .ok (.aload_n 0, 1) := by decide +kernel
theorem dX3_read_19 : decode cX3_read 19 = .ok (.getfield 18, 3) := by decide +kernel
theorem dX3_read_22 : decode cX3_read 22 = .ok (.invokevirtual 33, 3) := by decide +kernel
theorem dX3_read_25 : decode cX3_read 25 = .ok (.iconst 1, 1) := by decide +kernel
theorem dX3_read_26 : decode cX3_read 26 = .ok (.istore_n 2, 1) := by decide +kernel
theorem dX3_read_27 : decode cX3_read 27 = .ok (.iload_n 2, 1) := by decide +kernel
theorem dX3_read_28 : decode cX3_read 28 = .ok (.ifCond .eq 41, 3) := by decide +kernel
theorem dX3_read_31 : decode cX3_read 31 = .ok (.aload_n 0, 1) := by decide +kernel
theorem dX3_read_32 : decode cX3_read 32 = .ok (.getfield 30, 3) := by decide +kernel
theorem dX3_read_35 : decode cX3_read 35 = .ok (.bipush 12, 2) := by decide +kernel
theorem dX3_read_37 : decode cX3_read 37 = .ok (.if_icmp .ge 32, 3) := by decide +kernel
theorem dX3_read_40 : decode cX3_read 40 = .ok (.aload_n 0, 1) := by decide +kernel
theorem dX3_read_41 : decode cX3_read 41 = .ok (.getfield 18, 3) := by decide +kernel
theorem dX3_read_44 : decode cX3_read 44 = .ok (.invokevirtual 38, 3) := by decide +kernel
theorem dX3_read_47 : decode cX3_read 47 = .ok (.aload_n 0, 1) := by decide +kernel
theorem dX3_read_48 : decode cX3_read 48 = .ok (.invokevirtual 41, 3) := by decide +kernel
theorem dX3_read_51 : decode cX3_read 51 = .ok (.aload_n 0, 1) := by decide +kernel
theorem dX3_read_52 : decode cX3_read 52 = .ok (.dup, 1) := by decide +kernel
theorem dX3_read_53 : decode cX3_read 53 = .ok (.getfield 30, 3) := by decide +kernel
theorem dX3_read_56 : decode cX3_read 56 = .ok (.iconst 1, 1) := by decide +kernel
theorem dX3_read_57 : decode cX3_read 57 = .ok (.iadd, 1) := by decide +kernel
theorem dX3_read_58 : decode cX3_read 58 = .ok (.putfield 30, 3) := by decide +kernel
theorem dX3_read_61 : decode cX3_read 61 = .ok (.aload_n 0, 1) := by decide +kernel
theorem dX3_read_62 : decode cX3_read 62 = .ok (.invokevirtual 44, 3) := by decide +kernel
theorem dX3_read_65 : decode cX3_read 65 = .ok (.istore_n 2, 1) := by decide +kernel
theorem dX3_read_66 : decode cX3_read 66 = .ok (.goto (-39), 3) := by decide +kernel
theorem dX3_read_69 : decode cX3_read 69 = .ok (.return_, 1) := by decide +kernel
set_option maxRecDepth 20000 in
theorem ggX3_readBehindLine_X6_next : GoodIn wsX3_readBehindLine wsX6_next := goodIn_r _ [8, 9, 10, 11, 12, 13, 14, 7, 15, 16, 17, 18, 19, 20, 21, 89, 90, 91, 92] (by decide +kernel) (by decide +kernel)
set_option maxRecDepth 20000 in
theorem gX3_readBehindLine_X6_next : GoodIn wsX3_readBehindLine (wsV RX3 38 RX6 yX6_next wsX6_next) := goodIn_app (goodIn_of _ (by decide +kernel)) ggX3_readBehindLine_X6_next
set_option maxRecDepth 20000 in
theorem ggX3_readBehindLine_X6_isOver : GoodIn wsX3_readBehindLine wsX6_isOver := goodIn_r _ [25, 10, 11, 89, 90, 91, 92] (by decide +kernel) (by decide +kernel)
set_option maxRecDepth 20000 in
theorem gX3_readBehindLine_X6_isOver : GoodIn wsX3_readBehindLine (wsV RX3 48 RX6 yX6_isOver wsX6_isOver) := goodIn_app (goodIn_of _ (by decide +kernel)) ggX3_readBehindLine_X6_isOver
set_option maxRecDepth 20000 in
theorem ggX3_readBehindLine_X6_spells : GoodIn wsX3_readBehindLine wsX6_spells := goodIn_r _ [29, 9, 10, 12, 30, 31, 32, 33, 34, 35, 36, 37, 38, 39, 40, 41, 42, 43, 44, 45, 46, 47, 48, 49, 50, 51, 52, 53, 54, 55, 56, 57, 58, 59, 60, 61, 62, 63, 64, 65, 66, 67, 68, 69, 70, 71, 72, 73, 74, 75, 76, 77, 78, 89, 90, 91, 92] (by decide +kernel) (by decide +kernel)
set_option maxRecDepth 20000 in
theorem gX3_readBehindLine_X6_spells : GoodIn wsX3_readBehindLine (wsV RX3 53 RX6 yX6_spells wsX6_spells) := goodIn_app (goodIn_of _ (by decide +kernel)) ggX3_readBehindLine_X6_spells
set_option maxRecDepth 20000 in
theorem ggX3_readBehindLine_X3_refuseIf : GoodIn wsX3_readBehindLine wsX3_refuseIf := goodIn_r _ [83, 1, 2, 84, 85, 86, 87, 88, 89, 90, 91, 92] (by decide +kernel) (by decide +kernel)
set_option maxRecDepth 20000 in
theorem gX3_readBehindLine_X3_refuseIf : GoodIn wsX3_readBehindLine (wsV RX3 57 RX3 yX3_refuseIf wsX3_refuseIf) := goodIn_app (goodIn_of _ (by decide +kernel)) ggX3_readBehindLine_X3_refuseIf
theorem dX3_readBehindLine_0 : decode cX3_readBehindLine 0 = .ok (.aload_n 0, 1) := by decide +kernel
theorem dX3_readBehindLine_1 : decode cX3_readBehindLine 1 = .ok (.getfield 26, 3) := by decide +kernel
theorem dX3_readBehindLine_4 : decode cX3_readBehindLine 4 = .ok (.iconst (-1), 1) := by decide +kernel
theorem dX3_readBehindLine_5 : decode cX3_readBehindLine 5 = .ok (.if_icmp .eq 5, 3) := by decide +kernel
theorem dX3_readBehindLine_8 : decode cX3_readBehindLine 8 = .ok (.iconst 0, 1) := by decide +kernel
theorem dX3_readBehindLine_9 : decode cX3_readBehindLine 9 = .ok (.ireturn, 1) := by decide +kernel
theorem dX3_readBehindLine_10 : decode cX3_readBehindLine 10 = .ok (.aload_n 0, 1) := by decide +kernel
theorem dX3_readBehindLine_11 : decode cX3_readBehindLine 11 = .ok (.getfield 18, 3) := by decide +kernel
theorem dX3_readBehindLine_14 : decode cX3_readBehindLine 14 = .ok (.invokevirtual 38, 3) := by decide +kernel
theorem dX3_readBehindLine_17 : decode cX3_readBehindLine 17 = .ok (.aload_n 0, 1) := by decide +kernel
theorem dX3_readBehindLine_18 : decode cX3_readBehindLine 18 = .ok (.getfield 18, 3) := by decide +kernel
theorem dX3_readBehindLine_21 : decode cX3_readBehindLine 21 = .ok (.invokevirtual 48, 3) := by decide +kernel
theorem dX3_readBehindLine_24 : decode cX3_readBehindLine 24 = .ok (.ifCond .eq 5, 3) := by decide +kernel
theorem dX3_readBehindLine_27 : decode cX3_readBehindLine 27 = .ok (.iconst 0, 1) := by decide +kernel
theorem dX3_readBehindLine_28 : decode cX3_readBehindLine 28 = .ok (.ireturn, 1) := by decide +kernel
theorem dX3_readBehindLine_29 : decode cX3_readBehindLine 29 = .ok (.aload_n 0, 1) := by decide +kernel
theorem dX3_readBehindLine_30 : decode cX3_readBehindLine 30 = .ok (.aload_n 0, 1) := by decide +kernel
theorem dX3_readBehindLine_31 : decode cX3_readBehindLine 31 = .ok (.getfield 18, 3) := by decide +kernel
theorem dX3_readBehindLine_34 : decode cX3_readBehindLine 34 = .ok (.ldc 51, 2) := by decide +kernel
theorem dX3_readBehindLine_36 : decode cX3_readBehindLine 36 = .ok (.invokevirtual 53, 3) := by decide +kernel
theorem dX3_readBehindLine_39 : decode cX3_readBehindLine 39 = .ok (.ifCond .eq 12, 3) := by decide +kernel
theorem dX3_readBehindLine_42 : decode cX3_readBehindLine 42 = .ok (.aload_n 0, 1) := by decide +kernel
theorem dX3_readBehindLine_43 : decode cX3_readBehindLine 43 = .ok (.getfield 30, 3) := by decide +kernel
theorem dX3_readBehindLine_46 : decode cX3_readBehindLine 46 = .ok (.bipush 12, 2) := by decide +kernel
theorem dX3_readBehindLine_48 : decode cX3_readBehindLine 48 = .ok (.if_icmp .lt 7, 3) := by decide +kernel
theorem dX3_readBehindLine_51 : decode cX3_readBehindLine 51 = .ok (.iconst 1, 1) := by decide +kernel
theorem dX3_readBehindLine_52 : decode cX3_readBehindLine 52 = .ok (.goto 4, 3) := by decide +kernel
theorem dX3_readBehindLine_55 : decode cX3_readBehindLine 55 = .ok (.iconst 0, 1) := by decide +kernel
theorem dX3_readBehindLine_56 : decode cX3_readBehindLine 56 = .ok (.invokevirtual 57, 3) := by decide +kernel
theorem dX3_readBehindLine_59 : decode cX3_readBehindLine 59 = .ok (.aload_n 0, 1) := by decide +kernel
theorem dX3_readBehindLine_60 : decode cX3_readBehindLine 60 = .ok (.getfield 26, 3) := by decide +kernel
theorem dX3_readBehindLine_63 : decode cX3_readBehindLine 63 = .ok (.iconst (-1), 1) := by decide +kernel
theorem dX3_readBehindLine_64 : decode cX3_readBehindLine 64 = .ok (.if_icmp .ne 7, 3) := by decide +kernel
theorem dX3_readBehindLine_67 : decode cX3_readBehindLine 67 = .ok (.iconst 1, 1) := by decide +kernel
theorem dX3_readBehindLine_68 : decode cX3_readBehindLine 68 = .ok (.goto 4, 3) := by decide +kernel
theorem dX3_readBehindLine_71 : decode cX3_readBehindLine 71 = .ok (.iconst 0, 1) := by decide +kernel
theorem dX3_readBehindLine_72 : decode cX3_readBehindLine 72 = .ok (.ireturn, 1) := by decide +kernel
set_option maxRecDepth 20000 in
theorem ggX3_readLine_X6_spells : GoodIn wsX3_readLine wsX6_spells := goodIn_r _ [8, 9, 10, 11, 12, 13, 14, 15, 16, 17, 18, 19, 20, 21, 22, 23, 24, 25, 26, 27, 28, 29, 30, 31, 32, 33, 34, 35, 36, 37, 38, 39, 40, 41, 42, 43, 44, 45, 46, 47, 48, 49, 50, 51, 52, 53, 54, 55, 56, 57, 58, 59, 60, 165, 166, 167, 168] (by decide +kernel) (by decide +kernel)
set_option maxRecDepth 20000 in
theorem gX3_readLine_X6_spells : GoodIn wsX3_readLine (wsV RX3 53 RX6 yX6_spells wsX6_spells) := goodIn_app (goodIn_of _ (by decide +kernel)) ggX3_readLine_X6_spells
set_option maxRecDepth 20000 in
theorem ggX3_readLine_X3_readSize : GoodIn wsX3_readLine wsX3_readSize := goodIn_r _ [65, 66, 2, 67, 68, 69, 64, 70, 1, 71, 72, 73, 7, 74, 9, 10, 75, 11, 76, 77, 78, 79, 80, 81, 82, 83, 84, 85, 86, 87, 88, 89, 90, 91, 92, 93, 94, 95, 96, 97, 98, 99, 100, 101, 102, 103, 104, 105, 106, 107, 108, 109, 110, 111, 112, 113, 152, 153, 154, 155, 165, 166, 167, 168, 156, 157, 158, 159, 160, 161, 162, 163, 164] (by decide +kernel) (by decide +kernel)
set_option maxRecDepth 20000 in
theorem gX3_readLine_X3_readSize : GoodIn wsX3_readLine (wsV RX3 63 RX3 yX3_readSize wsX3_readSize) := goodIn_app (goodIn_of _ (by decide +kernel)) ggX3_readLine_X3_readSize
set_option maxRecDepth 20000 in
theorem ggX3_readLine_X3_readHole : GoodIn wsX3_readLine wsX3_readHole := goodIn_r _ [117, 2, 118, 119, 66, 120, 121, 122, 123, 101, 124, 103, 104, 67, 68, 69, 64, 70, 1, 71, 72, 73, 7, 74, 9, 10, 75, 11, 76, 77, 78, 79, 80, 81, 82, 83, 84, 85, 86, 87, 88, 89, 90, 91, 92, 93, 94, 95, 96, 97, 125, 126, 127, 128, 129, 130, 131, 132, 133, 134, 135, 111, 136, 137, 152, 153, 154, 155, 156, 157, 158, 159, 160, 161, 162, 163, 164, 165, 166, 167, 168] (by decide +kernel) (by decide +kernel)
set_option maxRecDepth 20000 in
theorem gX3_readLine_X3_readHole : GoodIn wsX3_readLine (wsV RX3 68 RX3 yX3_readHole wsX3_readHole) := goodIn_app (goodIn_of _ (by decide +kernel)) ggX3_readLine_X3_readHole
set_option maxRecDepth 20000 in
theorem ggX3_readLine_X3_readMan : GoodIn wsX3_readLine wsX3_readMan := goodIn_r _ [141, 2, 142, 118, 119, 66, 93, 94, 95, 64, 96, 1, 97, 67, 68, 69, 70, 71, 72, 73, 7, 74, 9, 10, 75, 11, 76, 77, 78, 79, 80, 81, 82, 83, 84, 85, 86, 87, 88, 89, 90, 91, 92, 121, 122, 123, 101, 124, 103, 104, 125, 126, 127, 128, 120, 129, 130, 131, 132, 133, 134, 135, 111, 136, 137, 143, 144, 145, 146, 147, 148, 112, 113, 149, 150, 152, 153, 154, 155, 156, 157, 158, 159, 160, 161, 162, 163, 164, 165, 166, 167, 168] (by decide +kernel) (by decide +kernel)
set_option maxRecDepth 20000 in
theorem gX3_readLine_X3_readMan : GoodIn wsX3_readLine (wsV RX3 73 RX3 yX3_readMan wsX3_readMan) := goodIn_app (goodIn_of _ (by decide +kernel)) ggX3_readLine_X3_readMan
set_option maxRecDepth 20000 in
theorem ggX3_readLine_X5_takeMenAway : GoodIn wsX3_readLine wsX5_takeMenAway := goodIn_r _ [110, 111, 112, 113, 156, 157, 158, 159, 160, 161, 162, 163, 164] (by decide +kernel) (by decide +kernel)
set_option maxRecDepth 20000 in
theorem gX3_readLine_X5_takeMenAway : GoodIn wsX3_readLine (wsV RX3 94 RX5 yX5_takeMenAway wsX5_takeMenAway) := goodIn_app (goodIn_of _ (by decide +kernel)) ggX3_readLine_X5_takeMenAway
set_option maxRecDepth 20000 in
theorem ggX3_readLine_X3_refuseIf : GoodIn wsX3_readLine wsX3_refuseIf := goodIn_r _ [96, 66, 1, 97, 152, 153, 154, 155, 165, 166, 167, 168] (by decide +kernel) (by decide +kernel)
set_option maxRecDepth 20000 in
theorem gX3_readLine_X3_refuseIf : GoodIn wsX3_readLine (wsV RX3 57 RX3 yX3_refuseIf wsX3_refuseIf) := goodIn_app (goodIn_of _ (by decide +kernel)) ggX3_readLine_X3_refuseIf
theorem dX3_readLine_0 : decode cX3_readLine 0 = .ok (.aload_n 0, 1) := by decide +kernel
theorem dX3_readLine_1 : decode cX3_readLine 1 = .ok (.getfield 18, 3) := by decide +kernel
theorem dX3_readLine_4 : decode cX3_readLine 4 = .ok (.ldc 61, 2) := by decide +kernel
theorem dX3_readLine_6 : decode cX3_readLine 6 = .ok (.invokevirtual 53, 3) := by decide +kernel
theorem dX3_readLine_9 : decode cX3_readLine 9 = .ok (.ifCond .eq 10, 3) := by decide +kernel
theorem dX3_readLine_12 : decode cX3_readLine 12 = .ok (.aload_n 0, 1) := by decide +kernel
theorem dX3_readLine_13 : decode cX3_readLine 13 = .ok (.invokevirtual 63, 3) := by decide +kernel
theorem dX3_readLine_16 : decode cX3_readLine 16 = .ok (.goto 198, 3) := by decide +kernel
theorem dX3_readLine_19 : decode cX3_readLine 19 = .ok (.aload_n 0, 1) := by decide +kernel
theorem dX3_readLine_20 : decode cX3_readLine 20 = .ok (.getfield 18, 3) := by decide +kernel
theorem dX3_readLine_23 : decode cX3_readLine 23 = .ok (.ldc 66, 2) := by decide +kernel
theorem dX3_readLine_25 : decode cX3_readLine 25 = .ok (.invokevirtual 53, 3) := by decide +kernel
theorem dX3_readLine_28 : decode cX3_readLine 28 = .ok (.ifCond .eq 10, 3) := by decide +kernel
theorem dX3_readLine_31 : decode cX3_readLine 31 = .ok (.aload_n 0, 1) := by decide +kernel
theorem dX3_readLine_32 : decode cX3_readLine 32 = .ok (.invokevirtual 68, 3) := by decide +kernel
theorem dX3_readLine_35 : decode cX3_readLine 35 = .ok (.goto 179, 3) := by decide +kernel
theorem dX3_readLine_38 : decode cX3_readLine 38 = .ok (.aload_n 0, 1) := by decide +kernel
theorem dX3_readLine_39 : decode cX3_readLine 39 = .ok (.getfield 18, 3) := by decide +kernel
theorem dX3_readLine_42 : decode cX3_readLine 42 = .ok (.ldc 71, 2) := by decide +kernel
theorem dX3_readLine_44 : decode cX3_readLine 44 = .ok (.invokevirtual 53, 3) := by decide +kernel
theorem dX3_readLine_47 : decode cX3_readLine 47 = .ok (.ifCond .eq 11, 3) := by decide +kernel
theorem dX3_readLine_50 : decode cX3_readLine 50 = .ok (.aload_n 0, 1) := by decide +kernel
theorem dX3_readLine_51 : decode cX3_readLine 51 = .ok (.iconst 0, 1) := by decide +kernel
theorem dX3_readLine_52 : decode cX3_readLine 52 = .ok (.invokevirtual 73, 3) := by decide +kernel
theorem dX3_readLine_55 : decode cX3_readLine 55 = .ok (.goto 159, 3) := by decide +kernel
theorem dX3_readLine_58 : decode cX3_readLine 58 = .ok (.aload_n 0, 1) := by decide +kernel
theorem dX3_readLine_59 : decode cX3_readLine 59 = .ok (.getfield 18, 3) := by decide +kernel
theorem dX3_readLine_62 : decode cX3_readLine 62 = .ok (.ldc 77, 2) := by decide +kernel
theorem dX3_readLine_64 : decode cX3_readLine 64 = .ok (.invokevirtual 53, 3) := by decide +kernel
theorem dX3_readLine_67 : decode cX3_readLine 67 = .ok (.ifCond .eq 11, 3) := by decide +kernel
theorem dX3_readLine_70 : decode cX3_readLine 70 = .ok (.aload_n 0, 1) := by decide +kernel
theorem dX3_readLine_71 : decode cX3_readLine 71 = .ok (.iconst 1, 1) := by decide +kernel
theorem dX3_readLine_72 : decode cX3_readLine 72 = .ok (.invokevirtual 73, 3) := by decide +kernel
theorem dX3_readLine_75 : decode cX3_readLine 75 = .ok (.goto 139, 3) := by decide +kernel
theorem dX3_readLine_78 : decode cX3_readLine 78 = .ok (.aload_n 0, 1) := by decide +kernel
theorem dX3_readLine_79 : decode cX3_readLine 79 = .ok (.getfield 18, 3) := by decide +kernel
theorem dX3_readLine_82 : decode cX3_readLine 82 = .ok (.ldc 79, 2) := by decide +kernel
theorem dX3_readLine_84 : decode cX3_readLine 84 = .ok (.invokevirtual 53, 3) := by decide +kernel
theorem dX3_readLine_87 : decode cX3_readLine 87 = .ok (.ifCond .eq 11, 3) := by decide +kernel
theorem dX3_readLine_90 : decode cX3_readLine 90 = .ok (.aload_n 0, 1) := by decide +kernel
theorem dX3_readLine_91 : decode cX3_readLine 91 = .ok (.iconst 2, 1) := by decide +kernel
theorem dX3_readLine_92 : decode cX3_readLine 92 = .ok (.invokevirtual 73, 3) := by decide +kernel
theorem dX3_readLine_95 : decode cX3_readLine 95 = .ok (.goto 119, 3) := by decide +kernel
theorem dX3_readLine_98 : decode cX3_readLine 98 = .ok (.aload_n 0, 1) := by decide +kernel
theorem dX3_readLine_99 : decode cX3_readLine 99 = .ok (.getfield 18, 3) := by decide +kernel
theorem dX3_readLine_102 : decode cX3_readLine 102 = .ok (.ldc 81, 2) := by decide +kernel
theorem dX3_readLine_104 : decode cX3_readLine 104 = .ok (.invokevirtual 53, 3) := by decide +kernel
theorem dX3_readLine_107 : decode cX3_readLine 107 = .ok (.ifCond .eq 11, 3) := by decide +kernel
theorem dX3_readLine_110 : decode cX3_readLine 110 = .ok (.aload_n 0, 1) := by decide +kernel
theorem dX3_readLine_111 : decode cX3_readLine 111 = .ok (.iconst 3, 1) := by decide +kernel
theorem dX3_readLine_112 : decode cX3_readLine 112 = .ok (.invokevirtual 73, 3) := by decide +kernel
theorem dX3_readLine_115 : decode cX3_readLine 115 = .ok (.goto 99, 3) := by decide +kernel
theorem dX3_readLine_118 : decode cX3_readLine 118 = .ok (.aload_n 0, 1) := by decide +kernel
theorem dX3_readLine_119 : decode cX3_readLine 119 = .ok (.getfield 18, 3) := by decide +kernel
theorem dX3_readLine_122 : decode cX3_readLine 122 = .ok (.ldc 83, 2) := by decide +kernel
theorem dX3_readLine_124 : decode cX3_readLine 124 = .ok (.invokevirtual 53, 3) := by decide +kernel
theorem dX3_readLine_127 : decode cX3_readLine 127 = .ok (.ifCond .eq 14, 3) := by decide +kernel
theorem dX3_readLine_130 : decode cX3_readLine 130 = .ok (.aload_n 0, 1) := by decide +kernel
theorem dX3_readLine_131 : decode cX3_readLine 131 = .ok (.getfield 12, 3) := by decide +kernel
theorem dX3_readLine_134 : decode cX3_readLine 134 = .ok (.iconst 0, 1) := by decide +kernel
theorem dX3_readLine_135 : decode cX3_readLine 135 = .ok (.putfield 85, 3) := by decide +kernel
theorem dX3_readLine_138 : decode cX3_readLine 138 = .ok (.goto 76, 3) := by decide +kernel
theorem dX3_readLine_141 : decode cX3_readLine 141 = .ok (.aload_n 0, 1) := by decide +kernel
theorem dX3_readLine_142 : decode cX3_readLine 142 = .ok (.getfield 18, 3) := by decide +kernel
theorem dX3_readLine_145 : decode cX3_readLine 145 = .ok (.ldc 88, 2) := by decide +kernel
theorem dX3_readLine_147 : decode cX3_readLine 147 = .ok (.invokevirtual 53, 3) := by decide +kernel
theorem dX3_readLine_150 : decode cX3_readLine 150 = .ok (.ifCond .eq 14, 3) := by decide +kernel
theorem dX3_readLine_153 : decode cX3_readLine 153 = .ok (.aload_n 0, 1) := by decide +kernel
theorem dX3_readLine_154 : decode cX3_readLine 154 = .ok (.getfield 12, 3) := by decide +kernel
theorem dX3_readLine_157 : decode cX3_readLine 157 = .ok (.iconst 1, 1) := by decide +kernel
theorem dX3_readLine_158 : decode cX3_readLine 158 = .ok (.putfield 85, 3) := by decide +kernel
theorem dX3_readLine_161 : decode cX3_readLine 161 = .ok (.goto 53, 3) := by decide +kernel
theorem dX3_readLine_164 : decode cX3_readLine 164 = .ok (.aload_n 0, 1) := by decide +kernel
theorem dX3_readLine_165 : decode cX3_readLine 165 = .ok (.getfield 18, 3) := by decide +kernel
theorem dX3_readLine_168 : decode cX3_readLine 168 = .ok (.ldc 90, 2) := by decide +kernel
theorem dX3_readLine_170 : decode cX3_readLine 170 = .ok (.invokevirtual 53, 3) := by decide +kernel
theorem dX3_readLine_173 : decode cX3_readLine 173 = .ok (.ifCond .eq 14, 3) := by decide +kernel
theorem dX3_readLine_176 : decode cX3_readLine 176 = .ok (.aload_n 0, 1) := by decide +kernel
theorem dX3_readLine_177 : decode cX3_readLine 177 = .ok (.getfield 12, 3) := by decide +kernel
theorem dX3_readLine_180 : decode cX3_readLine 180 = .ok (.iconst 2, 1) := by decide +kernel
theorem dX3_readLine_181 : decode cX3_readLine 181 = .ok (.putfield 85, 3) := by decide +kernel
theorem dX3_readLine_184 : decode cX3_readLine 184 = .ok (.goto 30, 3) := by decide +kernel
theorem dX3_readLine_187 : decode cX3_readLine 187 = .ok (.aload_n 0, 1) := by decide +kernel
theorem dX3_readLine_188 : decode cX3_readLine 188 = .ok (.getfield 18, 3) := by decide +kernel
theorem dX3_readLine_191 : decode cX3_readLine 191 = .ok (.ldc 92, 2) := by decide +kernel
theorem dX3_readLine_193 : decode cX3_readLine 193 = .ok (.invokevirtual 53, 3) := by decide +kernel
theorem dX3_readLine_196 : decode cX3_readLine 196 = .ok (.ifCond .eq 13, 3) := by decide +kernel
theorem dX3_readLine_199 : decode cX3_readLine 199 = .ok (.aload_n 0, 1) := by decide +kernel
theorem dX3_readLine_200 : decode cX3_readLine 200 = .ok (.getfield 12, 3) := by decide +kernel
theorem dX3_readLine_203 : decode cX3_readLine 203 = .ok (.invokevirtual 94, 3) := by decide +kernel
theorem dX3_readLine_206 : decode cX3_readLine 206 = .ok (.goto 8, 3) := by decide +kernel
theorem dX3_readLine_209 : decode cX3_readLine 209 = .ok (.aload_n 0, 1) := by decide +kernel
theorem dX3_readLine_210 : decode cX3_readLine 210 = .ok (.iconst 1, 1) := by decide +kernel
theorem dX3_readLine_211 : decode cX3_readLine 211 = .ok (.invokevirtual 57, 3) := by decide +kernel
theorem dX3_readLine_214 : decode cX3_readLine 214 = .ok (.return_, 1) := by decide +kernel
set_option maxRecDepth 20000 in
theorem ggX3_readSize_X3_readNumber : GoodIn wsX3_readSize wsX3_readNumber := goodIn_r _ [7, 1, 8, 9, 10, 11, 12, 13, 14, 15, 16, 17, 18, 19, 20, 21, 22, 23, 24, 25, 26, 27, 28, 29, 30, 31, 32, 33, 34, 35, 36, 37, 6, 38, 39, 56, 57, 58, 59, 60, 61, 62, 63] (by decide +kernel) (by decide +kernel)
set_option maxRecDepth 20000 in
theorem gX3_readSize_X3_readNumber : GoodIn wsX3_readSize (wsV RX3 97 RX3 yX3_readNumber wsX3_readNumber) := goodIn_app (goodIn_of _ (by decide +kernel)) ggX3_readSize_X3_readNumber
set_option maxRecDepth 20000 in
theorem ggX3_readSize_X3_refuseIf : GoodIn wsX3_readSize wsX3_refuseIf := goodIn_r _ [38, 1, 8, 39, 56, 57, 58, 59, 60, 61, 62, 63] (by decide +kernel) (by decide +kernel)
set_option maxRecDepth 20000 in
theorem gX3_readSize_X3_refuseIf : GoodIn wsX3_readSize (wsV RX3 57 RX3 yX3_refuseIf wsX3_refuseIf) := goodIn_app (goodIn_of _ (by decide +kernel)) ggX3_readSize_X3_refuseIf
set_option maxRecDepth 20000 in
theorem ggX3_readSize_X5_lay : GoodIn wsX3_readSize wsX5_lay := goodIn_r _ [44, 45, 46, 47, 48, 49, 50, 51, 43, 52, 53, 54, 55, 64, 65, 66, 67, 68, 69, 70, 71, 72] (by decide +kernel) (by decide +kernel)
set_option maxRecDepth 20000 in
theorem gX3_readSize_X5_lay : GoodIn wsX3_readSize (wsV RX3 101 RX5 yX5_lay wsX5_lay) := goodIn_app (goodIn_of _ (by decide +kernel)) ggX3_readSize_X5_lay
theorem dX3_readSize_0 : decode cX3_readSize 0 = .ok (.aload_n 0, 1) := by decide +kernel
theorem dX3_readSize_1 : decode cX3_readSize 1 = .ok (.iconst 2, 1) := by decide +kernel
theorem dX3_readSize_2 : decode cX3_readSize 2 = .ok (.iconst 4, 1) := by decide +kernel
theorem dX3_readSize_3 : decode cX3_readSize 3 = .ok (.invokevirtual 97, 3) := by decide +kernel
theorem dX3_readSize_6 : decode cX3_readSize 6 = .ok (.istore_n 1, 1) := by decide +kernel
theorem dX3_readSize_7 : decode cX3_readSize 7 = .ok (.aload_n 0, 1) := by decide +kernel
theorem dX3_readSize_8 : decode cX3_readSize 8 = .ok (.iconst 2, 1) := by decide +kernel
theorem dX3_readSize_9 : decode cX3_readSize 9 = .ok (.iconst 4, 1) := by decide +kernel
theorem dX3_readSize_10 : decode cX3_readSize 10 = .ok (.invokevirtual 97, 3) := by decide +kernel
theorem dX3_readSize_13 : decode cX3_readSize 13 = .ok (.istore_n 2, 1) := by decide +kernel
theorem dX3_readSize_14 : decode cX3_readSize 14 = .ok (.aload_n 0, 1) := by decide +kernel
theorem dX3_readSize_15 : decode cX3_readSize 15 = .ok (.iload_n 1, 1) := by decide +kernel
theorem dX3_readSize_16 : decode cX3_readSize 16 = .ok (.iload_n 2, 1) := by decide +kernel
theorem dX3_readSize_17 : decode cX3_readSize 17 = .ok (.imul, 1) := by decide +kernel
theorem dX3_readSize_18 : decode cX3_readSize 18 = .ok (.bipush 12, 2) := by decide +kernel
theorem dX3_readSize_20 : decode cX3_readSize 20 = .ok (.if_icmp .le 7, 3) := by decide +kernel
theorem dX3_readSize_23 : decode cX3_readSize 23 = .ok (.iconst 1, 1) := by decide +kernel
theorem dX3_readSize_24 : decode cX3_readSize 24 = .ok (.goto 4, 3) := by decide +kernel
theorem dX3_readSize_27 : decode cX3_readSize 27 = .ok (.iconst 0, 1) := by decide +kernel
theorem dX3_readSize_28 : decode cX3_readSize 28 = .ok (.invokevirtual 57, 3) := by decide +kernel
theorem dX3_readSize_31 : decode cX3_readSize 31 = .ok (.aload_n 0, 1) := by decide +kernel
theorem dX3_readSize_32 : decode cX3_readSize 32 = .ok (.getfield 26, 3) := by decide +kernel
theorem dX3_readSize_35 : decode cX3_readSize 35 = .ok (.iconst (-1), 1) := by decide +kernel
theorem dX3_readSize_36 : decode cX3_readSize 36 = .ok (.if_icmp .ne 12, 3) := by decide +kernel
theorem dX3_readSize_39 : decode cX3_readSize 39 = .ok (.aload_n 0, 1) := by decide +kernel
theorem dX3_readSize_40 : decode cX3_readSize 40 = .ok (.getfield 12, 3) := by decide +kernel
theorem dX3_readSize_43 : decode cX3_readSize 43 = .ok (.iload_n 1, 1) := by decide +kernel
theorem dX3_readSize_44 : decode cX3_readSize 44 = .ok (.iload_n 2, 1) := by decide +kernel
theorem dX3_readSize_45 : decode cX3_readSize 45 = .ok (.invokevirtual 101, 3) := by decide +kernel
theorem dX3_readSize_48 : decode cX3_readSize 48 = .ok (.return_, 1) := by decide +kernel
set_option maxRecDepth 20000 in
theorem ggX3_readHole_X5_squares : GoodIn wsX3_readHole wsX5_squares := goodIn_r _ [10, 11, 12, 68, 69, 70, 71, 72, 73, 74, 75, 76] (by decide +kernel) (by decide +kernel)
set_option maxRecDepth 20000 in
theorem gX3_readHole_X5_squares : GoodIn wsX3_readHole (wsV RX3 105 RX5 yX5_squares wsX5_squares) := goodIn_app (goodIn_of _ (by decide +kernel)) ggX3_readHole_X5_squares
set_option maxRecDepth 20000 in
theorem ggX3_readHole_X3_readNumber : GoodIn wsX3_readHole wsX3_readNumber := goodIn_r _ [17, 4, 18, 19, 20, 21, 22, 23, 24, 25, 26, 27, 28, 29, 30, 31, 32, 33, 34, 35, 36, 37, 38, 39, 40, 41, 42, 43, 44, 45, 46, 47, 16, 48, 49, 64, 65, 66, 67, 77, 78, 79, 80] (by decide +kernel) (by decide +kernel)
set_option maxRecDepth 20000 in
theorem gX3_readHole_X3_readNumber : GoodIn wsX3_readHole (wsV RX3 97 RX3 yX3_readNumber wsX3_readNumber) := goodIn_app (goodIn_of _ (by decide +kernel)) ggX3_readHole_X3_readNumber
set_option maxRecDepth 20000 in
theorem ggX3_readHole_X3_isHole : GoodIn wsX3_readHole wsX3_isHole := goodIn_r _ [53, 1, 5, 54, 55, 56, 64, 65, 66, 67, 68, 69, 70, 71, 72, 73, 74, 75, 76] (by decide +kernel) (by decide +kernel)
set_option maxRecDepth 20000 in
theorem gX3_readHole_X3_isHole : GoodIn wsX3_readHole (wsV RX3 109 RX3 yX3_isHole wsX3_isHole) := goodIn_app (goodIn_of _ (by decide +kernel)) ggX3_readHole_X3_isHole
set_option maxRecDepth 20000 in
theorem ggX3_readHole_X3_refuseIf : GoodIn wsX3_readHole wsX3_refuseIf := goodIn_r _ [48, 4, 18, 49, 64, 65, 66, 67, 77, 78, 79, 80] (by decide +kernel) (by decide +kernel)
set_option maxRecDepth 20000 in
theorem gX3_readHole_X3_refuseIf : GoodIn wsX3_readHole (wsV RX3 57 RX3 yX3_refuseIf wsX3_refuseIf) := goodIn_app (goodIn_of _ (by decide +kernel)) ggX3_readHole_X3_refuseIf
set_option maxRecDepth 20000 in
theorem ggX3_readHole_X5_manOf : GoodIn wsX3_readHole wsX5_manOf := goodIn_r _ [60, 61, 62, 55, 63, 68, 69, 70, 71, 72, 73, 74, 75, 76] (by decide +kernel) (by decide +kernel)
set_option maxRecDepth 20000 in
theorem gX3_readHole_X5_manOf : GoodIn wsX3_readHole (wsV RX3 116 RX5 yX5_manOf wsX5_manOf) := goodIn_app (goodIn_of _ (by decide +kernel)) ggX3_readHole_X5_manOf
theorem dX3_readHole_0 : decode cX3_readHole 0 = .ok (.aload_n 0, 1) := by decide +kernel
theorem dX3_readHole_1 : decode cX3_readHole 1 = .ok (.iconst 0, 1) := by decide +kernel
theorem dX3_readHole_2 : decode cX3_readHole 2 = .ok (.aload_n 0, 1) := by decide +kernel
theorem dX3_readHole_3 : decode cX3_readHole 3 = .ok (.getfield 12, 3) := by decide +kernel
theorem dX3_readHole_6 : decode cX3_readHole 6 = .ok (.invokevirtual 105, 3) := by decide +kernel
theorem dX3_readHole_9 : decode cX3_readHole 9 = .ok (.iconst 1, 1) := by decide +kernel
theorem dX3_readHole_10 : decode cX3_readHole 10 = .ok (.isub, 1) := by decide +kernel
theorem dX3_readHole_11 : decode cX3_readHole 11 = .ok (.invokevirtual 97, 3) := by decide +kernel
theorem dX3_readHole_14 : decode cX3_readHole 14 = .ok (.istore_n 1, 1) := by decide +kernel
theorem dX3_readHole_15 : decode cX3_readHole 15 = .ok (.aload_n 0, 1) := by decide +kernel
theorem dX3_readHole_16 : decode cX3_readHole 16 = .ok (.aload_n 0, 1) := by decide +kernel
theorem dX3_readHole_17 : decode cX3_readHole 17 = .ok (.iload_n 1, 1) := by decide +kernel
theorem dX3_readHole_18 : decode cX3_readHole 18 = .ok (.invokevirtual 109, 3) := by decide +kernel
theorem dX3_readHole_21 : decode cX3_readHole 21 = .ok (.invokevirtual 57, 3) := by decide +kernel
theorem dX3_readHole_24 : decode cX3_readHole 24 = .ok (.aload_n 0, 1) := by decide +kernel
theorem dX3_readHole_25 : decode cX3_readHole 25 = .ok (.aload_n 0, 1) := by decide +kernel
theorem dX3_readHole_26 : decode cX3_readHole 26 = .ok (.getfield 12, 3) := by decide +kernel
theorem dX3_readHole_29 : decode cX3_readHole 29 = .ok (.aload_n 0, 1) := by decide +kernel
theorem dX3_readHole_30 : decode cX3_readHole 30 = .ok (.getfield 12, 3) := by decide +kernel
theorem dX3_readHole_33 : decode cX3_readHole 33 = .ok (.getfield 113, 3) := by decide +kernel
theorem dX3_readHole_36 : decode cX3_readHole 36 = .ok (.iload_n 1, 1) := by decide +kernel
theorem dX3_readHole_37 : decode cX3_readHole 37 = .ok (.invokevirtual 116, 3) := by decide +kernel
theorem dX3_readHole_40 : decode cX3_readHole 40 = .ok (.iconst (-1), 1) := by decide +kernel
theorem dX3_readHole_41 : decode cX3_readHole 41 = .ok (.if_icmp .eq 7, 3) := by decide +kernel
theorem dX3_readHole_44 : decode cX3_readHole 44 = .ok (.iconst 1, 1) := by decide +kernel
theorem dX3_readHole_45 : decode cX3_readHole 45 = .ok (.goto 4, 3) := by decide +kernel
theorem dX3_readHole_48 : decode cX3_readHole 48 = .ok (.iconst 0, 1) := by decide +kernel
theorem dX3_readHole_49 : decode cX3_readHole 49 = .ok (.invokevirtual 57, 3) := by decide +kernel
theorem dX3_readHole_52 : decode cX3_readHole 52 = .ok (.aload_n 0, 1) := by decide +kernel
theorem dX3_readHole_53 : decode cX3_readHole 53 = .ok (.aload_n 0, 1) := by decide +kernel
theorem dX3_readHole_54 : decode cX3_readHole 54 = .ok (.getfield 12, 3) := by decide +kernel
theorem dX3_readHole_57 : decode cX3_readHole 57 = .ok (.aload_n 0, 1) := by decide +kernel
theorem dX3_readHole_58 : decode cX3_readHole 58 = .ok (.getfield 12, 3) := by decide +kernel
theorem dX3_readHole_61 : decode cX3_readHole 61 = .ok (.getfield 119, 3) := by decide +kernel
theorem dX3_readHole_64 : decode cX3_readHole 64 = .ok (.iload_n 1, 1) := by decide +kernel
theorem dX3_readHole_65 : decode cX3_readHole 65 = .ok (.invokevirtual 116, 3) := by decide +kernel
theorem dX3_readHole_68 : decode cX3_readHole 68 = .ok (.iconst (-1), 1) := by decide +kernel
theorem dX3_readHole_69 : decode cX3_readHole 69 = .ok (.if_icmp .eq 7, 3) := by decide +kernel
theorem dX3_readHole_72 : decode cX3_readHole 72 = .ok (.iconst 1, 1) := by decide +kernel
theorem dX3_readHole_73 : decode cX3_readHole 73 = .ok (.goto 4, 3) := by decide +kernel
theorem dX3_readHole_76 : decode cX3_readHole 76 = .ok (.iconst 0, 1) := by decide +kernel
theorem dX3_readHole_77 : decode cX3_readHole 77 = .ok (.invokevirtual 57, 3) := by decide +kernel
theorem dX3_readHole_80 : decode cX3_readHole 80 = .ok (.aload_n 0, 1) := by decide +kernel
theorem dX3_readHole_81 : decode cX3_readHole 81 = .ok (.getfield 26, 3) := by decide +kernel
theorem dX3_readHole_84 : decode cX3_readHole 84 = .ok (.iconst (-1), 1) := by decide +kernel
theorem dX3_readHole_85 : decode cX3_readHole 85 = .ok (.if_icmp .ne 18, 3) := by decide +kernel
theorem dX3_readHole_88 : decode cX3_readHole 88 = .ok (.aload_n 0, 1) := by decide +kernel
theorem dX3_readHole_89 : decode cX3_readHole 89 = .ok (.getfield 12, 3) := by decide +kernel
theorem dX3_readHole_92 : decode cX3_readHole 92 = .ok (.dup, 1) := by decide +kernel
theorem dX3_readHole_93 : decode cX3_readHole 93 = .ok (.getfield 122, 3) := by decide +kernel
theorem dX3_readHole_96 : decode cX3_readHole 96 = .ok (.iconst 1, 1) := by decide +kernel
theorem dX3_readHole_97 : decode cX3_readHole 97 = .ok (.iload_n 1, 1) := by decide +kernel
theorem dX3_readHole_98 : decode cX3_readHole 98 = .ok (.ishl, 1) := by decide +kernel
theorem dX3_readHole_99 : decode cX3_readHole 99 = .ok (.ior, 1) := by decide +kernel
theorem dX3_readHole_100 : decode cX3_readHole 100 = .ok (.putfield 122, 3) := by decide +kernel
theorem dX3_readHole_103 : decode cX3_readHole 103 = .ok (.return_, 1) := by decide +kernel
set_option maxRecDepth 20000 in
theorem ggX3_readMan_X3_refuseIf : GoodIn wsX3_readMan wsX3_refuseIf := goodIn_r _ [10, 5, 11, 12, 75, 76, 77, 78, 88, 89, 90, 91] (by decide +kernel) (by decide +kernel)
set_option maxRecDepth 20000 in
theorem gX3_readMan_X3_refuseIf : GoodIn wsX3_readMan (wsV RX3 57 RX3 yX3_refuseIf wsX3_refuseIf) := goodIn_app (goodIn_of _ (by decide +kernel)) ggX3_readMan_X3_refuseIf
set_option maxRecDepth 20000 in
theorem ggX3_readMan_X3_readNumber : GoodIn wsX3_readMan wsX3_readNumber := goodIn_r _ [16, 5, 11, 17, 18, 19, 20, 21, 22, 23, 24, 25, 26, 27, 28, 29, 30, 31, 32, 33, 34, 35, 36, 37, 38, 39, 40, 41, 42, 6, 7, 8, 9, 10, 12, 75, 76, 77, 78, 88, 89, 90, 91] (by decide +kernel) (by decide +kernel)
set_option maxRecDepth 20000 in
theorem gX3_readMan_X3_readNumber : GoodIn wsX3_readMan (wsV RX3 97 RX3 yX3_readNumber wsX3_readNumber) := goodIn_app (goodIn_of _ (by decide +kernel)) ggX3_readMan_X3_readNumber
set_option maxRecDepth 20000 in
theorem ggX3_readMan_X5_squares : GoodIn wsX3_readMan wsX5_squares := goodIn_r _ [47, 48, 49, 79, 80, 81, 82, 83, 84, 85, 86, 87] (by decide +kernel) (by decide +kernel)
set_option maxRecDepth 20000 in
theorem gX3_readMan_X5_squares : GoodIn wsX3_readMan (wsV RX3 105 RX5 yX5_squares wsX5_squares) := goodIn_app (goodIn_of _ (by decide +kernel)) ggX3_readMan_X5_squares
set_option maxRecDepth 20000 in
theorem ggX3_readMan_X3_isHole : GoodIn wsX3_readMan wsX3_isHole := goodIn_r _ [53, 1, 54, 55, 56, 57, 75, 76, 77, 78, 79, 80, 81, 82, 83, 84, 85, 86, 87] (by decide +kernel) (by decide +kernel)
set_option maxRecDepth 20000 in
theorem gX3_readMan_X3_isHole : GoodIn wsX3_readMan (wsV RX3 109 RX3 yX3_isHole wsX3_isHole) := goodIn_app (goodIn_of _ (by decide +kernel)) ggX3_readMan_X3_isHole
set_option maxRecDepth 20000 in
theorem ggX3_readMan_X5_manOf : GoodIn wsX3_readMan wsX5_manOf := goodIn_r _ [61, 62, 63, 56, 64, 79, 80, 81, 82, 83, 84, 85, 86, 87] (by decide +kernel) (by decide +kernel)
set_option maxRecDepth 20000 in
theorem gX3_readMan_X5_manOf : GoodIn wsX3_readMan (wsV RX3 116 RX5 yX5_manOf wsX5_manOf) := goodIn_app (goodIn_of _ (by decide +kernel)) ggX3_readMan_X5_manOf
set_option maxRecDepth 20000 in
theorem ggX3_readMan_X5_addMan : GoodIn wsX3_readMan wsX5_addMan := goodIn_r _ [68, 62, 69, 70, 71, 72, 73, 56, 74, 79, 80, 81, 82, 83, 84, 85, 86, 87] (by decide +kernel) (by decide +kernel)
set_option maxRecDepth 20000 in
theorem gX3_readMan_X5_addMan : GoodIn wsX3_readMan (wsV RX3 128 RX5 yX5_addMan wsX5_addMan) := goodIn_app (goodIn_of _ (by decide +kernel)) ggX3_readMan_X5_addMan
theorem dX3_readMan_0 : decode cX3_readMan 0 = .ok (.aload_n 0, 1) := by decide +kernel
theorem dX3_readMan_1 : decode cX3_readMan 1 = .ok (.aload_n 0, 1) := by decide +kernel
theorem dX3_readMan_2 : decode cX3_readMan 2 = .ok (.getfield 12, 3) := by decide +kernel
theorem dX3_readMan_5 : decode cX3_readMan 5 = .ok (.getfield 125, 3) := by decide +kernel
theorem dX3_readMan_8 : decode cX3_readMan 8 = .ok (.iconst 4, 1) := by decide +kernel
theorem dX3_readMan_9 : decode cX3_readMan 9 = .ok (.if_icmp .lt 7, 3) := by decide +kernel
theorem dX3_readMan_12 : decode cX3_readMan 12 = .ok (.iconst 1, 1) := by decide +kernel
theorem dX3_readMan_13 : decode cX3_readMan 13 = .ok (.goto 4, 3) := by decide +kernel
theorem dX3_readMan_16 : decode cX3_readMan 16 = .ok (.iconst 0, 1) := by decide +kernel
theorem dX3_readMan_17 : decode cX3_readMan 17 = .ok (.invokevirtual 57, 3) := by decide +kernel
theorem dX3_readMan_20 : decode cX3_readMan 20 = .ok (.aload_n 0, 1) := by decide +kernel
theorem dX3_readMan_21 : decode cX3_readMan 21 = .ok (.iconst 0, 1) := by decide +kernel
theorem dX3_readMan_22 : decode cX3_readMan 22 = .ok (.iconst 1, 1) := by decide +kernel
theorem dX3_readMan_23 : decode cX3_readMan 23 = .ok (.invokevirtual 97, 3) := by decide +kernel
theorem dX3_readMan_26 : decode cX3_readMan 26 = .ok (.istore_n 2, 1) := by decide +kernel
theorem dX3_readMan_27 : decode cX3_readMan 27 = .ok (.aload_n 0, 1) := by decide +kernel
theorem dX3_readMan_28 : decode cX3_readMan 28 = .ok (.iconst 0, 1) := by decide +kernel
theorem dX3_readMan_29 : decode cX3_readMan 29 = .ok (.aload_n 0, 1) := by decide +kernel
theorem dX3_readMan_30 : decode cX3_readMan 30 = .ok (.getfield 12, 3) := by decide +kernel
theorem dX3_readMan_33 : decode cX3_readMan 33 = .ok (.invokevirtual 105, 3) := by decide +kernel
theorem dX3_readMan_36 : decode cX3_readMan 36 = .ok (.iconst 1, 1) := by decide +kernel
theorem dX3_readMan_37 : decode cX3_readMan 37 = .ok (.isub, 1) := by decide +kernel
theorem dX3_readMan_38 : decode cX3_readMan 38 = .ok (.invokevirtual 97, 3) := by decide +kernel
theorem dX3_readMan_41 : decode cX3_readMan 41 = .ok (.istore_n 3, 1) := by decide +kernel
theorem dX3_readMan_42 : decode cX3_readMan 42 = .ok (.aload_n 0, 1) := by decide +kernel
theorem dX3_readMan_43 : decode cX3_readMan 43 = .ok (.aload_n 0, 1) := by decide +kernel
theorem dX3_readMan_44 : decode cX3_readMan 44 = .ok (.iload_n 3, 1) := by decide +kernel
theorem dX3_readMan_45 : decode cX3_readMan 45 = .ok (.invokevirtual 109, 3) := by decide +kernel
theorem dX3_readMan_48 : decode cX3_readMan 48 = .ok (.ifCond .ne 22, 3) := by decide +kernel
theorem dX3_readMan_51 : decode cX3_readMan 51 = .ok (.aload_n 0, 1) := by decide +kernel
theorem dX3_readMan_52 : decode cX3_readMan 52 = .ok (.getfield 12, 3) := by decide +kernel
theorem dX3_readMan_55 : decode cX3_readMan 55 = .ok (.aload_n 0, 1) := by decide +kernel
theorem dX3_readMan_56 : decode cX3_readMan 56 = .ok (.getfield 12, 3) := by decide +kernel
theorem dX3_readMan_59 : decode cX3_readMan 59 = .ok (.getfield 113, 3) := by decide +kernel
theorem dX3_readMan_62 : decode cX3_readMan 62 = .ok (.iload_n 3, 1) := by decide +kernel
theorem dX3_readMan_63 : decode cX3_readMan 63 = .ok (.invokevirtual 116, 3) := by decide +kernel
theorem dX3_readMan_66 : decode cX3_readMan 66 = .ok (.iconst (-1), 1) := by decide +kernel
theorem dX3_readMan_67 : decode cX3_readMan 67 = .ok (.if_icmp .eq 7, 3) := by decide +kernel
theorem dX3_readMan_70 : decode cX3_readMan 70 = .ok (.iconst 1, 1) := by decide +kernel
theorem dX3_readMan_71 : decode cX3_readMan 71 = .ok (.goto 4, 3) := by decide +kernel
theorem dX3_readMan_74 : decode cX3_readMan 74 = .ok (.iconst 0, 1) := by decide +kernel
theorem dX3_readMan_75 : decode cX3_readMan 75 = .ok (.invokevirtual 57, 3) := by decide +kernel
theorem dX3_readMan_78 : decode cX3_readMan 78 = .ok (.aload_n 0, 1) := by decide +kernel
theorem dX3_readMan_79 : decode cX3_readMan 79 = .ok (.iconst 0, 1) := by decide +kernel
theorem dX3_readMan_80 : decode cX3_readMan 80 = .ok (.aload_n 0, 1) := by decide +kernel
theorem dX3_readMan_81 : decode cX3_readMan 81 = .ok (.getfield 12, 3) := by decide +kernel
theorem dX3_readMan_84 : decode cX3_readMan 84 = .ok (.invokevirtual 105, 3) := by decide +kernel
theorem dX3_readMan_87 : decode cX3_readMan 87 = .ok (.iconst 1, 1) := by decide +kernel
theorem dX3_readMan_88 : decode cX3_readMan 88 = .ok (.isub, 1) := by decide +kernel
theorem dX3_readMan_89 : decode cX3_readMan 89 = .ok (.invokevirtual 97, 3) := by decide +kernel
theorem dX3_readMan_92 : decode cX3_readMan 92 = .ok (.istore 4, 2) := by decide +kernel
theorem dX3_readMan_94 : decode cX3_readMan 94 = .ok (.aload_n 0, 1) := by decide +kernel
theorem dX3_readMan_95 : decode cX3_readMan 95 = .ok (.aload_n 0, 1) := by decide +kernel
theorem dX3_readMan_96 : decode cX3_readMan 96 = .ok (.iload 4, 2) := by decide +kernel
theorem dX3_readMan_98 : decode cX3_readMan 98 = .ok (.invokevirtual 109, 3) := by decide +kernel
theorem dX3_readMan_101 : decode cX3_readMan 101 = .ok (.ifCond .ne 23, 3) := by decide +kernel
theorem dX3_readMan_104 : decode cX3_readMan 104 = .ok (.aload_n 0, 1) := by decide +kernel
theorem dX3_readMan_105 : decode cX3_readMan 105 = .ok (.getfield 12, 3) := by decide +kernel
theorem dX3_readMan_108 : decode cX3_readMan 108 = .ok (.aload_n 0, 1) := by decide +kernel
theorem dX3_readMan_109 : decode cX3_readMan 109 = .ok (.getfield 12, 3) := by decide +kernel
theorem dX3_readMan_112 : decode cX3_readMan 112 = .ok (.getfield 119, 3) := by decide +kernel
theorem dX3_readMan_115 : decode cX3_readMan 115 = .ok (.iload 4, 2) := by decide +kernel
theorem dX3_readMan_117 : decode cX3_readMan 117 = .ok (.invokevirtual 116, 3) := by decide +kernel
theorem dX3_readMan_120 : decode cX3_readMan 120 = .ok (.iconst (-1), 1) := by decide +kernel
theorem dX3_readMan_121 : decode cX3_readMan 121 = .ok (.if_icmp .eq 7, 3) := by decide +kernel
theorem dX3_readMan_124 : decode cX3_readMan 124 = .ok (.iconst 1, 1) := by decide +kernel
theorem dX3_readMan_125 : decode cX3_readMan 125 = .ok (.goto 4, 3) := by decide +kernel
theorem dX3_readMan_128 : decode cX3_readMan 128 = .ok (.iconst 0, 1) := by decide +kernel
theorem dX3_readMan_129 : decode cX3_readMan 129 = .ok (.invokevirtual 57, 3) := by decide +kernel
theorem dX3_readMan_132 : decode cX3_readMan 132 = .ok (.aload_n 0, 1) := by decide +kernel
theorem dX3_readMan_133 : decode cX3_readMan 133 = .ok (.getfield 26, 3) := by decide +kernel
theorem dX3_readMan_136 : decode cX3_readMan 136 = .ok (.iconst (-1), 1) := by decide +kernel
theorem dX3_readMan_137 : decode cX3_readMan 137 = .ok (.if_icmp .ne 15, 3) := by decide +kernel
theorem dX3_readMan_140 : decode cX3_readMan 140 = .ok (.aload_n 0, 1) := by decide +kernel
theorem dX3_readMan_141 : decode cX3_readMan 141 = .ok (.getfield 12, 3) := by decide +kernel
theorem dX3_readMan_144 : decode cX3_readMan 144 = .ok (.iload_n 1, 1) := by decide +kernel
theorem dX3_readMan_145 : decode cX3_readMan 145 = .ok (.iload_n 2, 1) := by decide +kernel
theorem dX3_readMan_146 : decode cX3_readMan 146 = .ok (.iload_n 3, 1) := by decide +kernel
theorem dX3_readMan_147 : decode cX3_readMan 147 = .ok (.iload 4, 2) := by decide +kernel
theorem dX3_readMan_149 : decode cX3_readMan 149 = .ok (.invokevirtual 128, 3) := by decide +kernel
theorem dX3_readMan_152 : decode cX3_readMan 152 = .ok (.return_, 1) := by decide +kernel
set_option maxRecDepth 20000 in
theorem ggX3_isHole_X7_bit : GoodIn wsX3_isHole wsX7_bit := goodIn_r _ [5] (by decide +kernel) (by decide +kernel)
set_option maxRecDepth 20000 in
theorem gX3_isHole_X7_bit_n132 : GoodIn wsX3_isHole (wsX7_bit) := ggX3_isHole_X7_bit
theorem dX3_isHole_0 : decode cX3_isHole 0 = .ok (.aload_n 0, 1) := by decide +kernel
theorem dX3_isHole_1 : decode cX3_isHole 1 = .ok (.getfield 12, 3) := by decide +kernel
theorem dX3_isHole_4 : decode cX3_isHole 4 = .ok (.getfield 122, 3) := by decide +kernel
theorem dX3_isHole_7 : decode cX3_isHole 7 = .ok (.iload_n 1, 1) := by decide +kernel
theorem dX3_isHole_8 : decode cX3_isHole 8 = .ok (.invokestatic 132, 3) := by decide +kernel
theorem dX3_isHole_11 : decode cX3_isHole 11 = .ok (.iconst 1, 1) := by decide +kernel
theorem dX3_isHole_12 : decode cX3_isHole 12 = .ok (.if_icmp .ne 7, 3) := by decide +kernel
theorem dX3_isHole_15 : decode cX3_isHole 15 = .ok (.iconst 1, 1) := by decide +kernel
theorem dX3_isHole_16 : decode cX3_isHole 16 = .ok (.goto 4, 3) := by decide +kernel
theorem dX3_isHole_19 : decode cX3_isHole 19 = .ok (.iconst 0, 1) := by decide +kernel
theorem dX3_isHole_20 : decode cX3_isHole 20 = .ok (.ireturn, 1) := by decide +kernel
set_option maxRecDepth 20000 in
theorem ggX3_readNumber_X6_next : GoodIn wsX3_readNumber wsX6_next := goodIn_r _ [7, 8, 9, 10, 11, 12, 13, 6, 14, 15, 16, 17, 18, 19, 20, 39, 40, 41, 42] (by decide +kernel) (by decide +kernel)
set_option maxRecDepth 20000 in
theorem gX3_readNumber_X6_next : GoodIn wsX3_readNumber (wsV RX3 38 RX6 yX6_next wsX6_next) := goodIn_app (goodIn_of _ (by decide +kernel)) ggX3_readNumber_X6_next
set_option maxRecDepth 20000 in
theorem ggX3_readNumber_X6_number : GoodIn wsX3_readNumber wsX6_number := goodIn_r _ [24, 11, 9, 8, 25, 26, 27, 6, 28, 10, 18, 19, 20, 39, 40, 41, 42] (by decide +kernel) (by decide +kernel)
set_option maxRecDepth 20000 in
theorem gX3_readNumber_X6_number : GoodIn wsX3_readNumber (wsV RX3 135 RX6 yX6_number wsX6_number) := goodIn_app (goodIn_of _ (by decide +kernel)) ggX3_readNumber_X6_number
set_option maxRecDepth 20000 in
theorem ggX3_readNumber_X3_refuseIf : GoodIn wsX3_readNumber wsX3_refuseIf := goodIn_r _ [33, 1, 2, 34, 35, 36, 37, 38, 39, 40, 41, 42] (by decide +kernel) (by decide +kernel)
set_option maxRecDepth 20000 in
theorem gX3_readNumber_X3_refuseIf : GoodIn wsX3_readNumber (wsV RX3 57 RX3 yX3_refuseIf wsX3_refuseIf) := goodIn_app (goodIn_of _ (by decide +kernel)) ggX3_readNumber_X3_refuseIf
theorem dX3_readNumber_0 : decode cX3_readNumber 0 = .ok (.aload_n 0, 1) := by decide +kernel
theorem dX3_readNumber_1 : decode cX3_readNumber 1 = .ok (.getfield 26, 3) := by decide +kernel
theorem dX3_readNumber_4 : decode cX3_readNumber 4 = .ok (.iconst (-1), 1) := by decide +kernel
theorem dX3_readNumber_5 : decode cX3_readNumber 5 = .ok (.if_icmp .eq 5, 3) := by decide +kernel
theorem dX3_readNumber_8 : decode cX3_readNumber 8 = .ok (.iload_n 1, 1) := by decide +kernel
theorem dX3_readNumber_9 : decode cX3_readNumber 9 = .ok (.ireturn, 1) := by decide +kernel
theorem dX3_readNumber_10 : decode cX3_readNumber 10 = .ok (.aload_n 0, 1) := by decide +kernel
theorem dX3_readNumber_11 : decode cX3_readNumber 11 = .ok (.getfield 18, 3) := by decide +kernel
theorem dX3_readNumber_14 : decode cX3_readNumber 14 = .ok (.invokevirtual 38, 3) := by decide +kernel
theorem dX3_readNumber_17 : decode cX3_readNumber 17 = .ok (.aload_n 0, 1) := by decide +kernel
theorem dX3_readNumber_18 : decode cX3_readNumber 18 = .ok (.getfield 18, 3) := by decide +kernel
theorem dX3_readNumber_21 : decode cX3_readNumber 21 = .ok (.invokevirtual 135, 3) := by decide +kernel
theorem dX3_readNumber_24 : decode cX3_readNumber 24 = .ok (.istore_n 3, 1) := by decide +kernel
theorem dX3_readNumber_25 : decode cX3_readNumber 25 = .ok (.aload_n 0, 1) := by decide +kernel
theorem dX3_readNumber_26 : decode cX3_readNumber 26 = .ok (.iload_n 3, 1) := by decide +kernel
theorem dX3_readNumber_27 : decode cX3_readNumber 27 = .ok (.iload_n 1, 1) := by decide +kernel
theorem dX3_readNumber_28 : decode cX3_readNumber 28 = .ok (.if_icmp .lt 8, 3) := by decide +kernel
theorem dX3_readNumber_31 : decode cX3_readNumber 31 = .ok (.iload_n 3, 1) := by decide +kernel
theorem dX3_readNumber_32 : decode cX3_readNumber 32 = .ok (.iload_n 2, 1) := by decide +kernel
theorem dX3_readNumber_33 : decode cX3_readNumber 33 = .ok (.if_icmp .le 7, 3) := by decide +kernel
theorem dX3_readNumber_36 : decode cX3_readNumber 36 = .ok (.iconst 1, 1) := by decide +kernel
theorem dX3_readNumber_37 : decode cX3_readNumber 37 = .ok (.goto 4, 3) := by decide +kernel
theorem dX3_readNumber_40 : decode cX3_readNumber 40 = .ok (.iconst 0, 1) := by decide +kernel
theorem dX3_readNumber_41 : decode cX3_readNumber 41 = .ok (.invokevirtual 57, 3) := by decide +kernel
theorem dX3_readNumber_44 : decode cX3_readNumber 44 = .ok (.iload_n 3, 1) := by decide +kernel
theorem dX3_readNumber_45 : decode cX3_readNumber 45 = .ok (.ireturn, 1) := by decide +kernel
theorem dX3_refuseIf_0 : decode cX3_refuseIf 0 = .ok (.iload_n 1, 1) := by decide +kernel
theorem dX3_refuseIf_1 : decode cX3_refuseIf 1 = .ok (.ifCond .eq 22, 3) := by decide +kernel
theorem dX3_refuseIf_4 : decode cX3_refuseIf 4 = .ok (.aload_n 0, 1) := by decide +kernel
theorem dX3_refuseIf_5 : decode cX3_refuseIf 5 = .ok (.getfield 26, 3) := by decide +kernel
theorem dX3_refuseIf_8 : decode cX3_refuseIf 8 = .ok (.iconst (-1), 1) := by decide +kernel
theorem dX3_refuseIf_9 : decode cX3_refuseIf 9 = .ok (.if_icmp .ne 14, 3) := by decide +kernel
theorem dX3_refuseIf_12 : decode cX3_refuseIf 12 = .ok (.aload_n 0, 1) := by decide +kernel
theorem dX3_refuseIf_13 : decode cX3_refuseIf 13 = .ok (.aload_n 0, 1) := by decide +kernel
theorem dX3_refuseIf_14 : decode cX3_refuseIf 14 = .ok (.getfield 18, 3) := by decide +kernel
theorem dX3_refuseIf_17 : decode cX3_refuseIf 17 = .ok (.getfield 138, 3) := by decide +kernel
theorem dX3_refuseIf_20 : decode cX3_refuseIf 20 = .ok (.putfield 26, 3) := by decide +kernel
theorem dX3_refuseIf_23 : decode cX3_refuseIf 23 = .ok (.return_, 1) := by decide +kernel
theorem dX4_init_0 : decode cX4_init 0 = .ok (.aload_n 0, 1) := by decide +kernel
theorem dX4_init_1 : decode cX4_init 1 = .ok (.invokespecial 5, 3) := by decide +kernel
theorem dX4_init_4 : decode cX4_init 4 = .ok (.aload_n 0, 1) := by decide +kernel
theorem dX4_init_5 : decode cX4_init 5 = .ok (.sipush 4096, 3) := by decide +kernel
theorem dX4_init_8 : decode cX4_init 8 = .ok (.newarray .int, 2) := by decide +kernel
theorem dX4_init_10 : decode cX4_init 10 = .ok (.putfield 11, 3) := by decide +kernel
theorem dX4_init_13 : decode cX4_init 13 = .ok (.aload_n 0, 1) := by decide +kernel
theorem dX4_init_14 : decode cX4_init 14 = .ok (.sipush 23760, 3) := by decide +kernel
theorem dX4_init_17 : decode cX4_init 17 = .ok (.newarray .int, 2) := by decide +kernel
theorem dX4_init_19 : decode cX4_init 19 = .ok (.putfield 15, 3) := by decide +kernel
theorem dX4_init_22 : decode cX4_init 22 = .ok (.aload_n 0, 1) := by decide +kernel
theorem dX4_init_23 : decode cX4_init 23 = .ok (.sipush 23760, 3) := by decide +kernel
theorem dX4_init_26 : decode cX4_init 26 = .ok (.newarray .int, 2) := by decide +kernel
theorem dX4_init_28 : decode cX4_init 28 = .ok (.putfield 18, 3) := by decide +kernel
theorem dX4_init_31 : decode cX4_init 31 = .ok (.aload_n 0, 1) := by decide +kernel
theorem dX4_init_32 : decode cX4_init 32 = .ok (.sipush 23760, 3) := by decide +kernel
theorem dX4_init_35 : decode cX4_init 35 = .ok (.newarray .int, 2) := by decide +kernel
theorem dX4_init_37 : decode cX4_init 37 = .ok (.putfield 21, 3) := by decide +kernel
theorem dX4_init_40 : decode cX4_init 40 = .ok (.aload_n 0, 1) := by decide +kernel
theorem dX4_init_41 : decode cX4_init 41 = .ok (.aload_n 1, 1) := by decide +kernel
theorem dX4_init_42 : decode cX4_init 42 = .ok (.putfield 24, 3) := by decide +kernel
theorem dX4_init_45 : decode cX4_init 45 = .ok (.aload_n 0, 1) := by decide +kernel
theorem dX4_init_46 : decode cX4_init 46 = .ok (.aload_n 2, 1) := by decide +kernel
theorem dX4_init_47 : decode cX4_init 47 = .ok (.putfield 28, 3) := by decide +kernel
theorem dX4_init_50 : decode cX4_init 50 = .ok (.return_, 1) := by decide +kernel
theorem dX4_forget_0 : decode cX4_forget 0 = .ok (.aload_n 0, 1) := by decide +kernel
theorem dX4_forget_1 : decode cX4_forget 1 = .ok (.iconst 0, 1) := by decide +kernel
theorem dX4_forget_2 : decode cX4_forget 2 = .ok (.putfield 32, 3) := by decide +kernel
theorem dX4_forget_5 : decode cX4_forget 5 = .ok (.return_, 1) := by decide +kernel
set_option maxRecDepth 20000 in
theorem ggX4_explore_X4_codeOf : GoodIn wsX4_explore wsX4_codeOf := goodIn_r _ [14, 5, 15, 76, 77, 78, 79, 80, 81, 82, 83, 84, 85, 86, 87, 88, 89, 90, 91, 92] (by decide +kernel) (by decide +kernel)
set_option maxRecDepth 20000 in
theorem gX4_explore_X4_codeOf : GoodIn wsX4_explore (wsV RX4 36 RX4 yX4_codeOf wsX4_codeOf) := goodIn_app (goodIn_of _ (by decide +kernel)) ggX4_explore_X4_codeOf
set_option maxRecDepth 20000 in
theorem ggX4_explore_J7_fill_53178 : GoodIn wsX4_explore wsJ7_fill_53178 := goodIn_r _ [19] (by decide +kernel) (by decide +kernel)
set_option maxRecDepth 20000 in
theorem gX4_explore_J7_fill_53178 : GoodIn wsX4_explore (va_wsS RX4 43 yJ7_fill_53178 wsJ7_fill_53178) := goodIn_app (goodIn_of _ (by decide +kernel)) ggX4_explore_J7_fill_53178
set_option maxRecDepth 20000 in
theorem ggX4_explore_X4_isNew : GoodIn wsX4_explore wsX4_isNew := goodIn_r _ [23, 4, 24, 25, 26, 76, 77, 78, 79, 80, 81, 82, 83] (by decide +kernel) (by decide +kernel)
set_option maxRecDepth 20000 in
theorem gX4_explore_X4_isNew : GoodIn wsX4_explore (wsV RX4 49 RX4 yX4_isNew wsX4_isNew) := goodIn_app (goodIn_of _ (by decide +kernel)) ggX4_explore_X4_isNew
set_option maxRecDepth 20000 in
theorem ggX4_explore_X4_add : GoodIn wsX4_explore wsX4_add := goodIn_r _ [30, 1, 2, 31, 7, 76, 77, 78, 79, 80, 81, 82, 83] (by decide +kernel) (by decide +kernel)
set_option maxRecDepth 20000 in
theorem gX4_explore_X4_add : GoodIn wsX4_explore (wsV RX4 53 RX4 yX4_add wsX4_add) := goodIn_app (goodIn_of _ (by decide +kernel)) ggX4_explore_X4_add
set_option maxRecDepth 20000 in
theorem ggX4_explore_X1_openTo : GoodIn wsX4_explore wsX1_openTo := goodIn_r _ [36, 37, 38, 39, 40, 41, 42, 43, 44, 45, 46, 47, 48, 25, 49, 50, 51, 52, 53, 54, 55, 56, 57, 58, 59, 60, 24, 26, 93, 94, 84, 85, 86, 87, 88, 89, 90, 91, 92, 95] (by decide +kernel) (by decide +kernel)
set_option maxRecDepth 20000 in
theorem gX4_explore_X1_openTo : GoodIn wsX4_explore (wsV RX4 63 RX1 yX1_openTo wsX1_openTo) := goodIn_app (goodIn_of _ (by decide +kernel)) ggX4_explore_X1_openTo
set_option maxRecDepth 20000 in
theorem ggX4_explore_X4_addHops : GoodIn wsX4_explore wsX4_addHops := goodIn_r _ [64, 2, 9, 8, 3, 7, 24, 25, 26, 65, 66, 10, 11, 12, 13, 14, 5, 15, 20, 21, 22, 23, 4, 67, 68, 69, 35, 70, 37, 38, 71, 72, 73, 74, 75, 40, 41, 39, 42, 43, 44, 45, 46, 47, 48, 49, 50, 51, 52, 53, 54, 55, 56, 57, 58, 59, 60, 27, 28, 29, 30, 1, 31, 76, 77, 78, 79, 80, 81, 82, 83, 84, 85, 86, 87, 88, 89, 90, 91, 92, 93, 94, 95] (by decide +kernel) (by decide +kernel)
set_option maxRecDepth 20000 in
theorem gX4_explore_X4_addHops : GoodIn wsX4_explore (wsV RX4 69 RX4 yX4_addHops wsX4_addHops) := goodIn_app (goodIn_of _ (by decide +kernel)) ggX4_explore_X4_addHops
theorem dX4_explore_0 : decode cX4_explore 0 = .ok (.aload_n 0, 1) := by decide +kernel
theorem dX4_explore_1 : decode cX4_explore 1 = .ok (.iload_n 1, 1) := by decide +kernel
theorem dX4_explore_2 : decode cX4_explore 2 = .ok (.iload_n 2, 1) := by decide +kernel
theorem dX4_explore_3 : decode cX4_explore 3 = .ok (.invokevirtual 36, 3) := by decide +kernel
theorem dX4_explore_6 : decode cX4_explore 6 = .ok (.istore 4, 2) := by decide +kernel
theorem dX4_explore_8 : decode cX4_explore 8 = .ok (.aload_n 0, 1) := by decide +kernel
theorem dX4_explore_9 : decode cX4_explore 9 = .ok (.getfield 32, 3) := by decide +kernel
theorem dX4_explore_12 : decode cX4_explore 12 = .ok (.ifCond .le 23, 3) := by decide +kernel
