theorem dX4_explore_15 : decode cX4_explore 15 = .ok (.aload_n 0, 1) := by decide +kernel
theorem dX4_explore_16 : decode cX4_explore 16 = .ok (.getfield 15, 3) := by decide +kernel
theorem dX4_explore_19 : decode cX4_explore 19 = .ok (.iconst 0, 1) := by decide +kernel
theorem dX4_explore_20 : decode cX4_explore 20 = .ok (.iaload, 1) := by decide +kernel
theorem dX4_explore_21 : decode cX4_explore 21 = .ok (.iload 4, 2) := by decide +kernel
theorem dX4_explore_23 : decode cX4_explore 23 = .ok (.if_icmp .ne 12, 3) := by decide +kernel
theorem dX4_explore_26 : decode cX4_explore 26 = .ok (.aload_n 0, 1) := by decide +kernel
theorem dX4_explore_27 : decode cX4_explore 27 = .ok (.getfield 40, 3) := by decide +kernel
theorem dX4_explore_30 : decode cX4_explore 30 = .ok (.iload_n 3, 1) := by decide +kernel
theorem dX4_explore_31 : decode cX4_explore 31 = .ok (.if_icmp .ne 4, 3) := by decide +kernel
theorem dX4_explore_34 : decode cX4_explore 34 = .ok (.return_, 1) := by decide +kernel
theorem dX4_explore_35 : decode cX4_explore 35 = .ok (.aload_n 0, 1) := by decide +kernel
theorem dX4_explore_36 : decode cX4_explore 36 = .ok (.getfield 11, 3) := by decide +kernel
theorem dX4_explore_39 : decode cX4_explore 39 = .ok (.iconst 0, 1) := by decide +kernel
theorem dX4_explore_40 : decode cX4_explore 40 = .ok (.invokestatic 43, 3) := by decide +kernel
theorem dX4_explore_43 : decode cX4_explore 43 = .ok (.aload_n 0, 1) := by decide +kernel
theorem dX4_explore_44 : decode cX4_explore 44 = .ok (.iconst 0, 1) := by decide +kernel
theorem dX4_explore_45 : decode cX4_explore 45 = .ok (.putfield 32, 3) := by decide +kernel
theorem dX4_explore_48 : decode cX4_explore 48 = .ok (.aload_n 0, 1) := by decide +kernel
theorem dX4_explore_49 : decode cX4_explore 49 = .ok (.iload_n 3, 1) := by decide +kernel
theorem dX4_explore_50 : decode cX4_explore 50 = .ok (.putfield 40, 3) := by decide +kernel
theorem dX4_explore_53 : decode cX4_explore 53 = .ok (.aload_n 0, 1) := by decide +kernel
theorem dX4_explore_54 : decode cX4_explore 54 = .ok (.iload 4, 2) := by decide +kernel
theorem dX4_explore_56 : decode cX4_explore 56 = .ok (.invokevirtual 49, 3) := by decide +kernel
theorem dX4_explore_59 : decode cX4_explore 59 = .ok (.ifCond .eq 11, 3) := by decide +kernel
theorem dX4_explore_62 : decode cX4_explore 62 = .ok (.aload_n 0, 1) := by decide +kernel
theorem dX4_explore_63 : decode cX4_explore 63 = .ok (.iload 4, 2) := by decide +kernel
theorem dX4_explore_65 : decode cX4_explore 65 = .ok (.iconst (-1), 1) := by decide +kernel
theorem dX4_explore_66 : decode cX4_explore 66 = .ok (.iconst 0, 1) := by decide +kernel
theorem dX4_explore_67 : decode cX4_explore 67 = .ok (.invokevirtual 53, 3) := by decide +kernel
theorem dX4_explore_70 : decode cX4_explore 70 = .ok (.iconst 0, 1) := by decide +kernel
theorem dX4_explore_71 : decode cX4_explore 71 = .ok (.istore 5, 2) := by decide +kernel
theorem dX4_explore_73 : decode cX4_explore 73 = .ok (.iload 5, 2) := by decide +kernel
theorem dX4_explore_75 : decode cX4_explore 75 = .ok (.aload_n 0, 1) := by decide +kernel
theorem dX4_explore_76 : decode cX4_explore 76 = .ok (.getfield 32, 3) := by decide +kernel
theorem dX4_explore_79 : decode cX4_explore 79 = .ok (.if_icmp .ge 83, 3) := by decide +kernel
theorem dX4_explore_82 : decode cX4_explore 82 = .ok (.iload 5, 2) := by decide +kernel
theorem dX4_explore_84 : decode cX4_explore 84 = .ok (.sipush 23760, 3) := by decide +kernel
theorem dX4_explore_87 : decode cX4_explore 87 = .ok (.if_icmp .ge 75, 3) := by decide +kernel
theorem dX4_explore_90 : decode cX4_explore 90 = .ok (.iconst 0, 1) := by decide +kernel
theorem dX4_explore_91 : decode cX4_explore 91 = .ok (.istore 6, 2) := by decide +kernel
theorem dX4_explore_93 : decode cX4_explore 93 = .ok (.iload 6, 2) := by decide +kernel
theorem dX4_explore_95 : decode cX4_explore 95 = .ok (.aload_n 0, 1) := by decide +kernel
theorem dX4_explore_96 : decode cX4_explore 96 = .ok (.getfield 24, 3) := by decide +kernel
theorem dX4_explore_99 : decode cX4_explore 99 = .ok (.getfield 57, 3) := by decide +kernel
theorem dX4_explore_102 : decode cX4_explore 102 = .ok (.if_icmp .ge 54, 3) := by decide +kernel
theorem dX4_explore_105 : decode cX4_explore 105 = .ok (.iload_n 2, 1) := by decide +kernel
theorem dX4_explore_106 : decode cX4_explore 106 = .ok (.aload_n 0, 1) := by decide +kernel
theorem dX4_explore_107 : decode cX4_explore 107 = .ok (.getfield 21, 3) := by decide +kernel
theorem dX4_explore_110 : decode cX4_explore 110 = .ok (.iload 5, 2) := by decide +kernel
theorem dX4_explore_112 : decode cX4_explore 112 = .ok (.iaload, 1) := by decide +kernel
theorem dX4_explore_113 : decode cX4_explore 113 = .ok (.iadd, 1) := by decide +kernel
theorem dX4_explore_114 : decode cX4_explore 114 = .ok (.istore 7, 2) := by decide +kernel
theorem dX4_explore_116 : decode cX4_explore 116 = .ok (.aload_n 0, 1) := by decide +kernel
theorem dX4_explore_117 : decode cX4_explore 117 = .ok (.iload 5, 2) := by decide +kernel
theorem dX4_explore_119 : decode cX4_explore 119 = .ok (.iload 6, 2) := by decide +kernel
theorem dX4_explore_121 : decode cX4_explore 121 = .ok (.aload_n 0, 1) := by decide +kernel
theorem dX4_explore_122 : decode cX4_explore 122 = .ok (.getfield 28, 3) := by decide +kernel
theorem dX4_explore_125 : decode cX4_explore 125 = .ok (.iload 6, 2) := by decide +kernel
theorem dX4_explore_127 : decode cX4_explore 127 = .ok (.aload_n 0, 1) := by decide +kernel
theorem dX4_explore_128 : decode cX4_explore 128 = .ok (.getfield 15, 3) := by decide +kernel
theorem dX4_explore_131 : decode cX4_explore 131 = .ok (.iload 5, 2) := by decide +kernel
theorem dX4_explore_133 : decode cX4_explore 133 = .ok (.iaload, 1) := by decide +kernel
theorem dX4_explore_134 : decode cX4_explore 134 = .ok (.ldc 62, 2) := by decide +kernel
theorem dX4_explore_136 : decode cX4_explore 136 = .ok (.iand, 1) := by decide +kernel
theorem dX4_explore_137 : decode cX4_explore 137 = .ok (.iload 7, 2) := by decide +kernel
theorem dX4_explore_139 : decode cX4_explore 139 = .ok (.iload_n 3, 1) := by decide +kernel
theorem dX4_explore_140 : decode cX4_explore 140 = .ok (.invokevirtual 63, 3) := by decide +kernel
theorem dX4_explore_143 : decode cX4_explore 143 = .ok (.iload 7, 2) := by decide +kernel
theorem dX4_explore_145 : decode cX4_explore 145 = .ok (.iconst 1, 1) := by decide +kernel
theorem dX4_explore_146 : decode cX4_explore 146 = .ok (.iadd, 1) := by decide +kernel
theorem dX4_explore_147 : decode cX4_explore 147 = .ok (.invokevirtual 69, 3) := by decide +kernel
theorem dX4_explore_150 : decode cX4_explore 150 = .ok (.iinc 6 1, 3) := by decide +kernel
theorem dX4_explore_153 : decode cX4_explore 153 = .ok (.goto (-60), 3) := by decide +kernel
theorem dX4_explore_156 : decode cX4_explore 156 = .ok (.iinc 5 1, 3) := by decide +kernel
theorem dX4_explore_159 : decode cX4_explore 159 = .ok (.goto (-86), 3) := by decide +kernel
theorem dX4_explore_162 : decode cX4_explore 162 = .ok (.return_, 1) := by decide +kernel
theorem dX4_codeOf_0 : decode cX4_codeOf 0 = .ok (.aload_n 0, 1) := by decide +kernel
theorem dX4_codeOf_1 : decode cX4_codeOf 1 = .ok (.getfield 24, 3) := by decide +kernel
theorem dX4_codeOf_4 : decode cX4_codeOf 4 = .ok (.getfield 73, 3) := by decide +kernel
theorem dX4_codeOf_7 : decode cX4_codeOf 7 = .ok (.iconst 1, 1) := by decide +kernel
theorem dX4_codeOf_8 : decode cX4_codeOf 8 = .ok (.if_icmp .ne 14, 3) := by decide +kernel
theorem dX4_codeOf_11 : decode cX4_codeOf 11 = .ok (.iload_n 1, 1) := by decide +kernel
theorem dX4_codeOf_12 : decode cX4_codeOf 12 = .ok (.iload_n 2, 1) := by decide +kernel
theorem dX4_codeOf_13 : decode cX4_codeOf 13 = .ok (.iconst 1, 1) := by decide +kernel
theorem dX4_codeOf_14 : decode cX4_codeOf 14 = .ok (.iand, 1) := by decide +kernel
theorem dX4_codeOf_15 : decode cX4_codeOf 15 = .ok (.bipush 16, 2) := by decide +kernel
theorem dX4_codeOf_17 : decode cX4_codeOf 17 = .ok (.ishl, 1) := by decide +kernel
theorem dX4_codeOf_18 : decode cX4_codeOf 18 = .ok (.ior, 1) := by decide +kernel
theorem dX4_codeOf_19 : decode cX4_codeOf 19 = .ok (.goto 4, 3) := by decide +kernel
theorem dX4_codeOf_22 : decode cX4_codeOf 22 = .ok (.iload_n 1, 1) := by decide +kernel
theorem dX4_codeOf_23 : decode cX4_codeOf 23 = .ok (.ireturn, 1) := by decide +kernel
set_option maxRecDepth 20000 in
theorem ggX4_addHops_X7_bit : GoodIn wsX4_addHops wsX7_bit := goodIn_r _ [8] (by decide +kernel) (by decide +kernel)
set_option maxRecDepth 20000 in
theorem gX4_addHops_X7_bit_n76 : GoodIn wsX4_addHops (wsX7_bit) := ggX4_addHops_X7_bit
set_option maxRecDepth 20000 in
theorem ggX4_addHops_X7_moved : GoodIn wsX4_addHops wsX7_moved := goodIn_r _ [10] (by decide +kernel) (by decide +kernel)
set_option maxRecDepth 20000 in
theorem gX4_addHops_X7_moved_n79 : GoodIn wsX4_addHops (wsX7_moved) := ggX4_addHops_X7_moved
set_option maxRecDepth 20000 in
theorem ggX4_addHops_X4_codeOf : GoodIn wsX4_addHops wsX4_codeOf := goodIn_r _ [15, 16, 17, 63, 64, 65, 66, 67, 68, 69, 70, 71, 72, 73, 74, 75, 76, 77, 78, 79] (by decide +kernel) (by decide +kernel)
set_option maxRecDepth 20000 in
theorem gX4_addHops_X4_codeOf : GoodIn wsX4_addHops (wsV RX4 36 RX4 yX4_codeOf wsX4_codeOf) := goodIn_app (goodIn_of _ (by decide +kernel)) ggX4_addHops_X4_codeOf
set_option maxRecDepth 20000 in
theorem ggX4_addHops_X4_isNew : GoodIn wsX4_addHops wsX4_isNew := goodIn_r _ [21, 22, 6, 7, 8, 63, 64, 65, 66, 67, 68, 69, 70] (by decide +kernel) (by decide +kernel)
set_option maxRecDepth 20000 in
theorem gX4_addHops_X4_isNew : GoodIn wsX4_addHops (wsV RX4 49 RX4 yX4_isNew wsX4_isNew) := goodIn_app (goodIn_of _ (by decide +kernel)) ggX4_addHops_X4_isNew
set_option maxRecDepth 20000 in
theorem ggX4_addHops_X1_mayStand : GoodIn wsX4_addHops wsX1_mayStand := goodIn_r _ [27, 28, 29, 30, 31, 32, 26, 33, 34, 35, 36, 37, 38, 39, 40, 41, 42, 43, 44, 7, 45, 46, 47, 48, 49, 50, 51, 52, 53, 54, 55, 56, 6, 8, 80, 81, 71, 72, 73, 74, 75, 76, 77, 78, 79, 82] (by decide +kernel) (by decide +kernel)
set_option maxRecDepth 20000 in
theorem gX4_addHops_X1_mayStand : GoodIn wsX4_addHops (wsV RX4 83 RX1 yX1_mayStand wsX1_mayStand) := goodIn_app (goodIn_of _ (by decide +kernel)) ggX4_addHops_X1_mayStand
set_option maxRecDepth 20000 in
theorem ggX4_addHops_X4_add : GoodIn wsX4_addHops wsX4_add := goodIn_r _ [60, 61, 1, 62, 5, 63, 64, 65, 66, 67, 68, 69, 70] (by decide +kernel) (by decide +kernel)
set_option maxRecDepth 20000 in
theorem gX4_addHops_X4_add : GoodIn wsX4_addHops (wsV RX4 53 RX4 yX4_add wsX4_add) := goodIn_app (goodIn_of _ (by decide +kernel)) ggX4_addHops_X4_add
theorem dX4_addHops_0 : decode cX4_addHops 0 = .ok (.iconst 0, 1) := by decide +kernel
theorem dX4_addHops_1 : decode cX4_addHops 1 = .ok (.istore 5, 2) := by decide +kernel
theorem dX4_addHops_3 : decode cX4_addHops 3 = .ok (.iload 5, 2) := by decide +kernel
theorem dX4_addHops_5 : decode cX4_addHops 5 = .ok (.bipush 12, 2) := by decide +kernel
theorem dX4_addHops_7 : decode cX4_addHops 7 = .ok (.if_icmp .ge 88, 3) := by decide +kernel
theorem dX4_addHops_10 : decode cX4_addHops 10 = .ok (.iload_n 3, 1) := by decide +kernel
theorem dX4_addHops_11 : decode cX4_addHops 11 = .ok (.iload 5, 2) := by decide +kernel
theorem dX4_addHops_13 : decode cX4_addHops 13 = .ok (.invokestatic 76, 3) := by decide +kernel
theorem dX4_addHops_16 : decode cX4_addHops 16 = .ok (.ifCond .ne 6, 3) := by decide +kernel
theorem dX4_addHops_19 : decode cX4_addHops 19 = .ok (.goto 70, 3) := by decide +kernel
theorem dX4_addHops_22 : decode cX4_addHops 22 = .ok (.aload_n 0, 1) := by decide +kernel
theorem dX4_addHops_23 : decode cX4_addHops 23 = .ok (.getfield 15, 3) := by decide +kernel
theorem dX4_addHops_26 : decode cX4_addHops 26 = .ok (.iload_n 1, 1) := by decide +kernel
theorem dX4_addHops_27 : decode cX4_addHops 27 = .ok (.iaload, 1) := by decide +kernel
theorem dX4_addHops_28 : decode cX4_addHops 28 = .ok (.ldc 62, 2) := by decide +kernel
theorem dX4_addHops_30 : decode cX4_addHops 30 = .ok (.iand, 1) := by decide +kernel
theorem dX4_addHops_31 : decode cX4_addHops 31 = .ok (.iload_n 2, 1) := by decide +kernel
theorem dX4_addHops_32 : decode cX4_addHops 32 = .ok (.iload 5, 2) := by decide +kernel
theorem dX4_addHops_34 : decode cX4_addHops 34 = .ok (.invokestatic 79, 3) := by decide +kernel
theorem dX4_addHops_37 : decode cX4_addHops 37 = .ok (.istore 6, 2) := by decide +kernel
theorem dX4_addHops_39 : decode cX4_addHops 39 = .ok (.aload_n 0, 1) := by decide +kernel
theorem dX4_addHops_40 : decode cX4_addHops 40 = .ok (.iload 6, 2) := by decide +kernel
theorem dX4_addHops_42 : decode cX4_addHops 42 = .ok (.iload 4, 2) := by decide +kernel
theorem dX4_addHops_44 : decode cX4_addHops 44 = .ok (.invokevirtual 36, 3) := by decide +kernel
theorem dX4_addHops_47 : decode cX4_addHops 47 = .ok (.istore 7, 2) := by decide +kernel
theorem dX4_addHops_49 : decode cX4_addHops 49 = .ok (.aload_n 0, 1) := by decide +kernel
theorem dX4_addHops_50 : decode cX4_addHops 50 = .ok (.iload 7, 2) := by decide +kernel
theorem dX4_addHops_52 : decode cX4_addHops 52 = .ok (.invokevirtual 49, 3) := by decide +kernel
theorem dX4_addHops_55 : decode cX4_addHops 55 = .ok (.ifCond .eq 34, 3) := by decide +kernel
theorem dX4_addHops_58 : decode cX4_addHops 58 = .ok (.aload_n 0, 1) := by decide +kernel
theorem dX4_addHops_59 : decode cX4_addHops 59 = .ok (.getfield 28, 3) := by decide +kernel
theorem dX4_addHops_62 : decode cX4_addHops 62 = .ok (.iload 6, 2) := by decide +kernel
theorem dX4_addHops_64 : decode cX4_addHops 64 = .ok (.aload_n 0, 1) := by decide +kernel
theorem dX4_addHops_65 : decode cX4_addHops 65 = .ok (.getfield 40, 3) := by decide +kernel
theorem dX4_addHops_68 : decode cX4_addHops 68 = .ok (.invokevirtual 83, 3) := by decide +kernel
theorem dX4_addHops_71 : decode cX4_addHops 71 = .ok (.ifCond .eq 18, 3) := by decide +kernel
theorem dX4_addHops_74 : decode cX4_addHops 74 = .ok (.aload_n 0, 1) := by decide +kernel
theorem dX4_addHops_75 : decode cX4_addHops 75 = .ok (.iload 7, 2) := by decide +kernel
theorem dX4_addHops_77 : decode cX4_addHops 77 = .ok (.iload_n 1, 1) := by decide +kernel
theorem dX4_addHops_78 : decode cX4_addHops 78 = .ok (.aload_n 0, 1) := by decide +kernel
theorem dX4_addHops_79 : decode cX4_addHops 79 = .ok (.getfield 21, 3) := by decide +kernel
theorem dX4_addHops_82 : decode cX4_addHops 82 = .ok (.iload_n 1, 1) := by decide +kernel
theorem dX4_addHops_83 : decode cX4_addHops 83 = .ok (.iaload, 1) := by decide +kernel
theorem dX4_addHops_84 : decode cX4_addHops 84 = .ok (.iconst 1, 1) := by decide +kernel
theorem dX4_addHops_85 : decode cX4_addHops 85 = .ok (.iadd, 1) := by decide +kernel
theorem dX4_addHops_86 : decode cX4_addHops 86 = .ok (.invokevirtual 53, 3) := by decide +kernel
theorem dX4_addHops_89 : decode cX4_addHops 89 = .ok (.iinc 5 1, 3) := by decide +kernel
theorem dX4_addHops_92 : decode cX4_addHops 92 = .ok (.goto (-89), 3) := by decide +kernel
theorem dX4_addHops_95 : decode cX4_addHops 95 = .ok (.return_, 1) := by decide +kernel
set_option maxRecDepth 20000 in
theorem ggX4_isNew_X7_bit : GoodIn wsX4_isNew wsX7_bit := goodIn_r _ [4] (by decide +kernel) (by decide +kernel)
set_option maxRecDepth 20000 in
theorem gX4_isNew_X7_bit_n76 : GoodIn wsX4_isNew (wsX7_bit) := ggX4_isNew_X7_bit
theorem dX4_isNew_0 : decode cX4_isNew 0 = .ok (.iload_n 1, 1) := by decide +kernel
theorem dX4_isNew_1 : decode cX4_isNew 1 = .ok (.iconst 5, 1) := by decide +kernel
theorem dX4_isNew_2 : decode cX4_isNew 2 = .ok (.ishr, 1) := by decide +kernel
theorem dX4_isNew_3 : decode cX4_isNew 3 = .ok (.istore_n 2, 1) := by decide +kernel
theorem dX4_isNew_4 : decode cX4_isNew 4 = .ok (.iload_n 2, 1) := by decide +kernel
theorem dX4_isNew_5 : decode cX4_isNew 5 = .ok (.ifCond .lt 27, 3) := by decide +kernel
theorem dX4_isNew_8 : decode cX4_isNew 8 = .ok (.iload_n 2, 1) := by decide +kernel
theorem dX4_isNew_9 : decode cX4_isNew 9 = .ok (.sipush 4096, 3) := by decide +kernel
theorem dX4_isNew_12 : decode cX4_isNew 12 = .ok (.if_icmp .ge 20, 3) := by decide +kernel
theorem dX4_isNew_15 : decode cX4_isNew 15 = .ok (.aload_n 0, 1) := by decide +kernel
theorem dX4_isNew_16 : decode cX4_isNew 16 = .ok (.getfield 11, 3) := by decide +kernel
theorem dX4_isNew_19 : decode cX4_isNew 19 = .ok (.iload_n 2, 1) := by decide +kernel
theorem dX4_isNew_20 : decode cX4_isNew 20 = .ok (.iaload, 1) := by decide +kernel
theorem dX4_isNew_21 : decode cX4_isNew 21 = .ok (.iload_n 1, 1) := by decide +kernel
theorem dX4_isNew_22 : decode cX4_isNew 22 = .ok (.bipush 31, 2) := by decide +kernel
theorem dX4_isNew_24 : decode cX4_isNew 24 = .ok (.iand, 1) := by decide +kernel
theorem dX4_isNew_25 : decode cX4_isNew 25 = .ok (.invokestatic 76, 3) := by decide +kernel
theorem dX4_isNew_28 : decode cX4_isNew 28 = .ok (.iconst 1, 1) := by decide +kernel
theorem dX4_isNew_29 : decode cX4_isNew 29 = .ok (.if_icmp .ne 5, 3) := by decide +kernel
theorem dX4_isNew_32 : decode cX4_isNew 32 = .ok (.iconst 0, 1) := by decide +kernel
theorem dX4_isNew_33 : decode cX4_isNew 33 = .ok (.ireturn, 1) := by decide +kernel
theorem dX4_isNew_34 : decode cX4_isNew 34 = .ok (.aload_n 0, 1) := by decide +kernel
theorem dX4_isNew_35 : decode cX4_isNew 35 = .ok (.getfield 11, 3) := by decide +kernel
theorem dX4_isNew_38 : decode cX4_isNew 38 = .ok (.iload_n 2, 1) := by decide +kernel
theorem dX4_isNew_39 : decode cX4_isNew 39 = .ok (.dup2, 1) := by decide +kernel
theorem dX4_isNew_40 : decode cX4_isNew 40 = .ok (.iaload, 1) := by decide +kernel
theorem dX4_isNew_41 : decode cX4_isNew 41 = .ok (.iconst 1, 1) := by decide +kernel
theorem dX4_isNew_42 : decode cX4_isNew 42 = .ok (.iload_n 1, 1) := by decide +kernel
theorem dX4_isNew_43 : decode cX4_isNew 43 = .ok (.bipush 31, 2) := by decide +kernel
theorem dX4_isNew_45 : decode cX4_isNew 45 = .ok (.iand, 1) := by decide +kernel
theorem dX4_isNew_46 : decode cX4_isNew 46 = .ok (.ishl, 1) := by decide +kernel
theorem dX4_isNew_47 : decode cX4_isNew 47 = .ok (.ior, 1) := by decide +kernel
theorem dX4_isNew_48 : decode cX4_isNew 48 = .ok (.iastore, 1) := by decide +kernel
theorem dX4_isNew_49 : decode cX4_isNew 49 = .ok (.iconst 1, 1) := by decide +kernel
theorem dX4_isNew_50 : decode cX4_isNew 50 = .ok (.ireturn, 1) := by decide +kernel
theorem dX4_add_0 : decode cX4_add 0 = .ok (.aload_n 0, 1) := by decide +kernel
theorem dX4_add_1 : decode cX4_add 1 = .ok (.getfield 32, 3) := by decide +kernel
theorem dX4_add_4 : decode cX4_add 4 = .ok (.sipush 23760, 3) := by decide +kernel
theorem dX4_add_7 : decode cX4_add 7 = .ok (.if_icmp .lt 4, 3) := by decide +kernel
theorem dX4_add_10 : decode cX4_add 10 = .ok (.return_, 1) := by decide +kernel
theorem dX4_add_11 : decode cX4_add 11 = .ok (.aload_n 0, 1) := by decide +kernel
theorem dX4_add_12 : decode cX4_add 12 = .ok (.getfield 15, 3) := by decide +kernel
theorem dX4_add_15 : decode cX4_add 15 = .ok (.aload_n 0, 1) := by decide +kernel
theorem dX4_add_16 : decode cX4_add 16 = .ok (.getfield 32, 3) := by decide +kernel
theorem dX4_add_19 : decode cX4_add 19 = .ok (.iload_n 1, 1) := by decide +kernel
theorem dX4_add_20 : decode cX4_add 20 = .ok (.iastore, 1) := by decide +kernel
theorem dX4_add_21 : decode cX4_add 21 = .ok (.aload_n 0, 1) := by decide +kernel
theorem dX4_add_22 : decode cX4_add 22 = .ok (.getfield 18, 3) := by decide +kernel
theorem dX4_add_25 : decode cX4_add 25 = .ok (.aload_n 0, 1) := by decide +kernel
theorem dX4_add_26 : decode cX4_add 26 = .ok (.getfield 32, 3) := by decide +kernel
theorem dX4_add_29 : decode cX4_add 29 = .ok (.iload_n 2, 1) := by decide +kernel
theorem dX4_add_30 : decode cX4_add 30 = .ok (.iastore, 1) := by decide +kernel
theorem dX4_add_31 : decode cX4_add 31 = .ok (.aload_n 0, 1) := by decide +kernel
theorem dX4_add_32 : decode cX4_add 32 = .ok (.getfield 21, 3) := by decide +kernel
theorem dX4_add_35 : decode cX4_add 35 = .ok (.aload_n 0, 1) := by decide +kernel
theorem dX4_add_36 : decode cX4_add 36 = .ok (.getfield 32, 3) := by decide +kernel
theorem dX4_add_39 : decode cX4_add 39 = .ok (.iload_n 3, 1) := by decide +kernel
theorem dX4_add_40 : decode cX4_add 40 = .ok (.iastore, 1) := by decide +kernel
theorem dX4_add_41 : decode cX4_add 41 = .ok (.aload_n 0, 1) := by decide +kernel
theorem dX4_add_42 : decode cX4_add 42 = .ok (.dup, 1) := by decide +kernel
theorem dX4_add_43 : decode cX4_add 43 = .ok (.getfield 32, 3) := by decide +kernel
theorem dX4_add_46 : decode cX4_add 46 = .ok (.iconst 1, 1) := by decide +kernel
theorem dX4_add_47 : decode cX4_add 47 = .ok (.iadd, 1) := by decide +kernel
theorem dX4_add_48 : decode cX4_add 48 = .ok (.putfield 32, 3) := by decide +kernel
theorem dX4_add_51 : decode cX4_add 51 = .ok (.return_, 1) := by decide +kernel
theorem dX4_firstHome_0 : decode cX4_firstHome 0 = .ok (.iconst 0, 1) := by decide +kernel
theorem dX4_firstHome_1 : decode cX4_firstHome 1 = .ok (.istore_n 1, 1) := by decide +kernel
theorem dX4_firstHome_2 : decode cX4_firstHome 2 = .ok (.iload_n 1, 1) := by decide +kernel
theorem dX4_firstHome_3 : decode cX4_firstHome 3 = .ok (.aload_n 0, 1) := by decide +kernel
theorem dX4_firstHome_4 : decode cX4_firstHome 4 = .ok (.getfield 32, 3) := by decide +kernel
theorem dX4_firstHome_7 : decode cX4_firstHome 7 = .ok (.if_icmp .ge 30, 3) := by decide +kernel
theorem dX4_firstHome_10 : decode cX4_firstHome 10 = .ok (.aload_n 0, 1) := by decide +kernel
theorem dX4_firstHome_11 : decode cX4_firstHome 11 = .ok (.getfield 15, 3) := by decide +kernel
theorem dX4_firstHome_14 : decode cX4_firstHome 14 = .ok (.iload_n 1, 1) := by decide +kernel
theorem dX4_firstHome_15 : decode cX4_firstHome 15 = .ok (.iaload, 1) := by decide +kernel
theorem dX4_firstHome_16 : decode cX4_firstHome 16 = .ok (.ldc 62, 2) := by decide +kernel
theorem dX4_firstHome_18 : decode cX4_firstHome 18 = .ok (.iand, 1) := by decide +kernel
theorem dX4_firstHome_19 : decode cX4_firstHome 19 = .ok (.aload_n 0, 1) := by decide +kernel
theorem dX4_firstHome_20 : decode cX4_firstHome 20 = .ok (.getfield 24, 3) := by decide +kernel
theorem dX4_firstHome_23 : decode cX4_firstHome 23 = .ok (.getfield 87, 3) := by decide +kernel
theorem dX4_firstHome_26 : decode cX4_firstHome 26 = .ok (.if_icmp .ne 5, 3) := by decide +kernel
theorem dX4_firstHome_29 : decode cX4_firstHome 29 = .ok (.iload_n 1, 1) := by decide +kernel
theorem dX4_firstHome_30 : decode cX4_firstHome 30 = .ok (.ireturn, 1) := by decide +kernel
theorem dX4_firstHome_31 : decode cX4_firstHome 31 = .ok (.iinc 1 1, 3) := by decide +kernel
theorem dX4_firstHome_34 : decode cX4_firstHome 34 = .ok (.goto (-32), 3) := by decide +kernel
theorem dX4_firstHome_37 : decode cX4_firstHome 37 = .ok (.iconst (-1), 1) := by decide +kernel
theorem dX4_firstHome_38 : decode cX4_firstHome 38 = .ok (.ireturn, 1) := by decide +kernel
set_option maxRecDepth 20000 in
theorem ggX4_firstHomeAlike_X4_allHomeAlike : GoodIn wsX4_firstHomeAlike wsX4_allHomeAlike := goodIn_r _ [7, 8, 9, 10, 11, 12, 13, 14, 15, 16, 17, 18, 19, 20, 21, 22, 23, 24, 25, 26, 27, 28, 29, 30, 31, 32, 33, 34, 35, 36, 37, 38] (by decide +kernel) (by decide +kernel)
set_option maxRecDepth 20000 in
theorem gX4_firstHomeAlike_X4_allHomeAlike : GoodIn wsX4_firstHomeAlike (wsV RX4 90 RX4 yX4_allHomeAlike wsX4_allHomeAlike) := goodIn_app (goodIn_of _ (by decide +kernel)) ggX4_firstHomeAlike_X4_allHomeAlike
theorem dX4_firstHomeAlike_0 : decode cX4_firstHomeAlike 0 = .ok (.iconst 0, 1) := by decide +kernel
theorem dX4_firstHomeAlike_1 : decode cX4_firstHomeAlike 1 = .ok (.istore_n 1, 1) := by decide +kernel
theorem dX4_firstHomeAlike_2 : decode cX4_firstHomeAlike 2 = .ok (.iload_n 1, 1) := by decide +kernel
theorem dX4_firstHomeAlike_3 : decode cX4_firstHomeAlike 3 = .ok (.aload_n 0, 1) := by decide +kernel
theorem dX4_firstHomeAlike_4 : decode cX4_firstHomeAlike 4 = .ok (.getfield 32, 3) := by decide +kernel
theorem dX4_firstHomeAlike_7 : decode cX4_firstHomeAlike 7 = .ok (.if_icmp .ge 24, 3) := by decide +kernel
theorem dX4_firstHomeAlike_10 : decode cX4_firstHomeAlike 10 = .ok (.aload_n 0, 1) := by decide +kernel
theorem dX4_firstHomeAlike_11 : decode cX4_firstHomeAlike 11 = .ok (.aload_n 0, 1) := by decide +kernel
theorem dX4_firstHomeAlike_12 : decode cX4_firstHomeAlike 12 = .ok (.getfield 15, 3) := by decide +kernel
theorem dX4_firstHomeAlike_15 : decode cX4_firstHomeAlike 15 = .ok (.iload_n 1, 1) := by decide +kernel
theorem dX4_firstHomeAlike_16 : decode cX4_firstHomeAlike 16 = .ok (.iaload, 1) := by decide +kernel
theorem dX4_firstHomeAlike_17 : decode cX4_firstHomeAlike 17 = .ok (.invokevirtual 90, 3) := by decide +kernel
theorem dX4_firstHomeAlike_20 : decode cX4_firstHomeAlike 20 = .ok (.ifCond .eq 5, 3) := by decide +kernel
theorem dX4_firstHomeAlike_23 : decode cX4_firstHomeAlike 23 = .ok (.iload_n 1, 1) := by decide +kernel
theorem dX4_firstHomeAlike_24 : decode cX4_firstHomeAlike 24 = .ok (.ireturn, 1) := by decide +kernel
theorem dX4_firstHomeAlike_25 : decode cX4_firstHomeAlike 25 = .ok (.iinc 1 1, 3) := by decide +kernel
theorem dX4_firstHomeAlike_28 : decode cX4_firstHomeAlike 28 = .ok (.goto (-26), 3) := by decide +kernel
theorem dX4_firstHomeAlike_31 : decode cX4_firstHomeAlike 31 = .ok (.iconst (-1), 1) := by decide +kernel
theorem dX4_firstHomeAlike_32 : decode cX4_firstHomeAlike 32 = .ok (.ireturn, 1) := by decide +kernel
set_option maxRecDepth 20000 in
theorem ggX4_allHomeAlike_X7_placeOf : GoodIn wsX4_allHomeAlike wsX7_placeOf := goodIn_r _ [8] (by decide +kernel) (by decide +kernel)
set_option maxRecDepth 20000 in
theorem gX4_allHomeAlike_X7_placeOf_n93 : GoodIn wsX4_allHomeAlike (wsX7_placeOf) := ggX4_allHomeAlike_X7_placeOf
set_option maxRecDepth 20000 in
theorem ggX4_allHomeAlike_X5_manOf : GoodIn wsX4_allHomeAlike wsX5_manOf := goodIn_r _ [13, 14, 6, 7, 8, 23, 24, 25, 26, 27, 28, 29, 30, 31] (by decide +kernel) (by decide +kernel)
set_option maxRecDepth 20000 in
theorem gX4_allHomeAlike_X5_manOf : GoodIn wsX4_allHomeAlike (wsV RX4 96 RX5 yX5_manOf wsX5_manOf) := goodIn_app (goodIn_of _ (by decide +kernel)) ggX4_allHomeAlike_X5_manOf
theorem dX4_allHomeAlike_0 : decode cX4_allHomeAlike 0 = .ok (.iconst 0, 1) := by decide +kernel
theorem dX4_allHomeAlike_1 : decode cX4_allHomeAlike 1 = .ok (.istore_n 2, 1) := by decide +kernel
theorem dX4_allHomeAlike_2 : decode cX4_allHomeAlike 2 = .ok (.iload_n 2, 1) := by decide +kernel
theorem dX4_allHomeAlike_3 : decode cX4_allHomeAlike 3 = .ok (.aload_n 0, 1) := by decide +kernel
theorem dX4_allHomeAlike_4 : decode cX4_allHomeAlike 4 = .ok (.getfield 24, 3) := by decide +kernel
theorem dX4_allHomeAlike_7 : decode cX4_allHomeAlike 7 = .ok (.getfield 57, 3) := by decide +kernel
theorem dX4_allHomeAlike_10 : decode cX4_allHomeAlike 10 = .ok (.if_icmp .ge 92, 3) := by decide +kernel
theorem dX4_allHomeAlike_13 : decode cX4_allHomeAlike 13 = .ok (.aload_n 0, 1) := by decide +kernel
theorem dX4_allHomeAlike_14 : decode cX4_allHomeAlike 14 = .ok (.getfield 24, 3) := by decide +kernel
theorem dX4_allHomeAlike_17 : decode cX4_allHomeAlike 17 = .ok (.aload_n 0, 1) := by decide +kernel
theorem dX4_allHomeAlike_18 : decode cX4_allHomeAlike 18 = .ok (.getfield 24, 3) := by decide +kernel
theorem dX4_allHomeAlike_21 : decode cX4_allHomeAlike 21 = .ok (.getfield 87, 3) := by decide +kernel
theorem dX4_allHomeAlike_24 : decode cX4_allHomeAlike 24 = .ok (.iload_n 2, 1) := by decide +kernel
theorem dX4_allHomeAlike_25 : decode cX4_allHomeAlike 25 = .ok (.iload_n 1, 1) := by decide +kernel
theorem dX4_allHomeAlike_26 : decode cX4_allHomeAlike 26 = .ok (.invokestatic 93, 3) := by decide +kernel
theorem dX4_allHomeAlike_29 : decode cX4_allHomeAlike 29 = .ok (.invokevirtual 96, 3) := by decide +kernel
theorem dX4_allHomeAlike_32 : decode cX4_allHomeAlike 32 = .ok (.istore_n 3, 1) := by decide +kernel
theorem dX4_allHomeAlike_33 : decode cX4_allHomeAlike 33 = .ok (.iload_n 3, 1) := by decide +kernel
theorem dX4_allHomeAlike_34 : decode cX4_allHomeAlike 34 = .ok (.iconst (-1), 1) := by decide +kernel
theorem dX4_allHomeAlike_35 : decode cX4_allHomeAlike 35 = .ok (.if_icmp .ne 5, 3) := by decide +kernel
theorem dX4_allHomeAlike_38 : decode cX4_allHomeAlike 38 = .ok (.iconst 0, 1) := by decide +kernel
theorem dX4_allHomeAlike_39 : decode cX4_allHomeAlike 39 = .ok (.ireturn, 1) := by decide +kernel
theorem dX4_allHomeAlike_40 : decode cX4_allHomeAlike 40 = .ok (.aload_n 0, 1) := by decide +kernel
theorem dX4_allHomeAlike_41 : decode cX4_allHomeAlike 41 = .ok (.getfield 24, 3) := by decide +kernel
theorem dX4_allHomeAlike_44 : decode cX4_allHomeAlike 44 = .ok (.getfield 99, 3) := by decide +kernel
theorem dX4_allHomeAlike_47 : decode cX4_allHomeAlike 47 = .ok (.iload_n 2, 1) := by decide +kernel
theorem dX4_allHomeAlike_48 : decode cX4_allHomeAlike 48 = .ok (.iaload, 1) := by decide +kernel
theorem dX4_allHomeAlike_49 : decode cX4_allHomeAlike 49 = .ok (.aload_n 0, 1) := by decide +kernel
theorem dX4_allHomeAlike_50 : decode cX4_allHomeAlike 50 = .ok (.getfield 24, 3) := by decide +kernel
theorem dX4_allHomeAlike_53 : decode cX4_allHomeAlike 53 = .ok (.getfield 99, 3) := by decide +kernel
theorem dX4_allHomeAlike_56 : decode cX4_allHomeAlike 56 = .ok (.iload_n 3, 1) := by decide +kernel
theorem dX4_allHomeAlike_57 : decode cX4_allHomeAlike 57 = .ok (.iaload, 1) := by decide +kernel
theorem dX4_allHomeAlike_58 : decode cX4_allHomeAlike 58 = .ok (.if_icmp .ne 28, 3) := by decide +kernel
theorem dX4_allHomeAlike_61 : decode cX4_allHomeAlike 61 = .ok (.aload_n 0, 1) := by decide +kernel
theorem dX4_allHomeAlike_62 : decode cX4_allHomeAlike 62 = .ok (.getfield 24, 3) := by decide +kernel
theorem dX4_allHomeAlike_65 : decode cX4_allHomeAlike 65 = .ok (.getfield 102, 3) := by decide +kernel
theorem dX4_allHomeAlike_68 : decode cX4_allHomeAlike 68 = .ok (.iload_n 2, 1) := by decide +kernel
theorem dX4_allHomeAlike_69 : decode cX4_allHomeAlike 69 = .ok (.iaload, 1) := by decide +kernel
theorem dX4_allHomeAlike_70 : decode cX4_allHomeAlike 70 = .ok (.aload_n 0, 1) := by decide +kernel
theorem dX4_allHomeAlike_71 : decode cX4_allHomeAlike 71 = .ok (.getfield 24, 3) := by decide +kernel
theorem dX4_allHomeAlike_74 : decode cX4_allHomeAlike 74 = .ok (.getfield 102, 3) := by decide +kernel
theorem dX4_allHomeAlike_77 : decode cX4_allHomeAlike 77 = .ok (.iload_n 3, 1) := by decide +kernel
theorem dX4_allHomeAlike_78 : decode cX4_allHomeAlike 78 = .ok (.iaload, 1) := by decide +kernel
theorem dX4_allHomeAlike_79 : decode cX4_allHomeAlike 79 = .ok (.if_icmp .ne 7, 3) := by decide +kernel
theorem dX4_allHomeAlike_82 : decode cX4_allHomeAlike 82 = .ok (.iconst 1, 1) := by decide +kernel
theorem dX4_allHomeAlike_83 : decode cX4_allHomeAlike 83 = .ok (.goto 4, 3) := by decide +kernel
theorem dX4_allHomeAlike_86 : decode cX4_allHomeAlike 86 = .ok (.iconst 0, 1) := by decide +kernel
theorem dX4_allHomeAlike_87 : decode cX4_allHomeAlike 87 = .ok (.istore 4, 2) := by decide +kernel
theorem dX4_allHomeAlike_89 : decode cX4_allHomeAlike 89 = .ok (.iload 4, 2) := by decide +kernel
theorem dX4_allHomeAlike_91 : decode cX4_allHomeAlike 91 = .ok (.ifCond .ne 5, 3) := by decide +kernel
theorem dX4_allHomeAlike_94 : decode cX4_allHomeAlike 94 = .ok (.iconst 0, 1) := by decide +kernel
theorem dX4_allHomeAlike_95 : decode cX4_allHomeAlike 95 = .ok (.ireturn, 1) := by decide +kernel
theorem dX4_allHomeAlike_96 : decode cX4_allHomeAlike 96 = .ok (.iinc 2 1, 3) := by decide +kernel
theorem dX4_allHomeAlike_99 : decode cX4_allHomeAlike 99 = .ok (.goto (-97), 3) := by decide +kernel
theorem dX4_allHomeAlike_102 : decode cX4_allHomeAlike 102 = .ok (.iconst 1, 1) := by decide +kernel
theorem dX4_allHomeAlike_103 : decode cX4_allHomeAlike 103 = .ok (.ireturn, 1) := by decide +kernel
theorem dX4_depthOf_0 : decode cX4_depthOf 0 = .ok (.iload_n 1, 1) := by decide +kernel
theorem dX4_depthOf_1 : decode cX4_depthOf 1 = .ok (.ifCond .lt 11, 3) := by decide +kernel
theorem dX4_depthOf_4 : decode cX4_depthOf 4 = .ok (.iload_n 1, 1) := by decide +kernel
theorem dX4_depthOf_5 : decode cX4_depthOf 5 = .ok (.aload_n 0, 1) := by decide +kernel
theorem dX4_depthOf_6 : decode cX4_depthOf 6 = .ok (.getfield 32, 3) := by decide +kernel
theorem dX4_depthOf_9 : decode cX4_depthOf 9 = .ok (.if_icmp .lt 7, 3) := by decide +kernel
theorem dX4_depthOf_12 : decode cX4_depthOf 12 = .ok (.iconst (-1), 1) := by decide +kernel
theorem dX4_depthOf_13 : decode cX4_depthOf 13 = .ok (.goto 9, 3) := by decide +kernel
theorem dX4_depthOf_16 : decode cX4_depthOf 16 = .ok (.aload_n 0, 1) := by decide +kernel
theorem dX4_depthOf_17 : decode cX4_depthOf 17 = .ok (.getfield 21, 3) := by decide +kernel
theorem dX4_depthOf_20 : decode cX4_depthOf 20 = .ok (.iload_n 1, 1) := by decide +kernel
theorem dX4_depthOf_21 : decode cX4_depthOf 21 = .ok (.iaload, 1) := by decide +kernel
theorem dX4_depthOf_22 : decode cX4_depthOf 22 = .ok (.ireturn, 1) := by decide +kernel
theorem dX4_howMany_0 : decode cX4_howMany 0 = .ok (.iconst 0, 1) := by decide +kernel
theorem dX4_howMany_1 : decode cX4_howMany 1 = .ok (.istore_n 2, 1) := by decide +kernel
theorem dX4_howMany_2 : decode cX4_howMany 2 = .ok (.iconst 0, 1) := by decide +kernel
theorem dX4_howMany_3 : decode cX4_howMany 3 = .ok (.istore_n 3, 1) := by decide +kernel
theorem dX4_howMany_4 : decode cX4_howMany 4 = .ok (.iload_n 3, 1) := by decide +kernel
theorem dX4_howMany_5 : decode cX4_howMany 5 = .ok (.aload_n 0, 1) := by decide +kernel
theorem dX4_howMany_6 : decode cX4_howMany 6 = .ok (.getfield 32, 3) := by decide +kernel
theorem dX4_howMany_9 : decode cX4_howMany 9 = .ok (.if_icmp .ge 22, 3) := by decide +kernel
theorem dX4_howMany_12 : decode cX4_howMany 12 = .ok (.aload_n 0, 1) := by decide +kernel
theorem dX4_howMany_13 : decode cX4_howMany 13 = .ok (.getfield 21, 3) := by decide +kernel
theorem dX4_howMany_16 : decode cX4_howMany 16 = .ok (.iload_n 3, 1) := by decide +kernel
theorem dX4_howMany_17 : decode cX4_howMany 17 = .ok (.iaload, 1) := by decide +kernel
theorem dX4_howMany_18 : decode cX4_howMany 18 = .ok (.iload_n 1, 1) := by decide +kernel
theorem dX4_howMany_19 : decode cX4_howMany 19 = .ok (.if_icmp .ne 6, 3) := by decide +kernel
theorem dX4_howMany_22 : decode cX4_howMany 22 = .ok (.iinc 2 1, 3) := by decide +kernel
theorem dX4_howMany_25 : decode cX4_howMany 25 = .ok (.iinc 3 1, 3) := by decide +kernel
theorem dX4_howMany_28 : decode cX4_howMany 28 = .ok (.goto (-24), 3) := by decide +kernel
theorem dX4_howMany_31 : decode cX4_howMany 31 = .ok (.iload_n 2, 1) := by decide +kernel
theorem dX4_howMany_32 : decode cX4_howMany 32 = .ok (.ireturn, 1) := by decide +kernel
set_option maxRecDepth 20000 in
theorem ggX4_greatestDepth_X4_depthOf : GoodIn wsX4_greatestDepth wsX4_depthOf := goodIn_r _ [6, 1, 7, 8, 9, 10, 11, 12, 13, 14, 15] (by decide +kernel) (by decide +kernel)
set_option maxRecDepth 20000 in
theorem gX4_greatestDepth_X4_depthOf : GoodIn wsX4_greatestDepth (wsV RX4 105 RX4 yX4_depthOf wsX4_depthOf) := goodIn_app (goodIn_of _ (by decide +kernel)) ggX4_greatestDepth_X4_depthOf
theorem dX4_greatestDepth_0 : decode cX4_greatestDepth 0 = .ok (.aload_n 0, 1) := by decide +kernel
theorem dX4_greatestDepth_1 : decode cX4_greatestDepth 1 = .ok (.aload_n 0, 1) := by decide +kernel
theorem dX4_greatestDepth_2 : decode cX4_greatestDepth 2 = .ok (.getfield 32, 3) := by decide +kernel
theorem dX4_greatestDepth_5 : decode cX4_greatestDepth 5 = .ok (.iconst 1, 1) := by decide +kernel
theorem dX4_greatestDepth_6 : decode cX4_greatestDepth 6 = .ok (.isub, 1) := by decide +kernel
theorem dX4_greatestDepth_7 : decode cX4_greatestDepth 7 = .ok (.invokevirtual 105, 3) := by decide +kernel
theorem dX4_greatestDepth_10 : decode cX4_greatestDepth 10 = .ok (.ireturn, 1) := by decide +kernel
set_option maxRecDepth 20000 in
theorem ggX4_hopTowards_X4_depthOf : GoodIn wsX4_hopTowards wsX4_depthOf := goodIn_r _ [11, 12, 1, 16, 17, 18, 19, 20, 21, 22, 23] (by decide +kernel) (by decide +kernel)
set_option maxRecDepth 20000 in
theorem gX4_hopTowards_X4_depthOf : GoodIn wsX4_hopTowards (wsV RX4 105 RX4 yX4_depthOf wsX4_depthOf) := goodIn_app (goodIn_of _ (by decide +kernel)) ggX4_hopTowards_X4_depthOf
set_option maxRecDepth 20000 in
theorem ggX4_hopTowards_X7_placeOf : GoodIn wsX4_hopTowards wsX7_placeOf := goodIn_r _ [15] (by decide +kernel) (by decide +kernel)
set_option maxRecDepth 20000 in
theorem gX4_hopTowards_X7_placeOf_n93 : GoodIn wsX4_hopTowards (wsX7_placeOf) := ggX4_hopTowards_X7_placeOf
theorem dX4_hopTowards_0 : decode cX4_hopTowards 0 = .ok (.iload_n 2, 1) := by decide +kernel
theorem dX4_hopTowards_1 : decode cX4_hopTowards 1 = .ok (.ifCond .lt 12, 3) := by decide +kernel
theorem dX4_hopTowards_4 : decode cX4_hopTowards 4 = .ok (.iload_n 2, 1) := by decide +kernel
theorem dX4_hopTowards_5 : decode cX4_hopTowards 5 = .ok (.aload_n 0, 1) := by decide +kernel
theorem dX4_hopTowards_6 : decode cX4_hopTowards 6 = .ok (.iload_n 1, 1) := by decide +kernel
theorem dX4_hopTowards_7 : decode cX4_hopTowards 7 = .ok (.invokevirtual 105, 3) := by decide +kernel
theorem dX4_hopTowards_10 : decode cX4_hopTowards 10 = .ok (.if_icmp .lt 5, 3) := by decide +kernel
theorem dX4_hopTowards_13 : decode cX4_hopTowards 13 = .ok (.iconst (-1), 1) := by decide +kernel
theorem dX4_hopTowards_14 : decode cX4_hopTowards 14 = .ok (.ireturn, 1) := by decide +kernel
theorem dX4_hopTowards_15 : decode cX4_hopTowards 15 = .ok (.iload_n 1, 1) := by decide +kernel
theorem dX4_hopTowards_16 : decode cX4_hopTowards 16 = .ok (.istore 4, 2) := by decide +kernel
theorem dX4_hopTowards_18 : decode cX4_hopTowards 18 = .ok (.aload_n 0, 1) := by decide +kernel
theorem dX4_hopTowards_19 : decode cX4_hopTowards 19 = .ok (.getfield 21, 3) := by decide +kernel
theorem dX4_hopTowards_22 : decode cX4_hopTowards 22 = .ok (.iload_n 1, 1) := by decide +kernel
theorem dX4_hopTowards_23 : decode cX4_hopTowards 23 = .ok (.iaload, 1) := by decide +kernel
theorem dX4_hopTowards_24 : decode cX4_hopTowards 24 = .ok (.iconst 1, 1) := by decide +kernel
theorem dX4_hopTowards_25 : decode cX4_hopTowards 25 = .ok (.isub, 1) := by decide +kernel
theorem dX4_hopTowards_26 : decode cX4_hopTowards 26 = .ok (.istore 5, 2) := by decide +kernel
theorem dX4_hopTowards_28 : decode cX4_hopTowards 28 = .ok (.iload 5, 2) := by decide +kernel
theorem dX4_hopTowards_30 : decode cX4_hopTowards 30 = .ok (.iload_n 2, 1) := by decide +kernel
theorem dX4_hopTowards_31 : decode cX4_hopTowards 31 = .ok (.if_icmp .le 23, 3) := by decide +kernel
theorem dX4_hopTowards_34 : decode cX4_hopTowards 34 = .ok (.iload 4, 2) := by decide +kernel
theorem dX4_hopTowards_36 : decode cX4_hopTowards 36 = .ok (.ifCond .lt 18, 3) := by decide +kernel
theorem dX4_hopTowards_39 : decode cX4_hopTowards 39 = .ok (.aload_n 0, 1) := by decide +kernel
theorem dX4_hopTowards_40 : decode cX4_hopTowards 40 = .ok (.getfield 18, 3) := by decide +kernel
theorem dX4_hopTowards_43 : decode cX4_hopTowards 43 = .ok (.iload 4, 2) := by decide +kernel
theorem dX4_hopTowards_45 : decode cX4_hopTowards 45 = .ok (.iaload, 1) := by decide +kernel
theorem dX4_hopTowards_46 : decode cX4_hopTowards 46 = .ok (.istore 4, 2) := by decide +kernel
theorem dX4_hopTowards_48 : decode cX4_hopTowards 48 = .ok (.iinc 5 (-1), 3) := by decide +kernel
theorem dX4_hopTowards_51 : decode cX4_hopTowards 51 = .ok (.goto (-23), 3) := by decide +kernel
theorem dX4_hopTowards_54 : decode cX4_hopTowards 54 = .ok (.iload 4, 2) := by decide +kernel
theorem dX4_hopTowards_56 : decode cX4_hopTowards 56 = .ok (.ifCond .lt 13, 3) := by decide +kernel
theorem dX4_hopTowards_59 : decode cX4_hopTowards 59 = .ok (.aload_n 0, 1) := by decide +kernel
theorem dX4_hopTowards_60 : decode cX4_hopTowards 60 = .ok (.getfield 18, 3) := by decide +kernel
theorem dX4_hopTowards_63 : decode cX4_hopTowards 63 = .ok (.iload 4, 2) := by decide +kernel
theorem dX4_hopTowards_65 : decode cX4_hopTowards 65 = .ok (.iaload, 1) := by decide +kernel
theorem dX4_hopTowards_66 : decode cX4_hopTowards 66 = .ok (.ifCond .ge 5, 3) := by decide +kernel
theorem dX4_hopTowards_69 : decode cX4_hopTowards 69 = .ok (.iconst (-1), 1) := by decide +kernel
theorem dX4_hopTowards_70 : decode cX4_hopTowards 70 = .ok (.ireturn, 1) := by decide +kernel
theorem dX4_hopTowards_71 : decode cX4_hopTowards 71 = .ok (.aload_n 0, 1) := by decide +kernel
theorem dX4_hopTowards_72 : decode cX4_hopTowards 72 = .ok (.getfield 15, 3) := by decide +kernel
theorem dX4_hopTowards_75 : decode cX4_hopTowards 75 = .ok (.iload 4, 2) := by decide +kernel
theorem dX4_hopTowards_77 : decode cX4_hopTowards 77 = .ok (.iaload, 1) := by decide +kernel
theorem dX4_hopTowards_78 : decode cX4_hopTowards 78 = .ok (.aload_n 0, 1) := by decide +kernel
theorem dX4_hopTowards_79 : decode cX4_hopTowards 79 = .ok (.getfield 15, 3) := by decide +kernel
theorem dX4_hopTowards_82 : decode cX4_hopTowards 82 = .ok (.aload_n 0, 1) := by decide +kernel
theorem dX4_hopTowards_83 : decode cX4_hopTowards 83 = .ok (.getfield 18, 3) := by decide +kernel
theorem dX4_hopTowards_86 : decode cX4_hopTowards 86 = .ok (.iload 4, 2) := by decide +kernel
theorem dX4_hopTowards_88 : decode cX4_hopTowards 88 = .ok (.iaload, 1) := by decide +kernel
theorem dX4_hopTowards_89 : decode cX4_hopTowards 89 = .ok (.iaload, 1) := by decide +kernel
theorem dX4_hopTowards_90 : decode cX4_hopTowards 90 = .ok (.ixor, 1) := by decide +kernel
theorem dX4_hopTowards_91 : decode cX4_hopTowards 91 = .ok (.ldc 62, 2) := by decide +kernel
theorem dX4_hopTowards_93 : decode cX4_hopTowards 93 = .ok (.iand, 1) := by decide +kernel
theorem dX4_hopTowards_94 : decode cX4_hopTowards 94 = .ok (.istore 5, 2) := by decide +kernel
theorem dX4_hopTowards_96 : decode cX4_hopTowards 96 = .ok (.iconst 0, 1) := by decide +kernel
theorem dX4_hopTowards_97 : decode cX4_hopTowards 97 = .ok (.istore 6, 2) := by decide +kernel
theorem dX4_hopTowards_99 : decode cX4_hopTowards 99 = .ok (.iload 6, 2) := by decide +kernel
theorem dX4_hopTowards_101 : decode cX4_hopTowards 101 = .ok (.aload_n 0, 1) := by decide +kernel
theorem dX4_hopTowards_102 : decode cX4_hopTowards 102 = .ok (.getfield 24, 3) := by decide +kernel
theorem dX4_hopTowards_105 : decode cX4_hopTowards 105 = .ok (.getfield 57, 3) := by decide +kernel
theorem dX4_hopTowards_108 : decode cX4_hopTowards 108 = .ok (.if_icmp .ge 41, 3) := by decide +kernel
theorem dX4_hopTowards_111 : decode cX4_hopTowards 111 = .ok (.iload 6, 2) := by decide +kernel
theorem dX4_hopTowards_113 : decode cX4_hopTowards 113 = .ok (.iload 5, 2) := by decide +kernel
theorem dX4_hopTowards_115 : decode cX4_hopTowards 115 = .ok (.invokestatic 93, 3) := by decide +kernel
theorem dX4_hopTowards_118 : decode cX4_hopTowards 118 = .ok (.ifCond .eq 25, 3) := by decide +kernel
theorem dX4_hopTowards_121 : decode cX4_hopTowards 121 = .ok (.iload_n 3, 1) := by decide +kernel
theorem dX4_hopTowards_122 : decode cX4_hopTowards 122 = .ok (.ifCond .ne 8, 3) := by decide +kernel
theorem dX4_hopTowards_125 : decode cX4_hopTowards 125 = .ok (.iload 6, 2) := by decide +kernel
theorem dX4_hopTowards_127 : decode cX4_hopTowards 127 = .ok (.goto 15, 3) := by decide +kernel
theorem dX4_hopTowards_130 : decode cX4_hopTowards 130 = .ok (.iload 6, 2) := by decide +kernel
theorem dX4_hopTowards_132 : decode cX4_hopTowards 132 = .ok (.aload_n 0, 1) := by decide +kernel
theorem dX4_hopTowards_133 : decode cX4_hopTowards 133 = .ok (.getfield 15, 3) := by decide +kernel
theorem dX4_hopTowards_136 : decode cX4_hopTowards 136 = .ok (.iload 4, 2) := by decide +kernel
theorem dX4_hopTowards_138 : decode cX4_hopTowards 138 = .ok (.iaload, 1) := by decide +kernel
theorem dX4_hopTowards_139 : decode cX4_hopTowards 139 = .ok (.invokestatic 93, 3) := by decide +kernel
theorem dX4_hopTowards_142 : decode cX4_hopTowards 142 = .ok (.ireturn, 1) := by decide +kernel
theorem dX4_hopTowards_143 : decode cX4_hopTowards 143 = .ok (.iinc 6 1, 3) := by decide +kernel
theorem dX4_hopTowards_146 : decode cX4_hopTowards 146 = .ok (.goto (-47), 3) := by decide +kernel
theorem dX4_hopTowards_149 : decode cX4_hopTowards 149 = .ok (.iconst (-1), 1) := by decide +kernel
theorem dX4_hopTowards_150 : decode cX4_hopTowards 150 = .ok (.ireturn, 1) := by decide +kernel
theorem dX5_init_0 : decode cX5_init 0 = .ok (.aload_n 0, 1) := by decide +kernel
theorem dX5_init_1 : decode cX5_init 1 = .ok (.invokespecial 3, 3) := by decide +kernel
theorem dX5_init_4 : decode cX5_init 4 = .ok (.aload_n 0, 1) := by decide +kernel
theorem dX5_init_5 : decode cX5_init 5 = .ok (.iconst 4, 1) := by decide +kernel
theorem dX5_init_6 : decode cX5_init 6 = .ok (.newarray .int, 2) := by decide +kernel
theorem dX5_init_8 : decode cX5_init 8 = .ok (.putfield 9, 3) := by decide +kernel
theorem dX5_init_11 : decode cX5_init 11 = .ok (.aload_n 0, 1) := by decide +kernel
theorem dX5_init_12 : decode cX5_init 12 = .ok (.iconst 4, 1) := by decide +kernel
theorem dX5_init_13 : decode cX5_init 13 = .ok (.newarray .int, 2) := by decide +kernel
theorem dX5_init_15 : decode cX5_init 15 = .ok (.putfield 15, 3) := by decide +kernel
theorem dX5_init_18 : decode cX5_init 18 = .ok (.aload_n 0, 1) := by decide +kernel
theorem dX5_init_19 : decode cX5_init 19 = .ok (.iconst 3, 1) := by decide +kernel
theorem dX5_init_20 : decode cX5_init 20 = .ok (.putfield 18, 3) := by decide +kernel
theorem dX5_init_23 : decode cX5_init 23 = .ok (.aload_n 0, 1) := by decide +kernel
theorem dX5_init_24 : decode cX5_init 24 = .ok (.iconst 3, 1) := by decide +kernel
theorem dX5_init_25 : decode cX5_init 25 = .ok (.putfield 22, 3) := by decide +kernel
theorem dX5_init_28 : decode cX5_init 28 = .ok (.return_, 1) := by decide +kernel
set_option maxRecDepth 20000 in
theorem ggX5_lay_X5_takeMenAway : GoodIn wsX5_lay wsX5_takeMenAway := goodIn_r _ [9, 10, 11, 12, 13, 14, 15, 16, 17, 18, 19, 20, 21] (by decide +kernel) (by decide +kernel)
set_option maxRecDepth 20000 in
theorem gX5_lay_X5_takeMenAway : GoodIn wsX5_lay (wsV RX5 31 RX5 yX5_takeMenAway wsX5_takeMenAway) := goodIn_app (goodIn_of _ (by decide +kernel)) ggX5_lay_X5_takeMenAway
theorem dX5_lay_0 : decode cX5_lay 0 = .ok (.aload_n 0, 1) := by decide +kernel
theorem dX5_lay_1 : decode cX5_lay 1 = .ok (.iload_n 1, 1) := by decide +kernel
theorem dX5_lay_2 : decode cX5_lay 2 = .ok (.putfield 18, 3) := by decide +kernel
theorem dX5_lay_5 : decode cX5_lay 5 = .ok (.aload_n 0, 1) := by decide +kernel
theorem dX5_lay_6 : decode cX5_lay 6 = .ok (.iload_n 2, 1) := by decide +kernel
theorem dX5_lay_7 : decode cX5_lay 7 = .ok (.putfield 22, 3) := by decide +kernel
theorem dX5_lay_10 : decode cX5_lay 10 = .ok (.aload_n 0, 1) := by decide +kernel
theorem dX5_lay_11 : decode cX5_lay 11 = .ok (.iconst 0, 1) := by decide +kernel
theorem dX5_lay_12 : decode cX5_lay 12 = .ok (.putfield 25, 3) := by decide +kernel
theorem dX5_lay_15 : decode cX5_lay 15 = .ok (.aload_n 0, 1) := by decide +kernel
theorem dX5_lay_16 : decode cX5_lay 16 = .ok (.iconst 0, 1) := by decide +kernel
theorem dX5_lay_17 : decode cX5_lay 17 = .ok (.putfield 28, 3) := by decide +kernel
theorem dX5_lay_20 : decode cX5_lay 20 = .ok (.aload_n 0, 1) := by decide +kernel
theorem dX5_lay_21 : decode cX5_lay 21 = .ok (.invokevirtual 31, 3) := by decide +kernel
theorem dX5_lay_24 : decode cX5_lay 24 = .ok (.return_, 1) := by decide +kernel
theorem dX5_takeMenAway_0 : decode cX5_takeMenAway 0 = .ok (.aload_n 0, 1) := by decide +kernel
theorem dX5_takeMenAway_1 : decode cX5_takeMenAway 1 = .ok (.iconst 0, 1) := by decide +kernel
theorem dX5_takeMenAway_2 : decode cX5_takeMenAway 2 = .ok (.putfield 34, 3) := by decide +kernel
theorem dX5_takeMenAway_5 : decode cX5_takeMenAway 5 = .ok (.aload_n 0, 1) := by decide +kernel
theorem dX5_takeMenAway_6 : decode cX5_takeMenAway 6 = .ok (.iconst 0, 1) := by decide +kernel
theorem dX5_takeMenAway_7 : decode cX5_takeMenAway 7 = .ok (.putfield 37, 3) := by decide +kernel
theorem dX5_takeMenAway_10 : decode cX5_takeMenAway 10 = .ok (.aload_n 0, 1) := by decide +kernel
theorem dX5_takeMenAway_11 : decode cX5_takeMenAway 11 = .ok (.iconst 0, 1) := by decide +kernel
theorem dX5_takeMenAway_12 : decode cX5_takeMenAway 12 = .ok (.putfield 40, 3) := by decide +kernel
theorem dX5_takeMenAway_15 : decode cX5_takeMenAway 15 = .ok (.return_, 1) := by decide +kernel
set_option maxRecDepth 20000 in
theorem ggX5_addMan_X7_moved : GoodIn wsX5_addMan wsX7_moved := goodIn_r _ [8] (by decide +kernel) (by decide +kernel)
set_option maxRecDepth 20000 in
theorem gX5_addMan_X7_moved_n43 : GoodIn wsX5_addMan (wsX7_moved) := ggX5_addMan_X7_moved
theorem dX5_addMan_0 : decode cX5_addMan 0 = .ok (.aload_n 0, 1) := by decide +kernel
theorem dX5_addMan_1 : decode cX5_addMan 1 = .ok (.getfield 34, 3) := by decide +kernel
theorem dX5_addMan_4 : decode cX5_addMan 4 = .ok (.iconst 4, 1) := by decide +kernel
theorem dX5_addMan_5 : decode cX5_addMan 5 = .ok (.if_icmp .lt 4, 3) := by decide +kernel
theorem dX5_addMan_8 : decode cX5_addMan 8 = .ok (.return_, 1) := by decide +kernel
theorem dX5_addMan_9 : decode cX5_addMan 9 = .ok (.aload_n 0, 1) := by decide +kernel
theorem dX5_addMan_10 : decode cX5_addMan 10 = .ok (.getfield 9, 3) := by decide +kernel
theorem dX5_addMan_13 : decode cX5_addMan 13 = .ok (.aload_n 0, 1) := by decide +kernel
theorem dX5_addMan_14 : decode cX5_addMan 14 = .ok (.getfield 34, 3) := by decide +kernel
theorem dX5_addMan_17 : decode cX5_addMan 17 = .ok (.iload_n 1, 1) := by decide +kernel
theorem dX5_addMan_18 : decode cX5_addMan 18 = .ok (.iastore, 1) := by decide +kernel
theorem dX5_addMan_19 : decode cX5_addMan 19 = .ok (.aload_n 0, 1) := by decide +kernel
theorem dX5_addMan_20 : decode cX5_addMan 20 = .ok (.getfield 15, 3) := by decide +kernel
theorem dX5_addMan_23 : decode cX5_addMan 23 = .ok (.aload_n 0, 1) := by decide +kernel
theorem dX5_addMan_24 : decode cX5_addMan 24 = .ok (.getfield 34, 3) := by decide +kernel
theorem dX5_addMan_27 : decode cX5_addMan 27 = .ok (.iload_n 2, 1) := by decide +kernel
theorem dX5_addMan_28 : decode cX5_addMan 28 = .ok (.iastore, 1) := by decide +kernel
theorem dX5_addMan_29 : decode cX5_addMan 29 = .ok (.aload_n 0, 1) := by decide +kernel
theorem dX5_addMan_30 : decode cX5_addMan 30 = .ok (.aload_n 0, 1) := by decide +kernel
theorem dX5_addMan_31 : decode cX5_addMan 31 = .ok (.getfield 37, 3) := by decide +kernel
theorem dX5_addMan_34 : decode cX5_addMan 34 = .ok (.aload_n 0, 1) := by decide +kernel
theorem dX5_addMan_35 : decode cX5_addMan 35 = .ok (.getfield 34, 3) := by decide +kernel
theorem dX5_addMan_38 : decode cX5_addMan 38 = .ok (.iload_n 3, 1) := by decide +kernel
theorem dX5_addMan_39 : decode cX5_addMan 39 = .ok (.invokestatic 43, 3) := by decide +kernel
theorem dX5_addMan_42 : decode cX5_addMan 42 = .ok (.putfield 37, 3) := by decide +kernel
theorem dX5_addMan_45 : decode cX5_addMan 45 = .ok (.aload_n 0, 1) := by decide +kernel
theorem dX5_addMan_46 : decode cX5_addMan 46 = .ok (.aload_n 0, 1) := by decide +kernel
theorem dX5_addMan_47 : decode cX5_addMan 47 = .ok (.getfield 40, 3) := by decide +kernel
theorem dX5_addMan_50 : decode cX5_addMan 50 = .ok (.aload_n 0, 1) := by decide +kernel
theorem dX5_addMan_51 : decode cX5_addMan 51 = .ok (.getfield 34, 3) := by decide +kernel
theorem dX5_addMan_54 : decode cX5_addMan 54 = .ok (.iload 4, 2) := by decide +kernel
theorem dX5_addMan_56 : decode cX5_addMan 56 = .ok (.invokestatic 43, 3) := by decide +kernel
theorem dX5_addMan_59 : decode cX5_addMan 59 = .ok (.putfield 40, 3) := by decide +kernel
theorem dX5_addMan_62 : decode cX5_addMan 62 = .ok (.aload_n 0, 1) := by decide +kernel
theorem dX5_addMan_63 : decode cX5_addMan 63 = .ok (.dup, 1) := by decide +kernel
theorem dX5_addMan_64 : decode cX5_addMan 64 = .ok (.getfield 34, 3) := by decide +kernel
theorem dX5_addMan_67 : decode cX5_addMan 67 = .ok (.iconst 1, 1) := by decide +kernel
theorem dX5_addMan_68 : decode cX5_addMan 68 = .ok (.iadd, 1) := by decide +kernel
theorem dX5_addMan_69 : decode cX5_addMan 69 = .ok (.putfield 34, 3) := by decide +kernel
theorem dX5_addMan_72 : decode cX5_addMan 72 = .ok (.return_, 1) := by decide +kernel
theorem dX5_copy_0 : decode cX5_copy 0 = .ok (.aload_n 0, 1) := by decide +kernel
theorem dX5_copy_1 : decode cX5_copy 1 = .ok (.aload_n 1, 1) := by decide +kernel
theorem dX5_copy_2 : decode cX5_copy 2 = .ok (.getfield 18, 3) := by decide +kernel
theorem dX5_copy_5 : decode cX5_copy 5 = .ok (.putfield 18, 3) := by decide +kernel
theorem dX5_copy_8 : decode cX5_copy 8 = .ok (.aload_n 0, 1) := by decide +kernel
theorem dX5_copy_9 : decode cX5_copy 9 = .ok (.aload_n 1, 1) := by decide +kernel
theorem dX5_copy_10 : decode cX5_copy 10 = .ok (.getfield 22, 3) := by decide +kernel
theorem dX5_copy_13 : decode cX5_copy 13 = .ok (.putfield 22, 3) := by decide +kernel
theorem dX5_copy_16 : decode cX5_copy 16 = .ok (.aload_n 0, 1) := by decide +kernel
theorem dX5_copy_17 : decode cX5_copy 17 = .ok (.aload_n 1, 1) := by decide +kernel
theorem dX5_copy_18 : decode cX5_copy 18 = .ok (.getfield 25, 3) := by decide +kernel
theorem dX5_copy_21 : decode cX5_copy 21 = .ok (.putfield 25, 3) := by decide +kernel
theorem dX5_copy_24 : decode cX5_copy 24 = .ok (.aload_n 0, 1) := by decide +kernel
theorem dX5_copy_25 : decode cX5_copy 25 = .ok (.aload_n 1, 1) := by decide +kernel
theorem dX5_copy_26 : decode cX5_copy 26 = .ok (.getfield 28, 3) := by decide +kernel
theorem dX5_copy_29 : decode cX5_copy 29 = .ok (.putfield 28, 3) := by decide +kernel
theorem dX5_copy_32 : decode cX5_copy 32 = .ok (.aload_n 0, 1) := by decide +kernel
theorem dX5_copy_33 : decode cX5_copy 33 = .ok (.aload_n 1, 1) := by decide +kernel
theorem dX5_copy_34 : decode cX5_copy 34 = .ok (.getfield 34, 3) := by decide +kernel
theorem dX5_copy_37 : decode cX5_copy 37 = .ok (.putfield 34, 3) := by decide +kernel
theorem dX5_copy_40 : decode cX5_copy 40 = .ok (.aload_n 0, 1) := by decide +kernel
theorem dX5_copy_41 : decode cX5_copy 41 = .ok (.aload_n 1, 1) := by decide +kernel
theorem dX5_copy_42 : decode cX5_copy 42 = .ok (.getfield 37, 3) := by decide +kernel
theorem dX5_copy_45 : decode cX5_copy 45 = .ok (.putfield 37, 3) := by decide +kernel
theorem dX5_copy_48 : decode cX5_copy 48 = .ok (.aload_n 0, 1) := by decide +kernel
theorem dX5_copy_49 : decode cX5_copy 49 = .ok (.aload_n 1, 1) := by decide +kernel
theorem dX5_copy_50 : decode cX5_copy 50 = .ok (.getfield 40, 3) := by decide +kernel
theorem dX5_copy_53 : decode cX5_copy 53 = .ok (.putfield 40, 3) := by decide +kernel
theorem dX5_copy_56 : decode cX5_copy 56 = .ok (.aload_n 1, 1) := by decide +kernel
theorem dX5_copy_57 : decode cX5_copy 57 = .ok (.getfield 9, 3) := by decide +kernel
theorem dX5_copy_60 : decode cX5_copy 60 = .ok (.iconst 0, 1) := by decide +kernel
theorem dX5_copy_61 : decode cX5_copy 61 = .ok (.aload_n 0, 1) := by decide +kernel
theorem dX5_copy_62 : decode cX5_copy 62 = .ok (.getfield 9, 3) := by decide +kernel
theorem dX5_copy_65 : decode cX5_copy 65 = .ok (.iconst 0, 1) := by decide +kernel
theorem dX5_copy_66 : decode cX5_copy 66 = .ok (.iconst 4, 1) := by decide +kernel
theorem dX5_copy_67 : decode cX5_copy 67 = .ok (.invokestatic 47, 3) := by decide +kernel
theorem dX5_copy_70 : decode cX5_copy 70 = .ok (.aload_n 1, 1) := by decide +kernel
theorem dX5_copy_71 : decode cX5_copy 71 = .ok (.getfield 15, 3) := by decide +kernel
theorem dX5_copy_74 : decode cX5_copy 74 = .ok (.iconst 0, 1) := by decide +kernel
theorem dX5_copy_75 : decode cX5_copy 75 = .ok (.aload_n 0, 1) := by decide +kernel
theorem dX5_copy_76 : decode cX5_copy 76 = .ok (.getfield 15, 3) := by decide +kernel
theorem dX5_copy_79 : decode cX5_copy 79 = .ok (.iconst 0, 1) := by decide +kernel
theorem dX5_copy_80 : decode cX5_copy 80 = .ok (.iconst 4, 1) := by decide +kernel
theorem dX5_copy_81 : decode cX5_copy 81 = .ok (.invokestatic 47, 3) := by decide +kernel
theorem dX5_copy_84 : decode cX5_copy 84 = .ok (.return_, 1) := by decide +kernel
theorem dX5_squares_0 : decode cX5_squares 0 = .ok (.aload_n 0, 1) := by decide +kernel
theorem dX5_squares_1 : decode cX5_squares 1 = .ok (.getfield 18, 3) := by decide +kernel
theorem dX5_squares_4 : decode cX5_squares 4 = .ok (.aload_n 0, 1) := by decide +kernel
theorem dX5_squares_5 : decode cX5_squares 5 = .ok (.getfield 22, 3) := by decide +kernel
theorem dX5_squares_8 : decode cX5_squares 8 = .ok (.imul, 1) := by decide +kernel
theorem dX5_squares_9 : decode cX5_squares 9 = .ok (.ireturn, 1) := by decide +kernel
set_option maxRecDepth 20000 in
theorem ggX5_manOf_X7_placeOf : GoodIn wsX5_manOf wsX7_placeOf := goodIn_r _ [4] (by decide +kernel) (by decide +kernel)
set_option maxRecDepth 20000 in
theorem gX5_manOf_X7_placeOf_n53 : GoodIn wsX5_manOf (wsX7_placeOf) := ggX5_manOf_X7_placeOf
theorem dX5_manOf_0 : decode cX5_manOf 0 = .ok (.iconst 0, 1) := by decide +kernel
theorem dX5_manOf_1 : decode cX5_manOf 1 = .ok (.istore_n 3, 1) := by decide +kernel
theorem dX5_manOf_2 : decode cX5_manOf 2 = .ok (.iload_n 3, 1) := by decide +kernel
theorem dX5_manOf_3 : decode cX5_manOf 3 = .ok (.aload_n 0, 1) := by decide +kernel
theorem dX5_manOf_4 : decode cX5_manOf 4 = .ok (.getfield 34, 3) := by decide +kernel
theorem dX5_manOf_7 : decode cX5_manOf 7 = .ok (.if_icmp .ge 20, 3) := by decide +kernel
theorem dX5_manOf_10 : decode cX5_manOf 10 = .ok (.iload_n 3, 1) := by decide +kernel
theorem dX5_manOf_11 : decode cX5_manOf 11 = .ok (.iload_n 1, 1) := by decide +kernel
theorem dX5_manOf_12 : decode cX5_manOf 12 = .ok (.invokestatic 53, 3) := by decide +kernel
theorem dX5_manOf_15 : decode cX5_manOf 15 = .ok (.iload_n 2, 1) := by decide +kernel
theorem dX5_manOf_16 : decode cX5_manOf 16 = .ok (.if_icmp .ne 5, 3) := by decide +kernel
theorem dX5_manOf_19 : decode cX5_manOf 19 = .ok (.iload_n 3, 1) := by decide +kernel
theorem dX5_manOf_20 : decode cX5_manOf 20 = .ok (.ireturn, 1) := by decide +kernel
theorem dX5_manOf_21 : decode cX5_manOf 21 = .ok (.iinc 3 1, 3) := by decide +kernel
theorem dX5_manOf_24 : decode cX5_manOf 24 = .ok (.goto (-22), 3) := by decide +kernel
theorem dX5_manOf_27 : decode cX5_manOf 27 = .ok (.iconst (-1), 1) := by decide +kernel
theorem dX5_manOf_28 : decode cX5_manOf 28 = .ok (.ireturn, 1) := by decide +kernel
set_option maxRecDepth 20000 in
theorem ggX5_taken_X7_placeOf : GoodIn wsX5_taken wsX7_placeOf := goodIn_r _ [4] (by decide +kernel) (by decide +kernel)
set_option maxRecDepth 20000 in
theorem gX5_taken_X7_placeOf_n53 : GoodIn wsX5_taken (wsX7_placeOf) := ggX5_taken_X7_placeOf
theorem dX5_taken_0 : decode cX5_taken 0 = .ok (.iconst 0, 1) := by decide +kernel
theorem dX5_taken_1 : decode cX5_taken 1 = .ok (.istore_n 2, 1) := by decide +kernel
theorem dX5_taken_2 : decode cX5_taken 2 = .ok (.iconst 0, 1) := by decide +kernel
theorem dX5_taken_3 : decode cX5_taken 3 = .ok (.istore_n 3, 1) := by decide +kernel
theorem dX5_taken_4 : decode cX5_taken 4 = .ok (.iload_n 3, 1) := by decide +kernel
theorem dX5_taken_5 : decode cX5_taken 5 = .ok (.aload_n 0, 1) := by decide +kernel
theorem dX5_taken_6 : decode cX5_taken 6 = .ok (.getfield 34, 3) := by decide +kernel
theorem dX5_taken_9 : decode cX5_taken 9 = .ok (.if_icmp .ge 19, 3) := by decide +kernel
theorem dX5_taken_12 : decode cX5_taken 12 = .ok (.iload_n 2, 1) := by decide +kernel
theorem dX5_taken_13 : decode cX5_taken 13 = .ok (.iconst 1, 1) := by decide +kernel
theorem dX5_taken_14 : decode cX5_taken 14 = .ok (.iload_n 3, 1) := by decide +kernel
theorem dX5_taken_15 : decode cX5_taken 15 = .ok (.iload_n 1, 1) := by decide +kernel
theorem dX5_taken_16 : decode cX5_taken 16 = .ok (.invokestatic 53, 3) := by decide +kernel
theorem dX5_taken_19 : decode cX5_taken 19 = .ok (.ishl, 1) := by decide +kernel
theorem dX5_taken_20 : decode cX5_taken 20 = .ok (.ior, 1) := by decide +kernel
theorem dX5_taken_21 : decode cX5_taken 21 = .ok (.istore_n 2, 1) := by decide +kernel
theorem dX5_taken_22 : decode cX5_taken 22 = .ok (.iinc 3 1, 3) := by decide +kernel
theorem dX5_taken_25 : decode cX5_taken 25 = .ok (.goto (-21), 3) := by decide +kernel
theorem dX5_taken_28 : decode cX5_taken 28 = .ok (.iload_n 2, 1) := by decide +kernel
theorem dX5_taken_29 : decode cX5_taken 29 = .ok (.ireturn, 1) := by decide +kernel
theorem dX6_init_0 : decode cX6_init 0 = .ok (.aload_n 0, 1) := by decide +kernel
theorem dX6_init_1 : decode cX6_init 1 = .ok (.invokespecial 3, 3) := by decide +kernel
theorem dX6_init_4 : decode cX6_init 4 = .ok (.aload_n 0, 1) := by decide +kernel
theorem dX6_init_5 : decode cX6_init 5 = .ok (.sipush 200, 3) := by decide +kernel
theorem dX6_init_8 : decode cX6_init 8 = .ok (.newarray .int, 2) := by decide +kernel
theorem dX6_init_10 : decode cX6_init 10 = .ok (.putfield 9, 3) := by decide +kernel
theorem dX6_init_13 : decode cX6_init 13 = .ok (.return_, 1) := by decide +kernel
theorem dX6_append_0 : decode cX6_append 0 = .ok (.aload_n 0, 1) := by decide +kernel
theorem dX6_append_1 : decode cX6_append 1 = .ok (.getfield 15, 3) := by decide +kernel
theorem dX6_append_4 : decode cX6_append 4 = .ok (.sipush 200, 3) := by decide +kernel
theorem dX6_append_7 : decode cX6_append 7 = .ok (.if_icmp .lt 4, 3) := by decide +kernel
theorem dX6_append_10 : decode cX6_append 10 = .ok (.return_, 1) := by decide +kernel
theorem dX6_append_11 : decode cX6_append 11 = .ok (.aload_n 0, 1) := by decide +kernel
theorem dX6_append_12 : decode cX6_append 12 = .ok (.getfield 9, 3) := by decide +kernel
theorem dX6_append_15 : decode cX6_append 15 = .ok (.aload_n 0, 1) := by decide +kernel
theorem dX6_append_16 : decode cX6_append 16 = .ok (.getfield 15, 3) := by decide +kernel
theorem dX6_append_19 : decode cX6_append 19 = .ok (.iload_n 1, 1) := by decide +kernel
theorem dX6_append_20 : decode cX6_append 20 = .ok (.iastore, 1) := by decide +kernel
theorem dX6_append_21 : decode cX6_append 21 = .ok (.aload_n 0, 1) := by decide +kernel
theorem dX6_append_22 : decode cX6_append 22 = .ok (.dup, 1) := by decide +kernel
theorem dX6_append_23 : decode cX6_append 23 = .ok (.getfield 15, 3) := by decide +kernel
theorem dX6_append_26 : decode cX6_append 26 = .ok (.iconst 1, 1) := by decide +kernel
theorem dX6_append_27 : decode cX6_append 27 = .ok (.iadd, 1) := by decide +kernel
theorem dX6_append_28 : decode cX6_append 28 = .ok (.putfield 15, 3) := by decide +kernel
theorem dX6_append_31 : decode cX6_append 31 = .ok (.return_, 1) := by decide +kernel
theorem dX6_rewind_0 : decode cX6_rewind 0 = .ok (.aload_n 0, 1) := by decide +kernel
theorem dX6_rewind_1 : decode cX6_rewind 1 = .ok (.iconst 0, 1) := by decide +kernel
theorem dX6_rewind_2 : decode cX6_rewind 2 = .ok (.putfield 19, 3) := by decide +kernel
theorem dX6_rewind_5 : decode cX6_rewind 5 = .ok (.aload_n 0, 1) := by decide +kernel
theorem dX6_rewind_6 : decode cX6_rewind 6 = .ok (.iconst 0, 1) := by decide +kernel
theorem dX6_rewind_7 : decode cX6_rewind 7 = .ok (.putfield 22, 3) := by decide +kernel
theorem dX6_rewind_10 : decode cX6_rewind 10 = .ok (.return_, 1) := by decide +kernel
set_option maxRecDepth 20000 in
theorem ggX6_next_X6_joins : GoodIn wsX6_next wsX6_joins := goodIn_r _ [8, 9, 10, 7, 11, 12, 13, 14] (by decide +kernel) (by decide +kernel)
set_option maxRecDepth 20000 in
theorem gX6_next_X6_joins : GoodIn wsX6_next (va_wsS RX6 25 yX6_joins wsX6_joins) := goodIn_app (goodIn_of _ (by decide +kernel)) ggX6_next_X6_joins
theorem dX6_next_0 : decode cX6_next 0 = .ok (.aload_n 0, 1) := by decide +kernel
theorem dX6_next_1 : decode cX6_next 1 = .ok (.aload_n 0, 1) := by decide +kernel
theorem dX6_next_2 : decode cX6_next 2 = .ok (.getfield 22, 3) := by decide +kernel
theorem dX6_next_5 : decode cX6_next 5 = .ok (.putfield 19, 3) := by decide +kernel
theorem dX6_next_8 : decode cX6_next 8 = .ok (.aload_n 0, 1) := by decide +kernel
theorem dX6_next_9 : decode cX6_next 9 = .ok (.getfield 19, 3) := by decide +kernel
theorem dX6_next_12 : decode cX6_next 12 = .ok (.aload_n 0, 1) := by decide +kernel
theorem dX6_next_13 : decode cX6_next 13 = .ok (.getfield 15, 3) := by decide +kernel
theorem dX6_next_16 : decode cX6_next 16 = .ok (.if_icmp .ge 30, 3) := by decide +kernel
theorem dX6_next_19 : decode cX6_next 19 = .ok (.aload_n 0, 1) := by decide +kernel
theorem dX6_next_20 : decode cX6_next 20 = .ok (.getfield 9, 3) := by decide +kernel
theorem dX6_next_23 : decode cX6_next 23 = .ok (.aload_n 0, 1) := by decide +kernel
theorem dX6_next_24 : decode cX6_next 24 = .ok (.getfield 19, 3) := by decide +kernel
theorem dX6_next_27 : decode cX6_next 27 = .ok (.iaload, 1) := by decide +kernel
theorem dX6_next_28 : decode cX6_next 28 = .ok (.bipush 32, 2) := by decide +kernel
theorem dX6_next_30 : decode cX6_next 30 = .ok (.if_icmp .ne 16, 3) := by decide +kernel
theorem dX6_next_33 : decode cX6_next 33 = .ok (.aload_n 0, 1) := by decide +kernel
theorem dX6_next_34 : decode cX6_next 34 = .ok (.dup, 1) := by decide +kernel
theorem dX6_next_35 : decode cX6_next 35 = .ok (.getfield 19, 3) := by decide +kernel
theorem dX6_next_38 : decode cX6_next 38 = .ok (.iconst 1, 1) := by decide +kernel
theorem dX6_next_39 : decode cX6_next 39 = .ok (.iadd, 1) := by decide +kernel
theorem dX6_next_40 : decode cX6_next 40 = .ok (.putfield 19, 3) := by decide +kernel
theorem dX6_next_43 : decode cX6_next 43 = .ok (.goto (-35), 3) := by decide +kernel
theorem dX6_next_46 : decode cX6_next 46 = .ok (.aload_n 0, 1) := by decide +kernel
theorem dX6_next_47 : decode cX6_next 47 = .ok (.aload_n 0, 1) := by decide +kernel
theorem dX6_next_48 : decode cX6_next 48 = .ok (.getfield 19, 3) := by decide +kernel
theorem dX6_next_51 : decode cX6_next 51 = .ok (.putfield 22, 3) := by decide +kernel
theorem dX6_next_54 : decode cX6_next 54 = .ok (.aload_n 0, 1) := by decide +kernel
theorem dX6_next_55 : decode cX6_next 55 = .ok (.getfield 19, 3) := by decide +kernel
theorem dX6_next_58 : decode cX6_next 58 = .ok (.aload_n 0, 1) := by decide +kernel
theorem dX6_next_59 : decode cX6_next 59 = .ok (.getfield 15, 3) := by decide +kernel
theorem dX6_next_62 : decode cX6_next 62 = .ok (.if_icmp .lt 4, 3) := by decide +kernel
theorem dX6_next_65 : decode cX6_next 65 = .ok (.return_, 1) := by decide +kernel
theorem dX6_next_66 : decode cX6_next 66 = .ok (.aload_n 0, 1) := by decide +kernel
theorem dX6_next_67 : decode cX6_next 67 = .ok (.dup, 1) := by decide +kernel
theorem dX6_next_68 : decode cX6_next 68 = .ok (.getfield 22, 3) := by decide +kernel
theorem dX6_next_71 : decode cX6_next 71 = .ok (.iconst 1, 1) := by decide +kernel
theorem dX6_next_72 : decode cX6_next 72 = .ok (.iadd, 1) := by decide +kernel
theorem dX6_next_73 : decode cX6_next 73 = .ok (.putfield 22, 3) := by decide +kernel
theorem dX6_next_76 : decode cX6_next 76 = .ok (.aload_n 0, 1) := by decide +kernel
theorem dX6_next_77 : decode cX6_next 77 = .ok (.getfield 22, 3) := by decide +kernel
theorem dX6_next_80 : decode cX6_next 80 = .ok (.aload_n 0, 1) := by decide +kernel
theorem dX6_next_81 : decode cX6_next 81 = .ok (.getfield 15, 3) := by decide +kernel
theorem dX6_next_84 : decode cX6_next 84 = .ok (.if_icmp .ge 40, 3) := by decide +kernel
theorem dX6_next_87 : decode cX6_next 87 = .ok (.aload_n 0, 1) := by decide +kernel
theorem dX6_next_88 : decode cX6_next 88 = .ok (.getfield 9, 3) := by decide +kernel
theorem dX6_next_91 : decode cX6_next 91 = .ok (.aload_n 0, 1) := by decide +kernel
theorem dX6_next_92 : decode cX6_next 92 = .ok (.getfield 19, 3) := by decide +kernel
theorem dX6_next_95 : decode cX6_next 95 = .ok (.iaload, 1) := by decide +kernel
theorem dX6_next_96 : decode cX6_next 96 = .ok (.aload_n 0, 1) := by decide +kernel
theorem dX6_next_97 : decode cX6_next 97 = .ok (.getfield 9, 3) := by decide +kernel
theorem dX6_next_100 : decode cX6_next 100 = .ok (.aload_n 0, 1) := by decide +kernel
theorem dX6_next_101 : decode cX6_next 101 = .ok (.getfield 22, 3) := by decide +kernel
theorem dX6_next_104 : decode cX6_next 104 = .ok (.iaload, 1) := by decide +kernel
theorem dX6_next_105 : decode cX6_next 105 = .ok (.invokestatic 25, 3) := by decide +kernel
theorem dX6_next_108 : decode cX6_next 108 = .ok (.ifCond .eq 16, 3) := by decide +kernel
theorem dX6_next_111 : decode cX6_next 111 = .ok (.aload_n 0, 1) := by decide +kernel
theorem dX6_next_112 : decode cX6_next 112 = .ok (.dup, 1) := by decide +kernel
theorem dX6_next_113 : decode cX6_next 113 = .ok (.getfield 22, 3) := by decide +kernel
theorem dX6_next_116 : decode cX6_next 116 = .ok (.iconst 1, 1) := by decide +kernel
theorem dX6_next_117 : decode cX6_next 117 = .ok (.iadd, 1) := by decide +kernel
theorem dX6_next_118 : decode cX6_next 118 = .ok (.putfield 22, 3) := by decide +kernel
theorem dX6_next_121 : decode cX6_next 121 = .ok (.goto (-45), 3) := by decide +kernel
theorem dX6_next_124 : decode cX6_next 124 = .ok (.return_, 1) := by decide +kernel
set_option maxRecDepth 20000 in
theorem ggX6_joins_X6_isLetter : GoodIn wsX6_joins wsX6_isLetter := goodIn_r _ [4] (by decide +kernel) (by decide +kernel)
set_option maxRecDepth 20000 in
theorem gX6_joins_X6_isLetter : GoodIn wsX6_joins (va_wsS RX6 29 yX6_isLetter wsX6_isLetter) := goodIn_app (goodIn_of _ (by decide +kernel)) ggX6_joins_X6_isLetter
set_option maxRecDepth 20000 in
theorem ggX6_joins_X6_isDigit : GoodIn wsX6_joins wsX6_isDigit := goodIn_r _ [7] (by decide +kernel) (by decide +kernel)
set_option maxRecDepth 20000 in
theorem gX6_joins_X6_isDigit : GoodIn wsX6_joins (va_wsS RX6 33 yX6_isDigit wsX6_isDigit) := goodIn_app (goodIn_of _ (by decide +kernel)) ggX6_joins_X6_isDigit
theorem dX6_joins_0 : decode cX6_joins 0 = .ok (.iload_n 0, 1) := by decide +kernel
theorem dX6_joins_1 : decode cX6_joins 1 = .ok (.invokestatic 29, 3) := by decide +kernel
theorem dX6_joins_4 : decode cX6_joins 4 = .ok (.ifCond .eq 10, 3) := by decide +kernel
theorem dX6_joins_7 : decode cX6_joins 7 = .ok (.iload_n 1, 1) := by decide +kernel
theorem dX6_joins_8 : decode cX6_joins 8 = .ok (.invokestatic 29, 3) := by decide +kernel
theorem dX6_joins_11 : decode cX6_joins 11 = .ok (.ifCond .ne 17, 3) := by decide +kernel
theorem dX6_joins_14 : decode cX6_joins 14 = .ok (.iload_n 0, 1) := by decide +kernel
theorem dX6_joins_15 : decode cX6_joins 15 = .ok (.invokestatic 33, 3) := by decide +kernel
theorem dX6_joins_18 : decode cX6_joins 18 = .ok (.ifCond .eq 14, 3) := by decide +kernel
theorem dX6_joins_21 : decode cX6_joins 21 = .ok (.iload_n 1, 1) := by decide +kernel
theorem dX6_joins_22 : decode cX6_joins 22 = .ok (.invokestatic 33, 3) := by decide +kernel
theorem dX6_joins_25 : decode cX6_joins 25 = .ok (.ifCond .eq 7, 3) := by decide +kernel
theorem dX6_joins_28 : decode cX6_joins 28 = .ok (.iconst 1, 1) := by decide +kernel
theorem dX6_joins_29 : decode cX6_joins 29 = .ok (.goto 4, 3) := by decide +kernel
theorem dX6_joins_32 : decode cX6_joins 32 = .ok (.iconst 0, 1) := by decide +kernel
theorem dX6_joins_33 : decode cX6_joins 33 = .ok (.ireturn, 1) := by decide +kernel
theorem dX6_isLetter_0 : decode cX6_isLetter 0 = .ok (.iload_n 0, 1) := by decide +kernel
theorem dX6_isLetter_1 : decode cX6_isLetter 1 = .ok (.bipush 97, 2) := by decide +kernel
theorem dX6_isLetter_3 : decode cX6_isLetter 3 = .ok (.if_icmp .lt 13, 3) := by decide +kernel
theorem dX6_isLetter_6 : decode cX6_isLetter 6 = .ok (.iload_n 0, 1) := by decide +kernel
theorem dX6_isLetter_7 : decode cX6_isLetter 7 = .ok (.bipush 122, 2) := by decide +kernel
theorem dX6_isLetter_9 : decode cX6_isLetter 9 = .ok (.if_icmp .gt 7, 3) := by decide +kernel
theorem dX6_isLetter_12 : decode cX6_isLetter 12 = .ok (.iconst 1, 1) := by decide +kernel
theorem dX6_isLetter_13 : decode cX6_isLetter 13 = .ok (.goto 4, 3) := by decide +kernel
theorem dX6_isLetter_16 : decode cX6_isLetter 16 = .ok (.iconst 0, 1) := by decide +kernel
theorem dX6_isLetter_17 : decode cX6_isLetter 17 = .ok (.ireturn, 1) := by decide +kernel
theorem dX6_isDigit_0 : decode cX6_isDigit 0 = .ok (.iload_n 0, 1) := by decide +kernel
theorem dX6_isDigit_1 : decode cX6_isDigit 1 = .ok (.bipush 48, 2) := by decide +kernel
theorem dX6_isDigit_3 : decode cX6_isDigit 3 = .ok (.if_icmp .lt 13, 3) := by decide +kernel
theorem dX6_isDigit_6 : decode cX6_isDigit 6 = .ok (.iload_n 0, 1) := by decide +kernel
theorem dX6_isDigit_7 : decode cX6_isDigit 7 = .ok (.bipush 57, 2) := by decide +kernel
theorem dX6_isDigit_9 : decode cX6_isDigit 9 = .ok (.if_icmp .gt 7, 3) := by decide +kernel
theorem dX6_isDigit_12 : decode cX6_isDigit 12 = .ok (.iconst 1, 1) := by decide +kernel
theorem dX6_isDigit_13 : decode cX6_isDigit 13 = .ok (.goto 4, 3) := by decide +kernel
theorem dX6_isDigit_16 : decode cX6_isDigit 16 = .ok (.iconst 0, 1) := by decide +kernel
theorem dX6_isDigit_17 : decode cX6_isDigit 17 = .ok (.ireturn, 1) := by decide +kernel
theorem dX6_isOver_0 : decode cX6_isOver 0 = .ok (.aload_n 0, 1) := by decide +kernel
theorem dX6_isOver_1 : decode cX6_isOver 1 = .ok (.getfield 19, 3) := by decide +kernel
theorem dX6_isOver_4 : decode cX6_isOver 4 = .ok (.aload_n 0, 1) := by decide +kernel
theorem dX6_isOver_5 : decode cX6_isOver 5 = .ok (.getfield 15, 3) := by decide +kernel
theorem dX6_isOver_8 : decode cX6_isOver 8 = .ok (.if_icmp .lt 7, 3) := by decide +kernel
theorem dX6_isOver_11 : decode cX6_isOver 11 = .ok (.iconst 1, 1) := by decide +kernel
theorem dX6_isOver_12 : decode cX6_isOver 12 = .ok (.goto 4, 3) := by decide +kernel
theorem dX6_isOver_15 : decode cX6_isOver 15 = .ok (.iconst 0, 1) := by decide +kernel
theorem dX6_isOver_16 : decode cX6_isOver 16 = .ok (.ireturn, 1) := by decide +kernel
set_option maxRecDepth 20000 in
theorem ggX6_spells_J0_length_8abf5 : GoodIn wsX6_spells wsJ0_length_8abf5 := goodIn_r _ [8, 9, 10, 11, 12, 7, 13, 14, 15] (by decide +kernel) (by decide +kernel)
set_option maxRecDepth 20000 in
theorem gX6_spells_J0_length_8abf5 : GoodIn wsX6_spells (wsV RX6 36 RJ0 yJ0_length_8abf5 wsJ0_length_8abf5) := goodIn_app (goodIn_of _ (by decide +kernel)) ggX6_spells_J0_length_8abf5
set_option maxRecDepth 20000 in
theorem ggX6_spells_J0_charAt_5068e : GoodIn wsX6_spells wsJ0_charAt_5068e := goodIn_r _ [19, 9, 20, 21, 22, 7, 23, 14, 15, 24, 25, 26, 27, 28, 29, 30, 31, 32, 33, 34, 35, 36, 37, 38, 39, 40, 41, 42, 43, 44, 45, 46, 47, 48, 49, 50, 51, 52] (by decide +kernel) (by decide +kernel)
set_option maxRecDepth 20000 in
theorem gX6_spells_J0_charAt_5068e : GoodIn wsX6_spells (wsV RX6 41 RJ0 yJ0_charAt_5068e wsJ0_charAt_5068e) := goodIn_app (goodIn_of _ (by decide +kernel)) ggX6_spells_J0_charAt_5068e
theorem dX6_spells_0 : decode cX6_spells 0 = .ok (.aload_n 0, 1) := by decide +kernel
theorem dX6_spells_1 : decode cX6_spells 1 = .ok (.getfield 22, 3) := by decide +kernel
theorem dX6_spells_4 : decode cX6_spells 4 = .ok (.aload_n 0, 1) := by decide +kernel
theorem dX6_spells_5 : decode cX6_spells 5 = .ok (.getfield 19, 3) := by decide +kernel
theorem dX6_spells_8 : decode cX6_spells 8 = .ok (.isub, 1) := by decide +kernel
theorem dX6_spells_9 : decode cX6_spells 9 = .ok (.aload_n 1, 1) := by decide +kernel
theorem dX6_spells_10 : decode cX6_spells 10 = .ok (.invokevirtual 36, 3) := by decide +kernel
theorem dX6_spells_13 : decode cX6_spells 13 = .ok (.if_icmp .eq 5, 3) := by decide +kernel
theorem dX6_spells_16 : decode cX6_spells 16 = .ok (.iconst 0, 1) := by decide +kernel
theorem dX6_spells_17 : decode cX6_spells 17 = .ok (.ireturn, 1) := by decide +kernel
theorem dX6_spells_18 : decode cX6_spells 18 = .ok (.iconst 0, 1) := by decide +kernel
theorem dX6_spells_19 : decode cX6_spells 19 = .ok (.istore_n 2, 1) := by decide +kernel
theorem dX6_spells_20 : decode cX6_spells 20 = .ok (.iload_n 2, 1) := by decide +kernel
theorem dX6_spells_21 : decode cX6_spells 21 = .ok (.aload_n 1, 1) := by decide +kernel
theorem dX6_spells_22 : decode cX6_spells 22 = .ok (.invokevirtual 36, 3) := by decide +kernel
theorem dX6_spells_25 : decode cX6_spells 25 = .ok (.if_icmp .ge 30, 3) := by decide +kernel
theorem dX6_spells_28 : decode cX6_spells 28 = .ok (.aload_n 0, 1) := by decide +kernel
theorem dX6_spells_29 : decode cX6_spells 29 = .ok (.getfield 9, 3) := by decide +kernel
theorem dX6_spells_32 : decode cX6_spells 32 = .ok (.aload_n 0, 1) := by decide +kernel
theorem dX6_spells_33 : decode cX6_spells 33 = .ok (.getfield 19, 3) := by decide +kernel
theorem dX6_spells_36 : decode cX6_spells 36 = .ok (.iload_n 2, 1) := by decide +kernel
theorem dX6_spells_37 : decode cX6_spells 37 = .ok (.iadd, 1) := by decide +kernel
theorem dX6_spells_38 : decode cX6_spells 38 = .ok (.iaload, 1) := by decide +kernel
theorem dX6_spells_39 : decode cX6_spells 39 = .ok (.aload_n 1, 1) := by decide +kernel
theorem dX6_spells_40 : decode cX6_spells 40 = .ok (.iload_n 2, 1) := by decide +kernel
theorem dX6_spells_41 : decode cX6_spells 41 = .ok (.invokevirtual 41, 3) := by decide +kernel
theorem dX6_spells_44 : decode cX6_spells 44 = .ok (.if_icmp .eq 5, 3) := by decide +kernel
theorem dX6_spells_47 : decode cX6_spells 47 = .ok (.iconst 0, 1) := by decide +kernel
theorem dX6_spells_48 : decode cX6_spells 48 = .ok (.ireturn, 1) := by decide +kernel
theorem dX6_spells_49 : decode cX6_spells 49 = .ok (.iinc 2 1, 3) := by decide +kernel
theorem dX6_spells_52 : decode cX6_spells 52 = .ok (.goto (-32), 3) := by decide +kernel
theorem dX6_spells_55 : decode cX6_spells 55 = .ok (.iconst 1, 1) := by decide +kernel
theorem dX6_spells_56 : decode cX6_spells 56 = .ok (.ireturn, 1) := by decide +kernel
set_option maxRecDepth 20000 in
theorem ggX6_number_X6_isOver : GoodIn wsX6_number wsX6_isOver := goodIn_r _ [8, 2, 9, 13, 14, 15, 16] (by decide +kernel) (by decide +kernel)
set_option maxRecDepth 20000 in
theorem gX6_number_X6_isOver : GoodIn wsX6_number (wsV RX6 45 RX6 yX6_isOver wsX6_isOver) := goodIn_app (goodIn_of _ (by decide +kernel)) ggX6_number_X6_isOver
set_option maxRecDepth 20000 in
theorem ggX6_number_X6_isDigit : GoodIn wsX6_number wsX6_isDigit := goodIn_r _ [12] (by decide +kernel) (by decide +kernel)
set_option maxRecDepth 20000 in
theorem gX6_number_X6_isDigit : GoodIn wsX6_number (va_wsS RX6 33 yX6_isDigit wsX6_isDigit) := goodIn_app (goodIn_of _ (by decide +kernel)) ggX6_number_X6_isDigit
theorem dX6_number_0 : decode cX6_number 0 = .ok (.aload_n 0, 1) := by decide +kernel
theorem dX6_number_1 : decode cX6_number 1 = .ok (.invokevirtual 45, 3) := by decide +kernel
theorem dX6_number_4 : decode cX6_number 4 = .ok (.ifCond .ne 31, 3) := by decide +kernel
theorem dX6_number_7 : decode cX6_number 7 = .ok (.aload_n 0, 1) := by decide +kernel
theorem dX6_number_8 : decode cX6_number 8 = .ok (.getfield 9, 3) := by decide +kernel
theorem dX6_number_11 : decode cX6_number 11 = .ok (.aload_n 0, 1) := by decide +kernel
theorem dX6_number_12 : decode cX6_number 12 = .ok (.getfield 19, 3) := by decide +kernel
theorem dX6_number_15 : decode cX6_number 15 = .ok (.iaload, 1) := by decide +kernel
theorem dX6_number_16 : decode cX6_number 16 = .ok (.invokestatic 33, 3) := by decide +kernel
theorem dX6_number_19 : decode cX6_number 19 = .ok (.ifCond .eq 16, 3) := by decide +kernel
theorem dX6_number_22 : decode cX6_number 22 = .ok (.aload_n 0, 1) := by decide +kernel
theorem dX6_number_23 : decode cX6_number 23 = .ok (.getfield 22, 3) := by decide +kernel
theorem dX6_number_26 : decode cX6_number 26 = .ok (.aload_n 0, 1) := by decide +kernel
theorem dX6_number_27 : decode cX6_number 27 = .ok (.getfield 19, 3) := by decide +kernel
theorem dX6_number_30 : decode cX6_number 30 = .ok (.isub, 1) := by decide +kernel
theorem dX6_number_31 : decode cX6_number 31 = .ok (.iconst 2, 1) := by decide +kernel
theorem dX6_number_32 : decode cX6_number 32 = .ok (.if_icmp .le 5, 3) := by decide +kernel
theorem dX6_number_35 : decode cX6_number 35 = .ok (.iconst (-1), 1) := by decide +kernel
theorem dX6_number_36 : decode cX6_number 36 = .ok (.ireturn, 1) := by decide +kernel
theorem dX6_number_37 : decode cX6_number 37 = .ok (.iconst 0, 1) := by decide +kernel
theorem dX6_number_38 : decode cX6_number 38 = .ok (.istore_n 1, 1) := by decide +kernel
theorem dX6_number_39 : decode cX6_number 39 = .ok (.aload_n 0, 1) := by decide +kernel
theorem dX6_number_40 : decode cX6_number 40 = .ok (.getfield 19, 3) := by decide +kernel
theorem dX6_number_43 : decode cX6_number 43 = .ok (.istore_n 2, 1) := by decide +kernel
theorem dX6_number_44 : decode cX6_number 44 = .ok (.iload_n 2, 1) := by decide +kernel
theorem dX6_number_45 : decode cX6_number 45 = .ok (.aload_n 0, 1) := by decide +kernel
theorem dX6_number_46 : decode cX6_number 46 = .ok (.getfield 22, 3) := by decide +kernel
theorem dX6_number_49 : decode cX6_number 49 = .ok (.if_icmp .ge 24, 3) := by decide +kernel
theorem dX6_number_52 : decode cX6_number 52 = .ok (.iload_n 1, 1) := by decide +kernel
theorem dX6_number_53 : decode cX6_number 53 = .ok (.bipush 10, 2) := by decide +kernel
theorem dX6_number_55 : decode cX6_number 55 = .ok (.imul, 1) := by decide +kernel
theorem dX6_number_56 : decode cX6_number 56 = .ok (.aload_n 0, 1) := by decide +kernel
theorem dX6_number_57 : decode cX6_number 57 = .ok (.getfield 9, 3) := by decide +kernel
theorem dX6_number_60 : decode cX6_number 60 = .ok (.iload_n 2, 1) := by decide +kernel
theorem dX6_number_61 : decode cX6_number 61 = .ok (.iaload, 1) := by decide +kernel
theorem dX6_number_62 : decode cX6_number 62 = .ok (.iadd, 1) := by decide +kernel
theorem dX6_number_63 : decode cX6_number 63 = .ok (.bipush 48, 2) := by decide +kernel
theorem dX6_number_65 : decode cX6_number 65 = .ok (.isub, 1) := by decide +kernel
theorem dX6_number_66 : decode cX6_number 66 = .ok (.istore_n 1, 1) := by decide +kernel
theorem dX6_number_67 : decode cX6_number 67 = .ok (.iinc 2 1, 3) := by decide +kernel
theorem dX6_number_70 : decode cX6_number 70 = .ok (.goto (-26), 3) := by decide +kernel
theorem dX6_number_73 : decode cX6_number 73 = .ok (.iload_n 1, 1) := by decide +kernel
theorem dX6_number_74 : decode cX6_number 74 = .ok (.ireturn, 1) := by decide +kernel
set_option maxRecDepth 20000 in
theorem ggX7_init_X5_init : GoodIn wsX7_init wsX5_init := goodIn_r _ [43, 44, 2, 3, 32, 45, 46, 47, 48, 97, 98, 99, 100, 101, 102, 103, 104, 105] (by decide +kernel) (by decide +kernel)
set_option maxRecDepth 20000 in
theorem gX7_init_X5_init : GoodIn wsX7_init (wsX5_init) := ggX7_init_X5_init
set_option maxRecDepth 20000 in
theorem ggX7_init_X6_init : GoodIn wsX7_init wsX6_init := goodIn_r _ [50, 51, 2, 3, 32, 52, 121, 122, 123, 124] (by decide +kernel) (by decide +kernel)
set_option maxRecDepth 20000 in
theorem gX7_init_X6_init_n18 : GoodIn wsX7_init (wsX6_init) := ggX7_init_X6_init
set_option maxRecDepth 20000 in
theorem ggX7_init_X3_init : GoodIn wsX7_init wsX3_init := goodIn_r _ [55, 56, 2, 3, 57, 5, 6, 58, 59, 60, 42, 43, 44, 32, 45, 46, 47, 48, 97, 98, 99, 100, 101, 102, 103, 104, 105, 125, 126, 127, 128] (by decide +kernel) (by decide +kernel)
set_option maxRecDepth 20000 in
theorem gX7_init_X3_init : GoodIn wsX7_init (wsX3_init) := ggX7_init_X3_init
set_option maxRecDepth 20000 in
theorem ggX7_init_X0_init : GoodIn wsX7_init wsX0_init := goodIn_r _ [62, 63, 2, 3, 32, 64, 129] (by decide +kernel) (by decide +kernel)
set_option maxRecDepth 20000 in
theorem gX7_init_X0_init_n34 : GoodIn wsX7_init (wsX0_init) := ggX7_init_X0_init
set_option maxRecDepth 20000 in
theorem ggX7_init_X1_init : GoodIn wsX7_init wsX1_init := goodIn_r _ [67, 68, 2, 3, 69, 70, 130, 131] (by decide +kernel) (by decide +kernel)
set_option maxRecDepth 20000 in
theorem gX7_init_X1_init : GoodIn wsX7_init (wsX1_init) := ggX7_init_X1_init
set_option maxRecDepth 20000 in
theorem ggX7_init_X2_init : GoodIn wsX7_init wsX2_init := goodIn_r _ [73, 74, 2, 3, 32, 75, 76, 132, 133, 134] (by decide +kernel) (by decide +kernel)
set_option maxRecDepth 20000 in
theorem gX7_init_X2_init : GoodIn wsX7_init (wsX2_init) := ggX7_init_X2_init
set_option maxRecDepth 20000 in
theorem ggX7_init_X4_init : GoodIn wsX7_init wsX4_init := goodIn_r _ [79, 80, 2, 3, 32, 81, 82, 83, 84, 85, 86, 135, 136, 137, 138, 139, 140, 141, 142] (by decide +kernel) (by decide +kernel)
set_option maxRecDepth 20000 in
theorem gX7_init_X4_init : GoodIn wsX7_init (wsX4_init) := ggX7_init_X4_init
set_option maxRecDepth 20000 in
theorem ggX7_init_X0_lay : GoodIn wsX7_init wsX0_lay := goodIn_r _ [90, 64, 91, 92, 93, 94, 95, 96, 129] (by decide +kernel) (by decide +kernel)
set_option maxRecDepth 20000 in
theorem gX7_init_X0_lay : GoodIn wsX7_init (wsV RX7 90 RX0 yX0_lay wsX0_lay) := goodIn_app (goodIn_of _ (by decide +kernel)) ggX7_init_X0_lay
theorem dX7_init_0 : decode cX7_init 0 = .ok (.aload_n 0, 1) := by decide +kernel
theorem dX7_init_1 : decode cX7_init 1 = .ok (.invokespecial 1, 3) := by decide +kernel
theorem dX7_init_4 : decode cX7_init 4 = .ok (.aload_n 0, 1) := by decide +kernel
theorem dX7_init_5 : decode cX7_init 5 = .ok (.new 7, 3) := by decide +kernel
theorem dX7_init_8 : decode cX7_init 8 = .ok (.dup, 1) := by decide +kernel
theorem dX7_init_9 : decode cX7_init 9 = .ok (.invokespecial 9, 3) := by decide +kernel
theorem dX7_init_12 : decode cX7_init 12 = .ok (.putfield 10, 3) := by decide +kernel
theorem dX7_init_15 : decode cX7_init 15 = .ok (.aload_n 0, 1) := by decide +kernel
theorem dX7_init_16 : decode cX7_init 16 = .ok (.new 16, 3) := by decide +kernel
theorem dX7_init_19 : decode cX7_init 19 = .ok (.dup, 1) := by decide +kernel
theorem dX7_init_20 : decode cX7_init 20 = .ok (.invokespecial 18, 3) := by decide +kernel
theorem dX7_init_23 : decode cX7_init 23 = .ok (.putfield 19, 3) := by decide +kernel
theorem dX7_init_26 : decode cX7_init 26 = .ok (.aload_n 0, 1) := by decide +kernel
theorem dX7_init_27 : decode cX7_init 27 = .ok (.new 23, 3) := by decide +kernel
theorem dX7_init_30 : decode cX7_init 30 = .ok (.dup, 1) := by decide +kernel
theorem dX7_init_31 : decode cX7_init 31 = .ok (.aload_n 0, 1) := by decide +kernel
theorem dX7_init_32 : decode cX7_init 32 = .ok (.getfield 19, 3) := by decide +kernel
theorem dX7_init_35 : decode cX7_init 35 = .ok (.invokespecial 25, 3) := by decide +kernel
theorem dX7_init_38 : decode cX7_init 38 = .ok (.putfield 28, 3) := by decide +kernel
theorem dX7_init_41 : decode cX7_init 41 = .ok (.aload_n 0, 1) := by decide +kernel
theorem dX7_init_42 : decode cX7_init 42 = .ok (.new 32, 3) := by decide +kernel
theorem dX7_init_45 : decode cX7_init 45 = .ok (.dup, 1) := by decide +kernel
theorem dX7_init_46 : decode cX7_init 46 = .ok (.invokespecial 34, 3) := by decide +kernel
theorem dX7_init_49 : decode cX7_init 49 = .ok (.putfield 35, 3) := by decide +kernel
theorem dX7_init_52 : decode cX7_init 52 = .ok (.aload_n 0, 1) := by decide +kernel
theorem dX7_init_53 : decode cX7_init 53 = .ok (.new 39, 3) := by decide +kernel
theorem dX7_init_56 : decode cX7_init 56 = .ok (.dup, 1) := by decide +kernel
theorem dX7_init_57 : decode cX7_init 57 = .ok (.aload_n 0, 1) := by decide +kernel
theorem dX7_init_58 : decode cX7_init 58 = .ok (.getfield 10, 3) := by decide +kernel
theorem dX7_init_61 : decode cX7_init 61 = .ok (.aload_n 0, 1) := by decide +kernel
theorem dX7_init_62 : decode cX7_init 62 = .ok (.getfield 35, 3) := by decide +kernel
theorem dX7_init_65 : decode cX7_init 65 = .ok (.invokespecial 41, 3) := by decide +kernel
theorem dX7_init_68 : decode cX7_init 68 = .ok (.putfield 44, 3) := by decide +kernel
theorem dX7_init_71 : decode cX7_init 71 = .ok (.aload_n 0, 1) := by decide +kernel
theorem dX7_init_72 : decode cX7_init 72 = .ok (.new 48, 3) := by decide +kernel
theorem dX7_init_75 : decode cX7_init 75 = .ok (.dup, 1) := by decide +kernel
theorem dX7_init_76 : decode cX7_init 76 = .ok (.aload_n 0, 1) := by decide +kernel
theorem dX7_init_77 : decode cX7_init 77 = .ok (.getfield 35, 3) := by decide +kernel
theorem dX7_init_80 : decode cX7_init 80 = .ok (.invokespecial 50, 3) := by decide +kernel
theorem dX7_init_83 : decode cX7_init 83 = .ok (.putfield 53, 3) := by decide +kernel
theorem dX7_init_86 : decode cX7_init 86 = .ok (.aload_n 0, 1) := by decide +kernel
theorem dX7_init_87 : decode cX7_init 87 = .ok (.new 57, 3) := by decide +kernel
theorem dX7_init_90 : decode cX7_init 90 = .ok (.dup, 1) := by decide +kernel
theorem dX7_init_91 : decode cX7_init 91 = .ok (.aload_n 0, 1) := by decide +kernel
theorem dX7_init_92 : decode cX7_init 92 = .ok (.getfield 10, 3) := by decide +kernel
theorem dX7_init_95 : decode cX7_init 95 = .ok (.aload_n 0, 1) := by decide +kernel
theorem dX7_init_96 : decode cX7_init 96 = .ok (.getfield 44, 3) := by decide +kernel
theorem dX7_init_99 : decode cX7_init 99 = .ok (.invokespecial 59, 3) := by decide +kernel
theorem dX7_init_102 : decode cX7_init 102 = .ok (.putfield 62, 3) := by decide +kernel
theorem dX7_init_105 : decode cX7_init 105 = .ok (.aload_n 0, 1) := by decide +kernel
theorem dX7_init_106 : decode cX7_init 106 = .ok (.iconst 2, 1) := by decide +kernel
theorem dX7_init_107 : decode cX7_init 107 = .ok (.newarray .int, 2) := by decide +kernel
theorem dX7_init_109 : decode cX7_init 109 = .ok (.putfield 66, 3) := by decide +kernel
theorem dX7_init_112 : decode cX7_init 112 = .ok (.aload_n 0, 1) := by decide +kernel
theorem dX7_init_113 : decode cX7_init 113 = .ok (.iconst 2, 1) := by decide +kernel
theorem dX7_init_114 : decode cX7_init 114 = .ok (.newarray .int, 2) := by decide +kernel
theorem dX7_init_116 : decode cX7_init 116 = .ok (.putfield 70, 3) := by decide +kernel
theorem dX7_init_119 : decode cX7_init 119 = .ok (.aload_n 0, 1) := by decide +kernel
theorem dX7_init_120 : decode cX7_init 120 = .ok (.iconst 2, 1) := by decide +kernel
theorem dX7_init_121 : decode cX7_init 121 = .ok (.newarray .boolean, 2) := by decide +kernel
theorem dX7_init_123 : decode cX7_init 123 = .ok (.putfield 73, 3) := by decide +kernel
theorem dX7_init_126 : decode cX7_init 126 = .ok (.aload_n 0, 1) := by decide +kernel
theorem dX7_init_127 : decode cX7_init 127 = .ok (.bipush 12, 2) := by decide +kernel
theorem dX7_init_129 : decode cX7_init 129 = .ok (.newarray .int, 2) := by decide +kernel
theorem dX7_init_131 : decode cX7_init 131 = .ok (.putfield 77, 3) := by decide +kernel
theorem dX7_init_134 : decode cX7_init 134 = .ok (.aload_n 0, 1) := by decide +kernel
theorem dX7_init_135 : decode cX7_init 135 = .ok (.bipush 12, 2) := by decide +kernel
theorem dX7_init_137 : decode cX7_init 137 = .ok (.newarray .int, 2) := by decide +kernel
theorem dX7_init_139 : decode cX7_init 139 = .ok (.putfield 80, 3) := by decide +kernel
theorem dX7_init_142 : decode cX7_init 142 = .ok (.aload_n 0, 1) := by decide +kernel
theorem dX7_init_143 : decode cX7_init 143 = .ok (.getfield 35, 3) := by decide +kernel
theorem dX7_init_146 : decode cX7_init 146 = .ok (.aload_n 0, 1) := by decide +kernel
theorem dX7_init_147 : decode cX7_init 147 = .ok (.getfield 10, 3) := by decide +kernel
theorem dX7_init_150 : decode cX7_init 150 = .ok (.getfield 83, 3) := by decide +kernel
theorem dX7_init_153 : decode cX7_init 153 = .ok (.aload_n 0, 1) := by decide +kernel
theorem dX7_init_154 : decode cX7_init 154 = .ok (.getfield 10, 3) := by decide +kernel
theorem dX7_init_157 : decode cX7_init 157 = .ok (.getfield 87, 3) := by decide +kernel
theorem dX7_init_160 : decode cX7_init 160 = .ok (.invokevirtual 90, 3) := by decide +kernel
theorem dX7_init_163 : decode cX7_init 163 = .ok (.return_, 1) := by decide +kernel
set_option maxRecDepth 20000 in
theorem ggX7_write_X6_append : GoodIn wsX7_write wsX6_append := goodIn_r _ [8, 9, 10, 26, 27, 28, 29] (by decide +kernel) (by decide +kernel)
set_option maxRecDepth 20000 in
theorem gX7_write_X6_append : GoodIn wsX7_write (wsV RX7 99 RX6 yX6_append wsX6_append) := goodIn_app (goodIn_of _ (by decide +kernel)) ggX7_write_X6_append
theorem dX7_write_0 : decode cX7_write 0 = .ok (.iload_n 3, 1) := by decide +kernel
theorem dX7_write_1 : decode cX7_write 1 = .ok (.iconst 1, 1) := by decide +kernel
theorem dX7_write_2 : decode cX7_write 2 = .ok (.if_icmp .lt 9, 3) := by decide +kernel
theorem dX7_write_5 : decode cX7_write 5 = .ok (.iload_n 3, 1) := by decide +kernel
theorem dX7_write_6 : decode cX7_write 6 = .ok (.bipush 8, 2) := by decide +kernel
theorem dX7_write_8 : decode cX7_write 8 = .ok (.if_icmp .le 6, 3) := by decide +kernel
theorem dX7_write_11 : decode cX7_write 11 = .ok (.bipush (-3), 2) := by decide +kernel
theorem dX7_write_13 : decode cX7_write 13 = .ok (.ireturn, 1) := by decide +kernel
theorem dX7_write_14 : decode cX7_write 14 = .ok (.aload_n 0, 1) := by decide +kernel
theorem dX7_write_15 : decode cX7_write 15 = .ok (.getfield 19, 3) := by decide +kernel
theorem dX7_write_18 : decode cX7_write 18 = .ok (.getfield 94, 3) := by decide +kernel
theorem dX7_write_21 : decode cX7_write 21 = .ok (.iload_n 3, 1) := by decide +kernel
theorem dX7_write_22 : decode cX7_write 22 = .ok (.iadd, 1) := by decide +kernel
theorem dX7_write_23 : decode cX7_write 23 = .ok (.sipush 200, 3) := by decide +kernel
theorem dX7_write_26 : decode cX7_write 26 = .ok (.if_icmp .le 6, 3) := by decide +kernel
theorem dX7_write_29 : decode cX7_write 29 = .ok (.bipush (-5), 2) := by decide +kernel
theorem dX7_write_31 : decode cX7_write 31 = .ok (.ireturn, 1) := by decide +kernel
theorem dX7_write_32 : decode cX7_write 32 = .ok (.iconst 0, 1) := by decide +kernel
theorem dX7_write_33 : decode cX7_write 33 = .ok (.istore 4, 2) := by decide +kernel
theorem dX7_write_35 : decode cX7_write 35 = .ok (.iload 4, 2) := by decide +kernel
theorem dX7_write_37 : decode cX7_write 37 = .ok (.iload_n 3, 1) := by decide +kernel
theorem dX7_write_38 : decode cX7_write 38 = .ok (.if_icmp .ge 28, 3) := by decide +kernel
theorem dX7_write_41 : decode cX7_write 41 = .ok (.aload_n 0, 1) := by decide +kernel
theorem dX7_write_42 : decode cX7_write 42 = .ok (.getfield 19, 3) := by decide +kernel
theorem dX7_write_45 : decode cX7_write 45 = .ok (.lload_n 1, 1) := by decide +kernel
theorem dX7_write_46 : decode cX7_write 46 = .ok (.bipush 8, 2) := by decide +kernel
theorem dX7_write_48 : decode cX7_write 48 = .ok (.iload 4, 2) := by decide +kernel
theorem dX7_write_50 : decode cX7_write 50 = .ok (.imul, 1) := by decide +kernel
theorem dX7_write_51 : decode cX7_write 51 = .ok (.lshr, 1) := by decide +kernel
theorem dX7_write_52 : decode cX7_write 52 = .ok (.ldc2_w 97, 3) := by decide +kernel
theorem dX7_write_55 : decode cX7_write 55 = .ok (.land, 1) := by decide +kernel
theorem dX7_write_56 : decode cX7_write 56 = .ok (.l2i, 1) := by decide +kernel
theorem dX7_write_57 : decode cX7_write 57 = .ok (.invokevirtual 99, 3) := by decide +kernel
theorem dX7_write_60 : decode cX7_write 60 = .ok (.iinc 4 1, 3) := by decide +kernel
theorem dX7_write_63 : decode cX7_write 63 = .ok (.goto (-28), 3) := by decide +kernel
theorem dX7_write_66 : decode cX7_write 66 = .ok (.aload_n 0, 1) := by decide +kernel
theorem dX7_write_67 : decode cX7_write 67 = .ok (.getfield 19, 3) := by decide +kernel
theorem dX7_write_70 : decode cX7_write 70 = .ok (.getfield 94, 3) := by decide +kernel
theorem dX7_write_73 : decode cX7_write 73 = .ok (.ireturn, 1) := by decide +kernel
theorem dX7_erase_0 : decode cX7_erase 0 = .ok (.aload_n 0, 1) := by decide +kernel
theorem dX7_erase_1 : decode cX7_erase 1 = .ok (.getfield 19, 3) := by decide +kernel
theorem dX7_erase_4 : decode cX7_erase 4 = .ok (.getfield 94, 3) := by decide +kernel
theorem dX7_erase_7 : decode cX7_erase 7 = .ok (.istore_n 1, 1) := by decide +kernel
theorem dX7_erase_8 : decode cX7_erase 8 = .ok (.aload_n 0, 1) := by decide +kernel
theorem dX7_erase_9 : decode cX7_erase 9 = .ok (.getfield 19, 3) := by decide +kernel
theorem dX7_erase_12 : decode cX7_erase 12 = .ok (.iconst 0, 1) := by decide +kernel
theorem dX7_erase_13 : decode cX7_erase 13 = .ok (.putfield 94, 3) := by decide +kernel
theorem dX7_erase_16 : decode cX7_erase 16 = .ok (.iload_n 1, 1) := by decide +kernel
theorem dX7_erase_17 : decode cX7_erase 17 = .ok (.ireturn, 1) := by decide +kernel
set_option maxRecDepth 20000 in
theorem ggX7_fault_X3_read : GoodIn wsX7_fault wsX3_read := goodIn_r _ [8, 9, 10, 11, 12, 13, 14, 15, 16, 17, 18, 19, 20, 21, 22, 23, 24, 25, 26, 27, 28, 29, 30, 31, 32, 33, 34, 35, 36, 37, 38, 39, 40, 41, 42, 43, 44, 45, 46, 47, 48, 49, 50, 51, 52, 53, 54, 55, 7, 56, 57, 58, 59, 60, 61, 62, 63, 64, 65, 66, 67, 68, 69, 70, 71, 72, 73, 74, 75, 76, 77, 78, 79, 80, 81, 82, 83, 84, 85, 86, 87, 88, 89, 90, 91, 92, 93, 94, 95, 96, 97, 98, 99, 100, 101, 102, 103, 104, 105, 106, 107, 108, 109, 110, 111, 112, 113, 114, 115, 116, 117, 118, 119, 120, 121, 122, 123, 124, 125, 126, 127, 128, 129, 130, 131, 132, 133, 134, 135, 136, 137, 138, 139, 140, 141, 142, 143, 144, 145, 146, 147, 148, 149, 150, 151, 152, 153, 154, 155, 156, 157, 158, 159, 160, 161, 162, 163, 164, 165, 166, 167, 168, 169, 170, 171, 172, 173, 174, 175, 176, 177, 178, 179, 180, 196, 197, 198, 199, 200, 201, 202, 203, 204, 205, 206, 207, 208, 209, 210, 211, 212] (by decide +kernel) (by decide +kernel)
set_option maxRecDepth 20000 in
theorem gX7_fault_X3_read : GoodIn wsX7_fault (wsV RX7 103 RX3 yX3_read wsX3_read) := goodIn_app (goodIn_of _ (by decide +kernel)) ggX7_fault_X3_read
theorem dX7_fault_0 : decode cX7_fault 0 = .ok (.aload_n 0, 1) := by decide +kernel
theorem dX7_fault_1 : decode cX7_fault 1 = .ok (.getfield 28, 3) := by decide +kernel
theorem dX7_fault_4 : decode cX7_fault 4 = .ok (.aload_n 0, 1) := by decide +kernel
theorem dX7_fault_5 : decode cX7_fault 5 = .ok (.getfield 10, 3) := by decide +kernel
theorem dX7_fault_8 : decode cX7_fault 8 = .ok (.invokevirtual 103, 3) := by decide +kernel
theorem dX7_fault_11 : decode cX7_fault 11 = .ok (.aload_n 0, 1) := by decide +kernel
theorem dX7_fault_12 : decode cX7_fault 12 = .ok (.getfield 28, 3) := by decide +kernel
theorem dX7_fault_15 : decode cX7_fault 15 = .ok (.getfield 107, 3) := by decide +kernel
theorem dX7_fault_18 : decode cX7_fault 18 = .ok (.ireturn, 1) := by decide +kernel
set_option maxRecDepth 20000 in
theorem ggX7_board_X3_read : GoodIn wsX7_board wsX3_read := goodIn_r _ [12, 13, 14, 15, 16, 17, 18, 19, 20, 21, 22, 23, 24, 25, 26, 27, 28, 29, 30, 31, 32, 33, 34, 35, 36, 37, 38, 39, 40, 41, 42, 43, 44, 45, 46, 47, 48, 49, 50, 51, 52, 53, 54, 55, 56, 57, 58, 59, 11, 60, 61, 62, 63, 64, 65, 66, 67, 68, 69, 70, 71, 72, 73, 74, 75, 76, 77, 78, 79, 80, 81, 82, 83, 84, 85, 86, 87, 88, 89, 90, 91, 92, 93, 94, 95, 96, 97, 98, 99, 100, 101, 102, 103, 104, 105, 106, 107, 108, 109, 110, 111, 112, 113, 114, 115, 116, 117, 118, 119, 120, 121, 122, 123, 124, 125, 126, 127, 128, 129, 130, 131, 132, 133, 134, 135, 136, 137, 138, 139, 140, 141, 142, 143, 144, 145, 146, 147, 148, 149, 150, 151, 152, 153, 154, 155, 156, 157, 158, 159, 160, 161, 162, 163, 164, 165, 166, 167, 168, 169, 170, 171, 172, 173, 174, 175, 176, 177, 178, 179, 180, 181, 182, 183, 184, 232, 233, 234, 235, 240, 241, 242, 243, 244, 245, 246, 247, 248, 236, 237, 238, 239] (by decide +kernel) (by decide +kernel)
set_option maxRecDepth 20000 in
theorem gX7_board_X3_read : GoodIn wsX7_board (wsV RX7 103 RX3 yX3_read wsX3_read) := goodIn_app (goodIn_of _ (by decide +kernel)) ggX7_board_X3_read
set_option maxRecDepth 20000 in
theorem ggX7_board_X5_copy : GoodIn wsX7_board wsX5_copy := goodIn_r _ [21, 22, 23, 24, 25, 26, 27, 28, 29, 30, 31, 32, 33, 34, 240, 241, 242, 243, 244, 245, 246, 247, 248] (by decide +kernel) (by decide +kernel)
set_option maxRecDepth 20000 in
theorem gX7_board_X5_copy : GoodIn wsX7_board (wsV RX7 113 RX5 yX5_copy wsX5_copy) := goodIn_app (goodIn_of _ (by decide +kernel)) ggX7_board_X5_copy
set_option maxRecDepth 20000 in
theorem ggX7_board_X7_beginAnew : GoodIn wsX7_board wsX7_beginAnew := goodIn_r _ [189, 190, 2, 191, 192, 193, 194, 195, 196, 197, 198, 199, 200, 201, 202, 203, 204, 205, 206, 207, 208, 209, 210, 211, 212, 213, 214, 215, 216, 217, 218, 219, 220, 221, 222, 223, 224, 225, 226, 227, 228, 229, 230, 231, 240, 241, 242, 243, 244, 245, 246, 247, 248, 249, 250, 251, 252, 253, 254, 255, 256, 257] (by decide +kernel) (by decide +kernel)
set_option maxRecDepth 20000 in
theorem gX7_board_X7_beginAnew : GoodIn wsX7_board (wsV RX7 116 RX7 yX7_beginAnew wsX7_beginAnew) := goodIn_app (goodIn_of _ (by decide +kernel)) ggX7_board_X7_beginAnew
theorem dX7_board_0 : decode cX7_board 0 = .ok (.aload_n 0, 1) := by decide +kernel
theorem dX7_board_1 : decode cX7_board 1 = .ok (.getfield 28, 3) := by decide +kernel
theorem dX7_board_4 : decode cX7_board 4 = .ok (.aload_n 0, 1) := by decide +kernel
theorem dX7_board_5 : decode cX7_board 5 = .ok (.getfield 10, 3) := by decide +kernel
theorem dX7_board_8 : decode cX7_board 8 = .ok (.invokevirtual 103, 3) := by decide +kernel
theorem dX7_board_11 : decode cX7_board 11 = .ok (.aload_n 0, 1) := by decide +kernel
theorem dX7_board_12 : decode cX7_board 12 = .ok (.getfield 28, 3) := by decide +kernel
theorem dX7_board_15 : decode cX7_board 15 = .ok (.getfield 107, 3) := by decide +kernel
theorem dX7_board_18 : decode cX7_board 18 = .ok (.iconst (-1), 1) := by decide +kernel
theorem dX7_board_19 : decode cX7_board 19 = .ok (.if_icmp .eq 6, 3) := by decide +kernel
theorem dX7_board_22 : decode cX7_board 22 = .ok (.bipush (-4), 2) := by decide +kernel
theorem dX7_board_24 : decode cX7_board 24 = .ok (.ireturn, 1) := by decide +kernel
theorem dX7_board_25 : decode cX7_board 25 = .ok (.aload_n 0, 1) := by decide +kernel
theorem dX7_board_26 : decode cX7_board 26 = .ok (.getfield 10, 3) := by decide +kernel
theorem dX7_board_29 : decode cX7_board 29 = .ok (.aload_n 0, 1) := by decide +kernel
theorem dX7_board_30 : decode cX7_board 30 = .ok (.getfield 28, 3) := by decide +kernel
theorem dX7_board_33 : decode cX7_board 33 = .ok (.getfield 110, 3) := by decide +kernel
theorem dX7_board_36 : decode cX7_board 36 = .ok (.invokevirtual 113, 3) := by decide +kernel
theorem dX7_board_39 : decode cX7_board 39 = .ok (.aload_n 0, 1) := by decide +kernel
theorem dX7_board_40 : decode cX7_board 40 = .ok (.getfield 19, 3) := by decide +kernel
theorem dX7_board_43 : decode cX7_board 43 = .ok (.iconst 0, 1) := by decide +kernel
theorem dX7_board_44 : decode cX7_board 44 = .ok (.putfield 94, 3) := by decide +kernel
theorem dX7_board_47 : decode cX7_board 47 = .ok (.aload_n 0, 1) := by decide +kernel
theorem dX7_board_48 : decode cX7_board 48 = .ok (.invokevirtual 116, 3) := by decide +kernel
theorem dX7_board_51 : decode cX7_board 51 = .ok (.aload_n 0, 1) := by decide +kernel
theorem dX7_board_52 : decode cX7_board 52 = .ok (.getfield 28, 3) := by decide +kernel
theorem dX7_board_55 : decode cX7_board 55 = .ok (.getfield 119, 3) := by decide +kernel
theorem dX7_board_58 : decode cX7_board 58 = .ok (.ireturn, 1) := by decide +kernel
set_option maxRecDepth 20000 in
theorem ggX7_square_X7_noSquare : GoodIn wsX7_square wsX7_noSquare := goodIn_r _ [9, 1, 10, 11, 12, 13, 14, 15, 16, 27, 28, 29, 30, 31, 32, 33, 34, 35, 36, 37, 38, 39, 40, 41, 42, 43, 44, 45, 46, 47, 48, 49, 50] (by decide +kernel) (by decide +kernel)
set_option maxRecDepth 20000 in
theorem gX7_square_X7_noSquare : GoodIn wsX7_square (wsV RX7 122 RX7 yX7_noSquare wsX7_noSquare) := goodIn_app (goodIn_of _ (by decide +kernel)) ggX7_square_X7_noSquare
set_option maxRecDepth 20000 in
theorem ggX7_square_X7_bit : GoodIn wsX7_square wsX7_bit := goodIn_r _ [19] (by decide +kernel) (by decide +kernel)
set_option maxRecDepth 20000 in
theorem gX7_square_X7_bit : GoodIn wsX7_square (va_wsS RX7 129 yX7_bit wsX7_bit) := goodIn_app (goodIn_of _ (by decide +kernel)) ggX7_square_X7_bit
set_option maxRecDepth 20000 in
theorem ggX7_square_X5_manOf : GoodIn wsX7_square wsX5_manOf := goodIn_r _ [23, 24, 25, 8, 26, 42, 43, 44, 45, 46, 47, 48, 49, 50] (by decide +kernel) (by decide +kernel)
set_option maxRecDepth 20000 in
theorem gX7_square_X5_manOf : GoodIn wsX7_square (wsV RX7 136 RX5 yX5_manOf wsX5_manOf) := goodIn_app (goodIn_of _ (by decide +kernel)) ggX7_square_X5_manOf
theorem dX7_square_0 : decode cX7_square 0 = .ok (.aload_n 0, 1) := by decide +kernel
theorem dX7_square_1 : decode cX7_square 1 = .ok (.iload_n 1, 1) := by decide +kernel
theorem dX7_square_2 : decode cX7_square 2 = .ok (.invokevirtual 122, 3) := by decide +kernel
theorem dX7_square_5 : decode cX7_square 5 = .ok (.ifCond .eq 6, 3) := by decide +kernel
theorem dX7_square_8 : decode cX7_square 8 = .ok (.bipush (-2), 2) := by decide +kernel
theorem dX7_square_10 : decode cX7_square 10 = .ok (.ireturn, 1) := by decide +kernel
theorem dX7_square_11 : decode cX7_square 11 = .ok (.iload_n 2, 1) := by decide +kernel
theorem dX7_square_12 : decode cX7_square 12 = .ok (.tableswitch 69 0 2 #[28, 40, 53], 28) := by decide +kernel
theorem dX7_square_40 : decode cX7_square 40 = .ok (.aload_n 0, 1) := by decide +kernel
theorem dX7_square_41 : decode cX7_square 41 = .ok (.getfield 10, 3) := by decide +kernel
theorem dX7_square_44 : decode cX7_square 44 = .ok (.getfield 126, 3) := by decide +kernel
theorem dX7_square_47 : decode cX7_square 47 = .ok (.iload_n 1, 1) := by decide +kernel
theorem dX7_square_48 : decode cX7_square 48 = .ok (.invokestatic 129, 3) := by decide +kernel
theorem dX7_square_51 : decode cX7_square 51 = .ok (.ireturn, 1) := by decide +kernel
theorem dX7_square_52 : decode cX7_square 52 = .ok (.aload_n 0, 1) := by decide +kernel
theorem dX7_square_53 : decode cX7_square 53 = .ok (.getfield 10, 3) := by decide +kernel
theorem dX7_square_56 : decode cX7_square 56 = .ok (.aload_n 0, 1) := by decide +kernel
theorem dX7_square_57 : decode cX7_square 57 = .ok (.getfield 133, 3) := by decide +kernel
theorem dX7_square_60 : decode cX7_square 60 = .ok (.iload_n 1, 1) := by decide +kernel
theorem dX7_square_61 : decode cX7_square 61 = .ok (.invokevirtual 136, 3) := by decide +kernel
theorem dX7_square_64 : decode cX7_square 64 = .ok (.ireturn, 1) := by decide +kernel
theorem dX7_square_65 : decode cX7_square 65 = .ok (.aload_n 0, 1) := by decide +kernel
theorem dX7_square_66 : decode cX7_square 66 = .ok (.getfield 10, 3) := by decide +kernel
theorem dX7_square_69 : decode cX7_square 69 = .ok (.aload_n 0, 1) := by decide +kernel
theorem dX7_square_70 : decode cX7_square 70 = .ok (.getfield 10, 3) := by decide +kernel
theorem dX7_square_73 : decode cX7_square 73 = .ok (.getfield 139, 3) := by decide +kernel
theorem dX7_square_76 : decode cX7_square 76 = .ok (.iload_n 1, 1) := by decide +kernel
theorem dX7_square_77 : decode cX7_square 77 = .ok (.invokevirtual 136, 3) := by decide +kernel
theorem dX7_square_80 : decode cX7_square 80 = .ok (.ireturn, 1) := by decide +kernel
theorem dX7_square_81 : decode cX7_square 81 = .ok (.bipush (-3), 2) := by decide +kernel
theorem dX7_square_83 : decode cX7_square 83 = .ok (.ireturn, 1) := by decide +kernel
set_option maxRecDepth 20000 in
theorem ggX7_man_X7_noMan : GoodIn wsX7_man wsX7_noMan := goodIn_r _ [10, 1, 11, 15, 16, 17, 18, 19, 20, 21, 22, 23, 24, 25, 26, 27, 28, 29, 30, 31, 32, 33, 34, 35, 36, 37, 38] (by decide +kernel) (by decide +kernel)
set_option maxRecDepth 20000 in
theorem gX7_man_X7_noMan : GoodIn wsX7_man (wsV RX7 142 RX7 yX7_noMan wsX7_noMan) := goodIn_app (goodIn_of _ (by decide +kernel)) ggX7_man_X7_noMan
set_option maxRecDepth 20000 in
theorem ggX7_man_X7_placeOf : GoodIn wsX7_man wsX7_placeOf := goodIn_r _ [14] (by decide +kernel) (by decide +kernel)
set_option maxRecDepth 20000 in
theorem gX7_man_X7_placeOf : GoodIn wsX7_man (va_wsS RX7 151 yX7_placeOf wsX7_placeOf) := goodIn_app (goodIn_of _ (by decide +kernel)) ggX7_man_X7_placeOf
theorem dX7_man_0 : decode cX7_man 0 = .ok (.aload_n 0, 1) := by decide +kernel
theorem dX7_man_1 : decode cX7_man 1 = .ok (.iload_n 1, 1) := by decide +kernel
theorem dX7_man_2 : decode cX7_man 2 = .ok (.invokevirtual 142, 3) := by decide +kernel
theorem dX7_man_5 : decode cX7_man 5 = .ok (.ifCond .eq 6, 3) := by decide +kernel
theorem dX7_man_8 : decode cX7_man 8 = .ok (.bipush (-2), 2) := by decide +kernel
theorem dX7_man_10 : decode cX7_man 10 = .ok (.ireturn, 1) := by decide +kernel
theorem dX7_man_11 : decode cX7_man 11 = .ok (.iload_n 2, 1) := by decide +kernel
theorem dX7_man_12 : decode cX7_man 12 = .ok (.tableswitch 73 0 3 #[32, 42, 52, 61], 32) := by decide +kernel
theorem dX7_man_44 : decode cX7_man 44 = .ok (.aload_n 0, 1) := by decide +kernel
theorem dX7_man_45 : decode cX7_man 45 = .ok (.getfield 10, 3) := by decide +kernel
theorem dX7_man_48 : decode cX7_man 48 = .ok (.getfield 145, 3) := by decide +kernel
theorem dX7_man_51 : decode cX7_man 51 = .ok (.iload_n 1, 1) := by decide +kernel
theorem dX7_man_52 : decode cX7_man 52 = .ok (.iaload, 1) := by decide +kernel
theorem dX7_man_53 : decode cX7_man 53 = .ok (.ireturn, 1) := by decide +kernel
theorem dX7_man_54 : decode cX7_man 54 = .ok (.aload_n 0, 1) := by decide +kernel
theorem dX7_man_55 : decode cX7_man 55 = .ok (.getfield 10, 3) := by decide +kernel
theorem dX7_man_58 : decode cX7_man 58 = .ok (.getfield 148, 3) := by decide +kernel
theorem dX7_man_61 : decode cX7_man 61 = .ok (.iload_n 1, 1) := by decide +kernel
theorem dX7_man_62 : decode cX7_man 62 = .ok (.iaload, 1) := by decide +kernel
theorem dX7_man_63 : decode cX7_man 63 = .ok (.ireturn, 1) := by decide +kernel
theorem dX7_man_64 : decode cX7_man 64 = .ok (.iload_n 1, 1) := by decide +kernel
theorem dX7_man_65 : decode cX7_man 65 = .ok (.aload_n 0, 1) := by decide +kernel
theorem dX7_man_66 : decode cX7_man 66 = .ok (.getfield 133, 3) := by decide +kernel
theorem dX7_man_69 : decode cX7_man 69 = .ok (.invokestatic 151, 3) := by decide +kernel
theorem dX7_man_72 : decode cX7_man 72 = .ok (.ireturn, 1) := by decide +kernel
theorem dX7_man_73 : decode cX7_man 73 = .ok (.iload_n 1, 1) := by decide +kernel
theorem dX7_man_74 : decode cX7_man 74 = .ok (.aload_n 0, 1) := by decide +kernel
theorem dX7_man_75 : decode cX7_man 75 = .ok (.getfield 10, 3) := by decide +kernel
theorem dX7_man_78 : decode cX7_man 78 = .ok (.getfield 139, 3) := by decide +kernel
theorem dX7_man_81 : decode cX7_man 81 = .ok (.invokestatic 151, 3) := by decide +kernel
theorem dX7_man_84 : decode cX7_man 84 = .ok (.ireturn, 1) := by decide +kernel
theorem dX7_man_85 : decode cX7_man 85 = .ok (.bipush (-3), 2) := by decide +kernel
theorem dX7_man_87 : decode cX7_man 87 = .ok (.ireturn, 1) := by decide +kernel
set_option maxRecDepth 20000 in
theorem ggX7_as_X7_noMan : GoodIn wsX7_as wsX7_noMan := goodIn_r _ [10, 1, 11, 40, 41, 42, 43, 44, 45, 46, 47, 48, 49, 50, 51, 52, 53, 54, 55, 56, 57, 58, 59, 60, 61, 62, 63] (by decide +kernel) (by decide +kernel)
set_option maxRecDepth 20000 in
theorem gX7_as_X7_noMan : GoodIn wsX7_as (wsV RX7 142 RX7 yX7_noMan wsX7_noMan) := goodIn_app (goodIn_of _ (by decide +kernel)) ggX7_as_X7_noMan
set_option maxRecDepth 20000 in
theorem ggX7_as_X7_isSuch : GoodIn wsX7_as wsX7_isSuch := goodIn_r _ [14, 15, 16, 17, 18, 9, 19] (by decide +kernel) (by decide +kernel)
set_option maxRecDepth 20000 in
theorem gX7_as_X7_isSuch : GoodIn wsX7_as (va_wsS RX7 154 yX7_isSuch wsX7_isSuch) := goodIn_app (goodIn_of _ (by decide +kernel)) ggX7_as_X7_isSuch
set_option maxRecDepth 20000 in
theorem ggX7_as_X7_placeOf : GoodIn wsX7_as wsX7_placeOf := goodIn_r _ [22] (by decide +kernel) (by decide +kernel)
set_option maxRecDepth 20000 in
theorem gX7_as_X7_placeOf : GoodIn wsX7_as (va_wsS RX7 151 yX7_placeOf wsX7_placeOf) := goodIn_app (goodIn_of _ (by decide +kernel)) ggX7_as_X7_placeOf
set_option maxRecDepth 20000 in
theorem ggX7_as_X5_taken : GoodIn wsX7_as wsX5_taken := goodIn_r _ [27, 28, 21, 9, 22, 55, 56, 57, 58, 59, 60, 61, 62, 63] (by decide +kernel) (by decide +kernel)
set_option maxRecDepth 20000 in
theorem gX7_as_X5_taken : GoodIn wsX7_as (wsV RX7 158 RX5 yX5_taken wsX5_taken) := goodIn_app (goodIn_of _ (by decide +kernel)) ggX7_as_X5_taken
set_option maxRecDepth 20000 in
theorem ggX7_as_X0_reached : GoodIn wsX7_as wsX0_reached := goodIn_r _ [33, 34, 35, 36, 37, 18, 9, 19, 38, 39, 64] (by decide +kernel) (by decide +kernel)
set_option maxRecDepth 20000 in
theorem gX7_as_X0_reached : GoodIn wsX7_as (wsV RX7 162 RX0 yX0_reached wsX0_reached) := goodIn_app (goodIn_of _ (by decide +kernel)) ggX7_as_X0_reached
theorem dX7_as_0 : decode cX7_as 0 = .ok (.aload_n 0, 1) := by decide +kernel
theorem dX7_as_1 : decode cX7_as 1 = .ok (.iload_n 1, 1) := by decide +kernel
theorem dX7_as_2 : decode cX7_as 2 = .ok (.invokevirtual 142, 3) := by decide +kernel
theorem dX7_as_5 : decode cX7_as 5 = .ok (.ifCond .eq 6, 3) := by decide +kernel
theorem dX7_as_8 : decode cX7_as 8 = .ok (.bipush (-2), 2) := by decide +kernel
theorem dX7_as_10 : decode cX7_as 10 = .ok (.ireturn, 1) := by decide +kernel
theorem dX7_as_11 : decode cX7_as 11 = .ok (.iload_n 2, 1) := by decide +kernel
theorem dX7_as_12 : decode cX7_as 12 = .ok (.ifCond .lt 9, 3) := by decide +kernel
theorem dX7_as_15 : decode cX7_as 15 = .ok (.iload_n 2, 1) := by decide +kernel
theorem dX7_as_16 : decode cX7_as 16 = .ok (.bipush 6, 2) := by decide +kernel
theorem dX7_as_18 : decode cX7_as 18 = .ok (.if_icmp .le 6, 3) := by decide +kernel
theorem dX7_as_21 : decode cX7_as 21 = .ok (.bipush (-3), 2) := by decide +kernel
theorem dX7_as_23 : decode cX7_as 23 = .ok (.ireturn, 1) := by decide +kernel
theorem dX7_as_24 : decode cX7_as 24 = .ok (.aload_n 0, 1) := by decide +kernel
theorem dX7_as_25 : decode cX7_as 25 = .ok (.getfield 10, 3) := by decide +kernel
theorem dX7_as_28 : decode cX7_as 28 = .ok (.getfield 145, 3) := by decide +kernel
theorem dX7_as_31 : decode cX7_as 31 = .ok (.iload_n 1, 1) := by decide +kernel
theorem dX7_as_32 : decode cX7_as 32 = .ok (.iaload, 1) := by decide +kernel
theorem dX7_as_33 : decode cX7_as 33 = .ok (.iload_n 2, 1) := by decide +kernel
theorem dX7_as_34 : decode cX7_as 34 = .ok (.invokestatic 154, 3) := by decide +kernel
theorem dX7_as_37 : decode cX7_as 37 = .ok (.ifCond .ne 6, 3) := by decide +kernel
theorem dX7_as_40 : decode cX7_as 40 = .ok (.bipush (-4), 2) := by decide +kernel
theorem dX7_as_42 : decode cX7_as 42 = .ok (.ireturn, 1) := by decide +kernel
theorem dX7_as_43 : decode cX7_as 43 = .ok (.aload_n 0, 1) := by decide +kernel
theorem dX7_as_44 : decode cX7_as 44 = .ok (.getfield 35, 3) := by decide +kernel
theorem dX7_as_47 : decode cX7_as 47 = .ok (.aload_n 0, 1) := by decide +kernel
theorem dX7_as_48 : decode cX7_as 48 = .ok (.getfield 10, 3) := by decide +kernel
theorem dX7_as_51 : decode cX7_as 51 = .ok (.getfield 145, 3) := by decide +kernel
theorem dX7_as_54 : decode cX7_as 54 = .ok (.iload_n 1, 1) := by decide +kernel
theorem dX7_as_55 : decode cX7_as 55 = .ok (.iaload, 1) := by decide +kernel
theorem dX7_as_56 : decode cX7_as 56 = .ok (.iload_n 1, 1) := by decide +kernel
theorem dX7_as_57 : decode cX7_as 57 = .ok (.aload_n 0, 1) := by decide +kernel
theorem dX7_as_58 : decode cX7_as 58 = .ok (.getfield 133, 3) := by decide +kernel
theorem dX7_as_61 : decode cX7_as 61 = .ok (.invokestatic 151, 3) := by decide +kernel
theorem dX7_as_64 : decode cX7_as 64 = .ok (.aload_n 0, 1) := by decide +kernel
theorem dX7_as_65 : decode cX7_as 65 = .ok (.getfield 10, 3) := by decide +kernel
theorem dX7_as_68 : decode cX7_as 68 = .ok (.getfield 126, 3) := by decide +kernel
theorem dX7_as_71 : decode cX7_as 71 = .ok (.aload_n 0, 1) := by decide +kernel
theorem dX7_as_72 : decode cX7_as 72 = .ok (.getfield 10, 3) := by decide +kernel
theorem dX7_as_75 : decode cX7_as 75 = .ok (.aload_n 0, 1) := by decide +kernel
theorem dX7_as_76 : decode cX7_as 76 = .ok (.getfield 133, 3) := by decide +kernel
theorem dX7_as_79 : decode cX7_as 79 = .ok (.invokevirtual 158, 3) := by decide +kernel
theorem dX7_as_82 : decode cX7_as 82 = .ok (.invokevirtual 162, 3) := by decide +kernel
theorem dX7_as_85 : decode cX7_as 85 = .ok (.ireturn, 1) := by decide +kernel
set_option maxRecDepth 20000 in
theorem ggX7_may_X7_noMan : GoodIn wsX7_may wsX7_noMan := goodIn_r _ [10, 4, 11, 58, 59, 60, 61, 62, 63, 64, 65, 66, 67, 68, 69, 70, 71, 72, 73, 74, 75, 76, 77, 78, 79, 80, 81] (by decide +kernel) (by decide +kernel)
set_option maxRecDepth 20000 in
theorem gX7_may_X7_noMan : GoodIn wsX7_may (wsV RX7 142 RX7 yX7_noMan wsX7_noMan) := goodIn_app (goodIn_of _ (by decide +kernel)) ggX7_may_X7_noMan
set_option maxRecDepth 20000 in
theorem ggX7_may_X1_allowed : GoodIn wsX7_may wsX1_allowed := goodIn_r _ [16, 17, 18, 19, 15, 20, 21, 22, 23, 24, 25, 26, 27, 28, 29, 30, 31, 32, 9, 33, 34, 35, 36, 37, 38, 39, 40, 41, 42, 43, 44, 45, 46, 47, 48, 49, 50, 51, 52, 53, 54, 55, 56, 57, 82, 83, 73, 74, 75, 76, 77, 78, 79, 80, 81, 84] (by decide +kernel) (by decide +kernel)
set_option maxRecDepth 20000 in
theorem gX7_may_X1_allowed : GoodIn wsX7_may (wsV RX7 169 RX1 yX1_allowed wsX1_allowed) := goodIn_app (goodIn_of _ (by decide +kernel)) ggX7_may_X1_allowed
theorem dX7_may_0 : decode cX7_may 0 = .ok (.aload_n 0, 1) := by decide +kernel
theorem dX7_may_1 : decode cX7_may 1 = .ok (.iload_n 1, 1) := by decide +kernel
theorem dX7_may_2 : decode cX7_may 2 = .ok (.invokevirtual 142, 3) := by decide +kernel
theorem dX7_may_5 : decode cX7_may 5 = .ok (.ifCond .eq 6, 3) := by decide +kernel
theorem dX7_may_8 : decode cX7_may 8 = .ok (.bipush (-2), 2) := by decide +kernel
theorem dX7_may_10 : decode cX7_may 10 = .ok (.ireturn, 1) := by decide +kernel
theorem dX7_may_11 : decode cX7_may 11 = .ok (.aload_n 0, 1) := by decide +kernel
theorem dX7_may_12 : decode cX7_may 12 = .ok (.getfield 44, 3) := by decide +kernel
theorem dX7_may_15 : decode cX7_may 15 = .ok (.iload_n 1, 1) := by decide +kernel
theorem dX7_may_16 : decode cX7_may 16 = .ok (.aload_n 0, 1) := by decide +kernel
theorem dX7_may_17 : decode cX7_may 17 = .ok (.getfield 133, 3) := by decide +kernel
theorem dX7_may_20 : decode cX7_may 20 = .ok (.aload_n 0, 1) := by decide +kernel
theorem dX7_may_21 : decode cX7_may 21 = .ok (.getfield 166, 3) := by decide +kernel
theorem dX7_may_24 : decode cX7_may 24 = .ok (.aload_n 0, 1) := by decide +kernel
theorem dX7_may_25 : decode cX7_may 25 = .ok (.getfield 10, 3) := by decide +kernel
theorem dX7_may_28 : decode cX7_may 28 = .ok (.getfield 126, 3) := by decide +kernel
theorem dX7_may_31 : decode cX7_may 31 = .ok (.invokevirtual 169, 3) := by decide +kernel
theorem dX7_may_34 : decode cX7_may 34 = .ok (.ireturn, 1) := by decide +kernel
set_option maxRecDepth 20000 in
theorem ggX7_hop_X7_noMan : GoodIn wsX7_hop wsX7_noMan := goodIn_r _ [10, 4, 11, 70, 71, 72, 73, 74, 75, 76, 77, 78, 79, 80, 81, 82, 83, 84, 85, 86, 87, 88, 89, 90, 91, 92, 93] (by decide +kernel) (by decide +kernel)
set_option maxRecDepth 20000 in
theorem gX7_hop_X7_noMan : GoodIn wsX7_hop (wsV RX7 142 RX7 yX7_noMan wsX7_noMan) := goodIn_app (goodIn_of _ (by decide +kernel)) ggX7_hop_X7_noMan
