set_option maxRecDepth 20000 in
theorem ggX7_hop_X7_noSquare : GoodIn wsX7_hop wsX7_noSquare := goodIn_r _ [15, 4, 16, 17, 18, 19, 20, 21, 22, 70, 71, 72, 73, 74, 75, 76, 77, 78, 79, 80, 81, 82, 83, 84, 85, 86, 87, 88, 89, 90, 91, 92, 93] (by decide +kernel) (by decide +kernel)
set_option maxRecDepth 20000 in
theorem gX7_hop_X7_noSquare : GoodIn wsX7_hop (wsV RX7 122 RX7 yX7_noSquare wsX7_noSquare) := goodIn_app (goodIn_of _ (by decide +kernel)) ggX7_hop_X7_noSquare
set_option maxRecDepth 20000 in
theorem ggX7_hop_X1_allowed : GoodIn wsX7_hop wsX1_allowed := goodIn_r _ [27, 28, 29, 30, 26, 31, 32, 33, 34, 35, 36, 37, 38, 39, 19, 40, 41, 42, 9, 43, 44, 45, 46, 47, 48, 49, 50, 51, 52, 53, 54, 55, 56, 57, 58, 59, 60, 61, 62, 63, 64, 65, 66, 67, 94, 95, 85, 86, 87, 88, 89, 90, 91, 92, 93, 96] (by decide +kernel) (by decide +kernel)
set_option maxRecDepth 20000 in
theorem gX7_hop_X1_allowed : GoodIn wsX7_hop (wsV RX7 169 RX1 yX1_allowed wsX1_allowed) := goodIn_app (goodIn_of _ (by decide +kernel)) ggX7_hop_X1_allowed
set_option maxRecDepth 20000 in
theorem ggX7_hop_X7_bit : GoodIn wsX7_hop wsX7_bit := goodIn_r _ [56] (by decide +kernel) (by decide +kernel)
set_option maxRecDepth 20000 in
theorem gX7_hop_X7_bit : GoodIn wsX7_hop (va_wsS RX7 129 yX7_bit wsX7_bit) := goodIn_app (goodIn_of _ (by decide +kernel)) ggX7_hop_X7_bit
set_option maxRecDepth 20000 in
theorem ggX7_hop_X7_moved : GoodIn wsX7_hop wsX7_moved := goodIn_r _ [58] (by decide +kernel) (by decide +kernel)
set_option maxRecDepth 20000 in
theorem gX7_hop_X7_moved : GoodIn wsX7_hop (va_wsS RX7 172 yX7_moved wsX7_moved) := goodIn_app (goodIn_of _ (by decide +kernel)) ggX7_hop_X7_moved
theorem dX7_hop_0 : decode cX7_hop 0 = .ok (.aload_n 0, 1) := by decide +kernel
theorem dX7_hop_1 : decode cX7_hop 1 = .ok (.iload_n 1, 1) := by decide +kernel
theorem dX7_hop_2 : decode cX7_hop 2 = .ok (.invokevirtual 142, 3) := by decide +kernel
theorem dX7_hop_5 : decode cX7_hop 5 = .ok (.ifCond .ne 11, 3) := by decide +kernel
theorem dX7_hop_8 : decode cX7_hop 8 = .ok (.aload_n 0, 1) := by decide +kernel
theorem dX7_hop_9 : decode cX7_hop 9 = .ok (.iload_n 2, 1) := by decide +kernel
theorem dX7_hop_10 : decode cX7_hop 10 = .ok (.invokevirtual 122, 3) := by decide +kernel
theorem dX7_hop_13 : decode cX7_hop 13 = .ok (.ifCond .eq 6, 3) := by decide +kernel
theorem dX7_hop_16 : decode cX7_hop 16 = .ok (.bipush (-2), 2) := by decide +kernel
theorem dX7_hop_18 : decode cX7_hop 18 = .ok (.ireturn, 1) := by decide +kernel
theorem dX7_hop_19 : decode cX7_hop 19 = .ok (.aload_n 0, 1) := by decide +kernel
theorem dX7_hop_20 : decode cX7_hop 20 = .ok (.getfield 44, 3) := by decide +kernel
theorem dX7_hop_23 : decode cX7_hop 23 = .ok (.iload_n 1, 1) := by decide +kernel
theorem dX7_hop_24 : decode cX7_hop 24 = .ok (.aload_n 0, 1) := by decide +kernel
theorem dX7_hop_25 : decode cX7_hop 25 = .ok (.getfield 133, 3) := by decide +kernel
theorem dX7_hop_28 : decode cX7_hop 28 = .ok (.aload_n 0, 1) := by decide +kernel
theorem dX7_hop_29 : decode cX7_hop 29 = .ok (.getfield 166, 3) := by decide +kernel
theorem dX7_hop_32 : decode cX7_hop 32 = .ok (.aload_n 0, 1) := by decide +kernel
theorem dX7_hop_33 : decode cX7_hop 33 = .ok (.getfield 10, 3) := by decide +kernel
theorem dX7_hop_36 : decode cX7_hop 36 = .ok (.getfield 126, 3) := by decide +kernel
theorem dX7_hop_39 : decode cX7_hop 39 = .ok (.invokevirtual 169, 3) := by decide +kernel
theorem dX7_hop_42 : decode cX7_hop 42 = .ok (.iload_n 2, 1) := by decide +kernel
theorem dX7_hop_43 : decode cX7_hop 43 = .ok (.invokestatic 129, 3) := by decide +kernel
theorem dX7_hop_46 : decode cX7_hop 46 = .ok (.ifCond .ne 6, 3) := by decide +kernel
theorem dX7_hop_49 : decode cX7_hop 49 = .ok (.bipush (-4), 2) := by decide +kernel
theorem dX7_hop_51 : decode cX7_hop 51 = .ok (.ireturn, 1) := by decide +kernel
theorem dX7_hop_52 : decode cX7_hop 52 = .ok (.aload_n 0, 1) := by decide +kernel
theorem dX7_hop_53 : decode cX7_hop 53 = .ok (.getfield 166, 3) := by decide +kernel
theorem dX7_hop_56 : decode cX7_hop 56 = .ok (.sipush 9999, 3) := by decide +kernel
theorem dX7_hop_59 : decode cX7_hop 59 = .ok (.if_icmp .lt 6, 3) := by decide +kernel
theorem dX7_hop_62 : decode cX7_hop 62 = .ok (.bipush (-5), 2) := by decide +kernel
theorem dX7_hop_64 : decode cX7_hop 64 = .ok (.ireturn, 1) := by decide +kernel
theorem dX7_hop_65 : decode cX7_hop 65 = .ok (.aload_n 0, 1) := by decide +kernel
theorem dX7_hop_66 : decode cX7_hop 66 = .ok (.aload_n 0, 1) := by decide +kernel
theorem dX7_hop_67 : decode cX7_hop 67 = .ok (.getfield 133, 3) := by decide +kernel
theorem dX7_hop_70 : decode cX7_hop 70 = .ok (.iload_n 1, 1) := by decide +kernel
theorem dX7_hop_71 : decode cX7_hop 71 = .ok (.iload_n 2, 1) := by decide +kernel
theorem dX7_hop_72 : decode cX7_hop 72 = .ok (.invokestatic 172, 3) := by decide +kernel
theorem dX7_hop_75 : decode cX7_hop 75 = .ok (.putfield 133, 3) := by decide +kernel
theorem dX7_hop_78 : decode cX7_hop 78 = .ok (.aload_n 0, 1) := by decide +kernel
theorem dX7_hop_79 : decode cX7_hop 79 = .ok (.dup, 1) := by decide +kernel
theorem dX7_hop_80 : decode cX7_hop 80 = .ok (.getfield 166, 3) := by decide +kernel
theorem dX7_hop_83 : decode cX7_hop 83 = .ok (.iconst 1, 1) := by decide +kernel
theorem dX7_hop_84 : decode cX7_hop 84 = .ok (.iadd, 1) := by decide +kernel
theorem dX7_hop_85 : decode cX7_hop 85 = .ok (.putfield 166, 3) := by decide +kernel
theorem dX7_hop_88 : decode cX7_hop 88 = .ok (.aload_n 0, 1) := by decide +kernel
theorem dX7_hop_89 : decode cX7_hop 89 = .ok (.getfield 166, 3) := by decide +kernel
theorem dX7_hop_92 : decode cX7_hop 92 = .ok (.ireturn, 1) := by decide +kernel
set_option maxRecDepth 20000 in
theorem ggX7_attacked_X1_attackedMen : GoodIn wsX7_attacked wsX1_attackedMen := goodIn_r _ [9, 10, 11, 12, 13, 14, 15, 16, 17, 18, 19, 20, 21, 22, 23, 24, 25, 26, 27, 28, 29, 30, 31, 32, 33, 34, 35, 36, 61, 62, 52, 53, 54, 55, 56, 57, 58, 59, 60, 63] (by decide +kernel) (by decide +kernel)
set_option maxRecDepth 20000 in
theorem gX7_attacked_X1_attackedMen : GoodIn wsX7_attacked (wsV RX7 176 RX1 yX1_attackedMen wsX1_attackedMen) := goodIn_app (goodIn_of _ (by decide +kernel)) ggX7_attacked_X1_attackedMen
theorem dX7_attacked_0 : decode cX7_attacked 0 = .ok (.aload_n 0, 1) := by decide +kernel
theorem dX7_attacked_1 : decode cX7_attacked 1 = .ok (.getfield 44, 3) := by decide +kernel
theorem dX7_attacked_4 : decode cX7_attacked 4 = .ok (.aload_n 0, 1) := by decide +kernel
theorem dX7_attacked_5 : decode cX7_attacked 5 = .ok (.getfield 133, 3) := by decide +kernel
theorem dX7_attacked_8 : decode cX7_attacked 8 = .ok (.aload_n 0, 1) := by decide +kernel
theorem dX7_attacked_9 : decode cX7_attacked 9 = .ok (.getfield 10, 3) := by decide +kernel
theorem dX7_attacked_12 : decode cX7_attacked 12 = .ok (.getfield 126, 3) := by decide +kernel
theorem dX7_attacked_15 : decode cX7_attacked 15 = .ok (.invokevirtual 176, 3) := by decide +kernel
theorem dX7_attacked_18 : decode cX7_attacked 18 = .ok (.ireturn, 1) := by decide +kernel
theorem dX7_keep_0 : decode cX7_keep 0 = .ok (.iload_n 1, 1) := by decide +kernel
theorem dX7_keep_1 : decode cX7_keep 1 = .ok (.ifCond .lt 8, 3) := by decide +kernel
theorem dX7_keep_4 : decode cX7_keep 4 = .ok (.iload_n 1, 1) := by decide +kernel
theorem dX7_keep_5 : decode cX7_keep 5 = .ok (.iconst 2, 1) := by decide +kernel
theorem dX7_keep_6 : decode cX7_keep 6 = .ok (.if_icmp .lt 6, 3) := by decide +kernel
theorem dX7_keep_9 : decode cX7_keep 9 = .ok (.bipush (-2), 2) := by decide +kernel
theorem dX7_keep_11 : decode cX7_keep 11 = .ok (.ireturn, 1) := by decide +kernel
theorem dX7_keep_12 : decode cX7_keep 12 = .ok (.aload_n 0, 1) := by decide +kernel
theorem dX7_keep_13 : decode cX7_keep 13 = .ok (.getfield 66, 3) := by decide +kernel
theorem dX7_keep_16 : decode cX7_keep 16 = .ok (.iload_n 1, 1) := by decide +kernel
theorem dX7_keep_17 : decode cX7_keep 17 = .ok (.aload_n 0, 1) := by decide +kernel
theorem dX7_keep_18 : decode cX7_keep 18 = .ok (.getfield 133, 3) := by decide +kernel
theorem dX7_keep_21 : decode cX7_keep 21 = .ok (.iastore, 1) := by decide +kernel
theorem dX7_keep_22 : decode cX7_keep 22 = .ok (.aload_n 0, 1) := by decide +kernel
theorem dX7_keep_23 : decode cX7_keep 23 = .ok (.getfield 70, 3) := by decide +kernel
theorem dX7_keep_26 : decode cX7_keep 26 = .ok (.iload_n 1, 1) := by decide +kernel
theorem dX7_keep_27 : decode cX7_keep 27 = .ok (.aload_n 0, 1) := by decide +kernel
theorem dX7_keep_28 : decode cX7_keep 28 = .ok (.getfield 166, 3) := by decide +kernel
theorem dX7_keep_31 : decode cX7_keep 31 = .ok (.iastore, 1) := by decide +kernel
theorem dX7_keep_32 : decode cX7_keep 32 = .ok (.aload_n 0, 1) := by decide +kernel
theorem dX7_keep_33 : decode cX7_keep 33 = .ok (.getfield 73, 3) := by decide +kernel
theorem dX7_keep_36 : decode cX7_keep 36 = .ok (.iload_n 1, 1) := by decide +kernel
theorem dX7_keep_37 : decode cX7_keep 37 = .ok (.iconst 1, 1) := by decide +kernel
theorem dX7_keep_38 : decode cX7_keep 38 = .ok (.bastore, 1) := by decide +kernel
theorem dX7_keep_39 : decode cX7_keep 39 = .ok (.aload_n 0, 1) := by decide +kernel
theorem dX7_keep_40 : decode cX7_keep 40 = .ok (.getfield 166, 3) := by decide +kernel
theorem dX7_keep_43 : decode cX7_keep 43 = .ok (.ireturn, 1) := by decide +kernel
theorem dX7_back_0 : decode cX7_back 0 = .ok (.iload_n 1, 1) := by decide +kernel
theorem dX7_back_1 : decode cX7_back 1 = .ok (.ifCond .lt 8, 3) := by decide +kernel
theorem dX7_back_4 : decode cX7_back 4 = .ok (.iload_n 1, 1) := by decide +kernel
theorem dX7_back_5 : decode cX7_back 5 = .ok (.iconst 2, 1) := by decide +kernel
theorem dX7_back_6 : decode cX7_back 6 = .ok (.if_icmp .lt 6, 3) := by decide +kernel
theorem dX7_back_9 : decode cX7_back 9 = .ok (.bipush (-2), 2) := by decide +kernel
theorem dX7_back_11 : decode cX7_back 11 = .ok (.ireturn, 1) := by decide +kernel
theorem dX7_back_12 : decode cX7_back 12 = .ok (.aload_n 0, 1) := by decide +kernel
theorem dX7_back_13 : decode cX7_back 13 = .ok (.getfield 73, 3) := by decide +kernel
theorem dX7_back_16 : decode cX7_back 16 = .ok (.iload_n 1, 1) := by decide +kernel
theorem dX7_back_17 : decode cX7_back 17 = .ok (.baload, 1) := by decide +kernel
theorem dX7_back_18 : decode cX7_back 18 = .ok (.ifCond .ne 6, 3) := by decide +kernel
theorem dX7_back_21 : decode cX7_back 21 = .ok (.bipush (-4), 2) := by decide +kernel
theorem dX7_back_23 : decode cX7_back 23 = .ok (.ireturn, 1) := by decide +kernel
theorem dX7_back_24 : decode cX7_back 24 = .ok (.aload_n 0, 1) := by decide +kernel
theorem dX7_back_25 : decode cX7_back 25 = .ok (.aload_n 0, 1) := by decide +kernel
theorem dX7_back_26 : decode cX7_back 26 = .ok (.getfield 66, 3) := by decide +kernel
theorem dX7_back_29 : decode cX7_back 29 = .ok (.iload_n 1, 1) := by decide +kernel
theorem dX7_back_30 : decode cX7_back 30 = .ok (.iaload, 1) := by decide +kernel
theorem dX7_back_31 : decode cX7_back 31 = .ok (.putfield 133, 3) := by decide +kernel
theorem dX7_back_34 : decode cX7_back 34 = .ok (.aload_n 0, 1) := by decide +kernel
theorem dX7_back_35 : decode cX7_back 35 = .ok (.aload_n 0, 1) := by decide +kernel
theorem dX7_back_36 : decode cX7_back 36 = .ok (.getfield 70, 3) := by decide +kernel
theorem dX7_back_39 : decode cX7_back 39 = .ok (.iload_n 1, 1) := by decide +kernel
theorem dX7_back_40 : decode cX7_back 40 = .ok (.iaload, 1) := by decide +kernel
theorem dX7_back_41 : decode cX7_back 41 = .ok (.putfield 166, 3) := by decide +kernel
theorem dX7_back_44 : decode cX7_back 44 = .ok (.aload_n 0, 1) := by decide +kernel
theorem dX7_back_45 : decode cX7_back 45 = .ok (.getfield 166, 3) := by decide +kernel
theorem dX7_back_48 : decode cX7_back 48 = .ok (.ireturn, 1) := by decide +kernel
set_option maxRecDepth 20000 in
theorem ggX7_net_X7_noSquare : GoodIn wsX7_net wsX7_noSquare := goodIn_r _ [9, 2, 10, 11, 12, 13, 14, 15, 16, 39, 40, 41, 42, 43, 44, 45, 46, 47, 48, 49, 50, 51, 52, 53, 54, 55, 56, 57, 58, 59, 60, 61, 62] (by decide +kernel) (by decide +kernel)
set_option maxRecDepth 20000 in
theorem gX7_net_X7_noSquare : GoodIn wsX7_net (wsV RX7 122 RX7 yX7_noSquare wsX7_noSquare) := goodIn_app (goodIn_of _ (by decide +kernel)) ggX7_net_X7_noSquare
set_option maxRecDepth 20000 in
theorem ggX7_net_X7_noKind : GoodIn wsX7_net wsX7_noKind := goodIn_r _ [19] (by decide +kernel) (by decide +kernel)
set_option maxRecDepth 20000 in
theorem gX7_net_X7_noKind : GoodIn wsX7_net (va_wsS RX7 179 yX7_noKind wsX7_noKind) := goodIn_app (goodIn_of _ (by decide +kernel)) ggX7_net_X7_noKind
set_option maxRecDepth 20000 in
theorem ggX7_net_X2_knot : GoodIn wsX7_net wsX2_knot := goodIn_r _ [24, 25, 26, 27, 28, 8, 29, 30, 31, 32, 33, 34, 35, 36, 37, 38, 18, 19, 63, 64, 65, 66] (by decide +kernel) (by decide +kernel)
set_option maxRecDepth 20000 in
theorem gX7_net_X2_knot : GoodIn wsX7_net (wsV RX7 182 RX2 yX2_knot wsX2_knot) := goodIn_app (goodIn_of _ (by decide +kernel)) ggX7_net_X2_knot
theorem dX7_net_0 : decode cX7_net 0 = .ok (.aload_n 0, 1) := by decide +kernel
theorem dX7_net_1 : decode cX7_net 1 = .ok (.iload_n 2, 1) := by decide +kernel
theorem dX7_net_2 : decode cX7_net 2 = .ok (.invokevirtual 122, 3) := by decide +kernel
theorem dX7_net_5 : decode cX7_net 5 = .ok (.ifCond .eq 6, 3) := by decide +kernel
theorem dX7_net_8 : decode cX7_net 8 = .ok (.bipush (-2), 2) := by decide +kernel
theorem dX7_net_10 : decode cX7_net 10 = .ok (.ireturn, 1) := by decide +kernel
theorem dX7_net_11 : decode cX7_net 11 = .ok (.iload_n 1, 1) := by decide +kernel
theorem dX7_net_12 : decode cX7_net 12 = .ok (.invokestatic 179, 3) := by decide +kernel
theorem dX7_net_15 : decode cX7_net 15 = .ok (.ifCond .eq 6, 3) := by decide +kernel
theorem dX7_net_18 : decode cX7_net 18 = .ok (.bipush (-3), 2) := by decide +kernel
theorem dX7_net_20 : decode cX7_net 20 = .ok (.ireturn, 1) := by decide +kernel
theorem dX7_net_21 : decode cX7_net 21 = .ok (.aload_n 0, 1) := by decide +kernel
theorem dX7_net_22 : decode cX7_net 22 = .ok (.getfield 53, 3) := by decide +kernel
theorem dX7_net_25 : decode cX7_net 25 = .ok (.iload_n 1, 1) := by decide +kernel
theorem dX7_net_26 : decode cX7_net 26 = .ok (.aload_n 0, 1) := by decide +kernel
theorem dX7_net_27 : decode cX7_net 27 = .ok (.getfield 10, 3) := by decide +kernel
theorem dX7_net_30 : decode cX7_net 30 = .ok (.getfield 126, 3) := by decide +kernel
theorem dX7_net_33 : decode cX7_net 33 = .ok (.invokevirtual 182, 3) := by decide +kernel
theorem dX7_net_36 : decode cX7_net 36 = .ok (.aload_n 0, 1) := by decide +kernel
theorem dX7_net_37 : decode cX7_net 37 = .ok (.getfield 53, 3) := by decide +kernel
theorem dX7_net_40 : decode cX7_net 40 = .ok (.getfield 185, 3) := by decide +kernel
theorem dX7_net_43 : decode cX7_net 43 = .ok (.iload_n 2, 1) := by decide +kernel
theorem dX7_net_44 : decode cX7_net 44 = .ok (.iaload, 1) := by decide +kernel
theorem dX7_net_45 : decode cX7_net 45 = .ok (.ireturn, 1) := by decide +kernel
set_option maxRecDepth 20000 in
theorem ggX7_part_X7_noSquare : GoodIn wsX7_part wsX7_noSquare := goodIn_r _ [8, 2, 9, 10, 11, 12, 13, 14, 15, 42, 43, 44, 45, 46, 47, 48, 49, 50, 51, 52, 53, 54, 55, 56, 57, 58, 59, 60, 61, 62, 63, 64, 65] (by decide +kernel) (by decide +kernel)
set_option maxRecDepth 20000 in
theorem gX7_part_X7_noSquare : GoodIn wsX7_part (wsV RX7 122 RX7 yX7_noSquare wsX7_noSquare) := goodIn_app (goodIn_of _ (by decide +kernel)) ggX7_part_X7_noSquare
set_option maxRecDepth 20000 in
theorem ggX7_part_X7_noKind : GoodIn wsX7_part wsX7_noKind := goodIn_r _ [18] (by decide +kernel) (by decide +kernel)
set_option maxRecDepth 20000 in
theorem gX7_part_X7_noKind : GoodIn wsX7_part (va_wsS RX7 179 yX7_noKind wsX7_noKind) := goodIn_app (goodIn_of _ (by decide +kernel)) ggX7_part_X7_noKind
set_option maxRecDepth 20000 in
theorem ggX7_part_X2_knot : GoodIn wsX7_part wsX2_knot := goodIn_r _ [23, 24, 25, 26, 27, 7, 28, 29, 30, 31, 32, 33, 34, 35, 36, 37, 17, 18, 66, 67, 68, 69] (by decide +kernel) (by decide +kernel)
set_option maxRecDepth 20000 in
theorem gX7_part_X2_knot : GoodIn wsX7_part (wsV RX7 182 RX2 yX2_knot wsX2_knot) := goodIn_app (goodIn_of _ (by decide +kernel)) ggX7_part_X2_knot
set_option maxRecDepth 20000 in
theorem ggX7_part_X2_partAt : GoodIn wsX7_part wsX2_partAt := goodIn_r _ [41, 24, 25, 27, 7, 28, 66, 67, 68] (by decide +kernel) (by decide +kernel)
set_option maxRecDepth 20000 in
theorem gX7_part_X2_partAt : GoodIn wsX7_part (wsV RX7 188 RX2 yX2_partAt wsX2_partAt) := goodIn_app (goodIn_of _ (by decide +kernel)) ggX7_part_X2_partAt
theorem dX7_part_0 : decode cX7_part 0 = .ok (.aload_n 0, 1) := by decide +kernel
theorem dX7_part_1 : decode cX7_part 1 = .ok (.iload_n 2, 1) := by decide +kernel
theorem dX7_part_2 : decode cX7_part 2 = .ok (.invokevirtual 122, 3) := by decide +kernel
theorem dX7_part_5 : decode cX7_part 5 = .ok (.ifCond .eq 6, 3) := by decide +kernel
theorem dX7_part_8 : decode cX7_part 8 = .ok (.bipush (-2), 2) := by decide +kernel
theorem dX7_part_10 : decode cX7_part 10 = .ok (.ireturn, 1) := by decide +kernel
theorem dX7_part_11 : decode cX7_part 11 = .ok (.iload_n 1, 1) := by decide +kernel
theorem dX7_part_12 : decode cX7_part 12 = .ok (.invokestatic 179, 3) := by decide +kernel
theorem dX7_part_15 : decode cX7_part 15 = .ok (.ifCond .eq 6, 3) := by decide +kernel
theorem dX7_part_18 : decode cX7_part 18 = .ok (.bipush (-3), 2) := by decide +kernel
theorem dX7_part_20 : decode cX7_part 20 = .ok (.ireturn, 1) := by decide +kernel
theorem dX7_part_21 : decode cX7_part 21 = .ok (.aload_n 0, 1) := by decide +kernel
theorem dX7_part_22 : decode cX7_part 22 = .ok (.getfield 53, 3) := by decide +kernel
theorem dX7_part_25 : decode cX7_part 25 = .ok (.iload_n 1, 1) := by decide +kernel
theorem dX7_part_26 : decode cX7_part 26 = .ok (.aload_n 0, 1) := by decide +kernel
theorem dX7_part_27 : decode cX7_part 27 = .ok (.getfield 10, 3) := by decide +kernel
theorem dX7_part_30 : decode cX7_part 30 = .ok (.getfield 126, 3) := by decide +kernel
theorem dX7_part_33 : decode cX7_part 33 = .ok (.invokevirtual 182, 3) := by decide +kernel
theorem dX7_part_36 : decode cX7_part 36 = .ok (.aload_n 0, 1) := by decide +kernel
theorem dX7_part_37 : decode cX7_part 37 = .ok (.getfield 53, 3) := by decide +kernel
theorem dX7_part_40 : decode cX7_part 40 = .ok (.iload_n 2, 1) := by decide +kernel
theorem dX7_part_41 : decode cX7_part 41 = .ok (.invokevirtual 188, 3) := by decide +kernel
theorem dX7_part_44 : decode cX7_part 44 = .ok (.ireturn, 1) := by decide +kernel
set_option maxRecDepth 20000 in
theorem ggX7_shape_X7_noSquare : GoodIn wsX7_shape wsX7_noSquare := goodIn_r _ [8, 1, 9, 10, 11, 12, 13, 14, 15, 62, 63, 64, 65, 66, 67, 68, 69, 70, 71, 72, 73, 74, 75, 76, 77, 78, 79, 80, 81, 82, 83, 84, 85] (by decide +kernel) (by decide +kernel)
set_option maxRecDepth 20000 in
theorem gX7_shape_X7_noSquare : GoodIn wsX7_shape (wsV RX7 122 RX7 yX7_noSquare wsX7_noSquare) := goodIn_app (goodIn_of _ (by decide +kernel)) ggX7_shape_X7_noSquare
set_option maxRecDepth 20000 in
theorem ggX7_shape_X7_noKind : GoodIn wsX7_shape wsX7_noKind := goodIn_r _ [18] (by decide +kernel) (by decide +kernel)
set_option maxRecDepth 20000 in
theorem gX7_shape_X7_noKind : GoodIn wsX7_shape (va_wsS RX7 179 yX7_noKind wsX7_noKind) := goodIn_app (goodIn_of _ (by decide +kernel)) ggX7_shape_X7_noKind
set_option maxRecDepth 20000 in
theorem ggX7_shape_X7_bit : GoodIn wsX7_shape wsX7_bit := goodIn_r _ [21] (by decide +kernel) (by decide +kernel)
set_option maxRecDepth 20000 in
theorem gX7_shape_X7_bit : GoodIn wsX7_shape (va_wsS RX7 129 yX7_bit wsX7_bit) := goodIn_app (goodIn_of _ (by decide +kernel)) ggX7_shape_X7_bit
set_option maxRecDepth 20000 in
theorem ggX7_shape_X2_knot : GoodIn wsX7_shape wsX2_knot := goodIn_r _ [26, 27, 28, 29, 20, 7, 21, 30, 31, 32, 33, 34, 35, 36, 37, 38, 17, 18, 86, 87, 88, 89] (by decide +kernel) (by decide +kernel)
set_option maxRecDepth 20000 in
theorem gX7_shape_X2_knot : GoodIn wsX7_shape (wsV RX7 182 RX2 yX2_knot wsX2_knot) := goodIn_app (goodIn_of _ (by decide +kernel)) ggX7_shape_X2_knot
set_option maxRecDepth 20000 in
theorem ggX7_shape_X2_partAt : GoodIn wsX7_shape wsX2_partAt := goodIn_r _ [42, 27, 28, 20, 7, 21, 86, 87, 88] (by decide +kernel) (by decide +kernel)
set_option maxRecDepth 20000 in
theorem gX7_shape_X2_partAt : GoodIn wsX7_shape (wsV RX7 188 RX2 yX2_partAt wsX2_partAt) := goodIn_app (goodIn_of _ (by decide +kernel)) ggX7_shape_X2_partAt
set_option maxRecDepth 20000 in
theorem ggX7_shape_X2_shapeOf : GoodIn wsX7_shape wsX2_shapeOf := goodIn_r _ [46, 47, 48, 49, 50, 51, 52, 53, 54, 55, 56, 25, 57, 28, 20, 7, 21, 58, 59, 60, 61, 86, 87, 88] (by decide +kernel) (by decide +kernel)
set_option maxRecDepth 20000 in
theorem gX7_shape_X2_shapeOf : GoodIn wsX7_shape (wsV RX7 191 RX2 yX2_shapeOf wsX2_shapeOf) := goodIn_app (goodIn_of _ (by decide +kernel)) ggX7_shape_X2_shapeOf
theorem dX7_shape_0 : decode cX7_shape 0 = .ok (.aload_n 0, 1) := by decide +kernel
theorem dX7_shape_1 : decode cX7_shape 1 = .ok (.iload_n 2, 1) := by decide +kernel
theorem dX7_shape_2 : decode cX7_shape 2 = .ok (.invokevirtual 122, 3) := by decide +kernel
theorem dX7_shape_5 : decode cX7_shape 5 = .ok (.ifCond .eq 6, 3) := by decide +kernel
theorem dX7_shape_8 : decode cX7_shape 8 = .ok (.bipush (-2), 2) := by decide +kernel
theorem dX7_shape_10 : decode cX7_shape 10 = .ok (.ireturn, 1) := by decide +kernel
theorem dX7_shape_11 : decode cX7_shape 11 = .ok (.iload_n 1, 1) := by decide +kernel
theorem dX7_shape_12 : decode cX7_shape 12 = .ok (.invokestatic 179, 3) := by decide +kernel
theorem dX7_shape_15 : decode cX7_shape 15 = .ok (.ifCond .eq 6, 3) := by decide +kernel
theorem dX7_shape_18 : decode cX7_shape 18 = .ok (.bipush (-3), 2) := by decide +kernel
theorem dX7_shape_20 : decode cX7_shape 20 = .ok (.ireturn, 1) := by decide +kernel
theorem dX7_shape_21 : decode cX7_shape 21 = .ok (.aload_n 0, 1) := by decide +kernel
theorem dX7_shape_22 : decode cX7_shape 22 = .ok (.getfield 10, 3) := by decide +kernel
theorem dX7_shape_25 : decode cX7_shape 25 = .ok (.getfield 126, 3) := by decide +kernel
theorem dX7_shape_28 : decode cX7_shape 28 = .ok (.iload_n 2, 1) := by decide +kernel
theorem dX7_shape_29 : decode cX7_shape 29 = .ok (.invokestatic 129, 3) := by decide +kernel
theorem dX7_shape_32 : decode cX7_shape 32 = .ok (.iconst 1, 1) := by decide +kernel
theorem dX7_shape_33 : decode cX7_shape 33 = .ok (.if_icmp .ne 6, 3) := by decide +kernel
theorem dX7_shape_36 : decode cX7_shape 36 = .ok (.bipush (-4), 2) := by decide +kernel
theorem dX7_shape_38 : decode cX7_shape 38 = .ok (.ireturn, 1) := by decide +kernel
theorem dX7_shape_39 : decode cX7_shape 39 = .ok (.aload_n 0, 1) := by decide +kernel
theorem dX7_shape_40 : decode cX7_shape 40 = .ok (.getfield 53, 3) := by decide +kernel
theorem dX7_shape_43 : decode cX7_shape 43 = .ok (.iload_n 1, 1) := by decide +kernel
theorem dX7_shape_44 : decode cX7_shape 44 = .ok (.aload_n 0, 1) := by decide +kernel
theorem dX7_shape_45 : decode cX7_shape 45 = .ok (.getfield 10, 3) := by decide +kernel
theorem dX7_shape_48 : decode cX7_shape 48 = .ok (.getfield 126, 3) := by decide +kernel
theorem dX7_shape_51 : decode cX7_shape 51 = .ok (.invokevirtual 182, 3) := by decide +kernel
theorem dX7_shape_54 : decode cX7_shape 54 = .ok (.aload_n 0, 1) := by decide +kernel
theorem dX7_shape_55 : decode cX7_shape 55 = .ok (.getfield 53, 3) := by decide +kernel
theorem dX7_shape_58 : decode cX7_shape 58 = .ok (.aload_n 0, 1) := by decide +kernel
theorem dX7_shape_59 : decode cX7_shape 59 = .ok (.getfield 53, 3) := by decide +kernel
theorem dX7_shape_62 : decode cX7_shape 62 = .ok (.iload_n 2, 1) := by decide +kernel
theorem dX7_shape_63 : decode cX7_shape 63 = .ok (.invokevirtual 188, 3) := by decide +kernel
theorem dX7_shape_66 : decode cX7_shape 66 = .ok (.invokevirtual 191, 3) := by decide +kernel
theorem dX7_shape_69 : decode cX7_shape 69 = .ok (.ireturn, 1) := by decide +kernel
set_option maxRecDepth 20000 in
theorem ggX7_ring_X7_noSquare : GoodIn wsX7_ring wsX7_noSquare := goodIn_r _ [8, 2, 9, 10, 11, 12, 13, 14, 15, 70, 71, 72, 73, 74, 75, 76, 77, 78, 79, 80, 81, 82, 83, 84, 85, 86, 87, 88, 89, 90, 91, 92, 93] (by decide +kernel) (by decide +kernel)
set_option maxRecDepth 20000 in
theorem gX7_ring_X7_noSquare : GoodIn wsX7_ring (wsV RX7 122 RX7 yX7_noSquare wsX7_noSquare) := goodIn_app (goodIn_of _ (by decide +kernel)) ggX7_ring_X7_noSquare
set_option maxRecDepth 20000 in
theorem ggX7_ring_X7_noKind : GoodIn wsX7_ring wsX7_noKind := goodIn_r _ [18] (by decide +kernel) (by decide +kernel)
set_option maxRecDepth 20000 in
theorem gX7_ring_X7_noKind : GoodIn wsX7_ring (va_wsS RX7 179 yX7_noKind wsX7_noKind) := goodIn_app (goodIn_of _ (by decide +kernel)) ggX7_ring_X7_noKind
set_option maxRecDepth 20000 in
theorem ggX7_ring_X2_knot : GoodIn wsX7_ring wsX2_knot := goodIn_r _ [23, 24, 25, 26, 27, 7, 28, 29, 30, 31, 32, 33, 34, 35, 36, 37, 17, 18, 94, 95, 96, 97] (by decide +kernel) (by decide +kernel)
set_option maxRecDepth 20000 in
theorem gX7_ring_X2_knot : GoodIn wsX7_ring (wsV RX7 182 RX2 yX2_knot wsX2_knot) := goodIn_app (goodIn_of _ (by decide +kernel)) ggX7_ring_X2_knot
set_option maxRecDepth 20000 in
theorem ggX7_ring_X2_partAt : GoodIn wsX7_ring wsX2_partAt := goodIn_r _ [41, 24, 25, 27, 7, 28, 94, 95, 96] (by decide +kernel) (by decide +kernel)
set_option maxRecDepth 20000 in
theorem gX7_ring_X2_partAt : GoodIn wsX7_ring (wsV RX7 188 RX2 yX2_partAt wsX2_partAt) := goodIn_app (goodIn_of _ (by decide +kernel)) ggX7_ring_X2_partAt
set_option maxRecDepth 20000 in
theorem ggX7_ring_X2_shapeOf : GoodIn wsX7_ring wsX2_shapeOf := goodIn_r _ [45, 46, 47, 48, 49, 50, 51, 52, 53, 54, 55, 22, 56, 25, 27, 7, 28, 57, 58, 59, 60, 94, 95, 96] (by decide +kernel) (by decide +kernel)
set_option maxRecDepth 20000 in
theorem gX7_ring_X2_shapeOf : GoodIn wsX7_ring (wsV RX7 191 RX2 yX2_shapeOf wsX2_shapeOf) := goodIn_app (goodIn_of _ (by decide +kernel)) ggX7_ring_X2_shapeOf
set_option maxRecDepth 20000 in
theorem ggX7_ring_J6_bitCount_0f7a4 : GoodIn wsX7_ring wsJ6_bitCount_0f7a4 := goodIn_r _ [49, 50, 51, 52] (by decide +kernel) (by decide +kernel)
set_option maxRecDepth 20000 in
theorem gX7_ring_J6_bitCount_0f7a4 : GoodIn wsX7_ring (va_wsS RX7 194 yJ6_bitCount_0f7a4 wsJ6_bitCount_0f7a4) := goodIn_app (goodIn_of _ (by decide +kernel)) ggX7_ring_J6_bitCount_0f7a4
set_option maxRecDepth 20000 in
theorem ggX7_ring_X2_around : GoodIn wsX7_ring wsX2_around := goodIn_r _ [65, 25, 66, 67, 48, 68, 69, 94, 95, 96] (by decide +kernel) (by decide +kernel)
set_option maxRecDepth 20000 in
theorem gX7_ring_X2_around : GoodIn wsX7_ring (wsV RX7 199 RX2 yX2_around wsX2_around) := goodIn_app (goodIn_of _ (by decide +kernel)) ggX7_ring_X2_around
theorem dX7_ring_0 : decode cX7_ring 0 = .ok (.aload_n 0, 1) := by decide +kernel
theorem dX7_ring_1 : decode cX7_ring 1 = .ok (.iload_n 2, 1) := by decide +kernel
theorem dX7_ring_2 : decode cX7_ring 2 = .ok (.invokevirtual 122, 3) := by decide +kernel
theorem dX7_ring_5 : decode cX7_ring 5 = .ok (.ifCond .eq 6, 3) := by decide +kernel
theorem dX7_ring_8 : decode cX7_ring 8 = .ok (.bipush (-2), 2) := by decide +kernel
theorem dX7_ring_10 : decode cX7_ring 10 = .ok (.ireturn, 1) := by decide +kernel
theorem dX7_ring_11 : decode cX7_ring 11 = .ok (.iload_n 1, 1) := by decide +kernel
theorem dX7_ring_12 : decode cX7_ring 12 = .ok (.invokestatic 179, 3) := by decide +kernel
theorem dX7_ring_15 : decode cX7_ring 15 = .ok (.ifCond .ne 7, 3) := by decide +kernel
theorem dX7_ring_18 : decode cX7_ring 18 = .ok (.iload_n 3, 1) := by decide +kernel
theorem dX7_ring_19 : decode cX7_ring 19 = .ok (.ifCond .ge 6, 3) := by decide +kernel
theorem dX7_ring_22 : decode cX7_ring 22 = .ok (.bipush (-3), 2) := by decide +kernel
theorem dX7_ring_24 : decode cX7_ring 24 = .ok (.ireturn, 1) := by decide +kernel
theorem dX7_ring_25 : decode cX7_ring 25 = .ok (.aload_n 0, 1) := by decide +kernel
theorem dX7_ring_26 : decode cX7_ring 26 = .ok (.getfield 53, 3) := by decide +kernel
theorem dX7_ring_29 : decode cX7_ring 29 = .ok (.iload_n 1, 1) := by decide +kernel
theorem dX7_ring_30 : decode cX7_ring 30 = .ok (.aload_n 0, 1) := by decide +kernel
theorem dX7_ring_31 : decode cX7_ring 31 = .ok (.getfield 10, 3) := by decide +kernel
theorem dX7_ring_34 : decode cX7_ring 34 = .ok (.getfield 126, 3) := by decide +kernel
theorem dX7_ring_37 : decode cX7_ring 37 = .ok (.invokevirtual 182, 3) := by decide +kernel
theorem dX7_ring_40 : decode cX7_ring 40 = .ok (.aload_n 0, 1) := by decide +kernel
theorem dX7_ring_41 : decode cX7_ring 41 = .ok (.getfield 53, 3) := by decide +kernel
theorem dX7_ring_44 : decode cX7_ring 44 = .ok (.iload_n 2, 1) := by decide +kernel
theorem dX7_ring_45 : decode cX7_ring 45 = .ok (.invokevirtual 188, 3) := by decide +kernel
theorem dX7_ring_48 : decode cX7_ring 48 = .ok (.istore 4, 2) := by decide +kernel
theorem dX7_ring_50 : decode cX7_ring 50 = .ok (.aload_n 0, 1) := by decide +kernel
theorem dX7_ring_51 : decode cX7_ring 51 = .ok (.getfield 53, 3) := by decide +kernel
theorem dX7_ring_54 : decode cX7_ring 54 = .ok (.iload 4, 2) := by decide +kernel
theorem dX7_ring_56 : decode cX7_ring 56 = .ok (.invokevirtual 191, 3) := by decide +kernel
theorem dX7_ring_59 : decode cX7_ring 59 = .ok (.iconst 2, 1) := by decide +kernel
theorem dX7_ring_60 : decode cX7_ring 60 = .ok (.if_icmp .eq 6, 3) := by decide +kernel
theorem dX7_ring_63 : decode cX7_ring 63 = .ok (.bipush (-4), 2) := by decide +kernel
theorem dX7_ring_65 : decode cX7_ring 65 = .ok (.ireturn, 1) := by decide +kernel
theorem dX7_ring_66 : decode cX7_ring 66 = .ok (.iload_n 3, 1) := by decide +kernel
theorem dX7_ring_67 : decode cX7_ring 67 = .ok (.iload 4, 2) := by decide +kernel
theorem dX7_ring_69 : decode cX7_ring 69 = .ok (.invokestatic 194, 3) := by decide +kernel
theorem dX7_ring_72 : decode cX7_ring 72 = .ok (.if_icmp .lt 5, 3) := by decide +kernel
theorem dX7_ring_75 : decode cX7_ring 75 = .ok (.iconst (-1), 1) := by decide +kernel
theorem dX7_ring_76 : decode cX7_ring 76 = .ok (.ireturn, 1) := by decide +kernel
theorem dX7_ring_77 : decode cX7_ring 77 = .ok (.aload_n 0, 1) := by decide +kernel
theorem dX7_ring_78 : decode cX7_ring 78 = .ok (.getfield 53, 3) := by decide +kernel
theorem dX7_ring_81 : decode cX7_ring 81 = .ok (.iload_n 2, 1) := by decide +kernel
theorem dX7_ring_82 : decode cX7_ring 82 = .ok (.iload_n 3, 1) := by decide +kernel
theorem dX7_ring_83 : decode cX7_ring 83 = .ok (.invokevirtual 199, 3) := by decide +kernel
theorem dX7_ring_86 : decode cX7_ring 86 = .ok (.ireturn, 1) := by decide +kernel
set_option maxRecDepth 20000 in
theorem ggX7_turned_X7_noKind : GoodIn wsX7_turned wsX7_noKind := goodIn_r _ [10] (by decide +kernel) (by decide +kernel)
set_option maxRecDepth 20000 in
theorem gX7_turned_X7_noKind : GoodIn wsX7_turned (va_wsS RX7 179 yX7_noKind wsX7_noKind) := goodIn_app (goodIn_of _ (by decide +kernel)) ggX7_turned_X7_noKind
set_option maxRecDepth 20000 in
theorem ggX7_turned_X7_allAre : GoodIn wsX7_turned wsX7_allAre := goodIn_r _ [14, 1, 2, 15, 88, 89, 90, 91, 92, 93, 94, 95, 96, 97, 98, 99, 100, 101, 102, 103, 104, 105, 106, 107, 108, 109, 110, 111] (by decide +kernel) (by decide +kernel)
set_option maxRecDepth 20000 in
theorem gX7_turned_X7_allAre : GoodIn wsX7_turned (wsV RX7 205 RX7 yX7_allAre wsX7_allAre) := goodIn_app (goodIn_of _ (by decide +kernel)) ggX7_turned_X7_allAre
set_option maxRecDepth 20000 in
theorem ggX7_turned_X2_knot : GoodIn wsX7_turned wsX2_knot := goodIn_r _ [20, 21, 22, 23, 24, 9, 25, 26, 27, 28, 29, 30, 31, 32, 33, 34, 8, 10, 112, 113, 114, 115] (by decide +kernel) (by decide +kernel)
set_option maxRecDepth 20000 in
theorem gX7_turned_X2_knot : GoodIn wsX7_turned (wsV RX7 182 RX2 yX2_knot wsX2_knot) := goodIn_app (goodIn_of _ (by decide +kernel)) ggX7_turned_X2_knot
set_option maxRecDepth 20000 in
theorem ggX7_turned_X7_placeOf : GoodIn wsX7_turned wsX7_placeOf := goodIn_r _ [37] (by decide +kernel) (by decide +kernel)
set_option maxRecDepth 20000 in
theorem gX7_turned_X7_placeOf : GoodIn wsX7_turned (va_wsS RX7 151 yX7_placeOf wsX7_placeOf) := goodIn_app (goodIn_of _ (by decide +kernel)) ggX7_turned_X7_placeOf
set_option maxRecDepth 20000 in
theorem ggX7_turned_X2_partAt : GoodIn wsX7_turned wsX2_partAt := goodIn_r _ [41, 21, 22, 24, 9, 25, 112, 113, 114] (by decide +kernel) (by decide +kernel)
set_option maxRecDepth 20000 in
theorem gX7_turned_X2_partAt : GoodIn wsX7_turned (wsV RX7 188 RX2 yX2_partAt wsX2_partAt) := goodIn_app (goodIn_of _ (by decide +kernel)) ggX7_turned_X2_partAt
set_option maxRecDepth 20000 in
theorem ggX7_turned_X5_taken : GoodIn wsX7_turned wsX5_taken := goodIn_r _ [46, 47, 36, 9, 37, 103, 104, 105, 106, 107, 108, 109, 110, 111] (by decide +kernel) (by decide +kernel)
set_option maxRecDepth 20000 in
theorem gX7_turned_X5_taken : GoodIn wsX7_turned (wsV RX7 158 RX5 yX5_taken wsX5_taken) := goodIn_app (goodIn_of _ (by decide +kernel)) ggX7_turned_X5_taken
set_option maxRecDepth 20000 in
theorem ggX7_turned_X2_shapeOf : GoodIn wsX7_turned wsX2_shapeOf := goodIn_r _ [51, 52, 53, 54, 55, 56, 57, 58, 59, 60, 61, 19, 62, 22, 24, 9, 25, 63, 64, 65, 66, 112, 113, 114] (by decide +kernel) (by decide +kernel)
set_option maxRecDepth 20000 in
theorem gX7_turned_X2_shapeOf : GoodIn wsX7_turned (wsV RX7 191 RX2 yX2_shapeOf wsX2_shapeOf) := goodIn_app (goodIn_of _ (by decide +kernel)) ggX7_turned_X2_shapeOf
set_option maxRecDepth 20000 in
theorem ggX7_turned_J6_bitCount_0f7a4 : GoodIn wsX7_turned wsJ6_bitCount_0f7a4 := goodIn_r _ [55, 56, 57, 58] (by decide +kernel) (by decide +kernel)
set_option maxRecDepth 20000 in
theorem gX7_turned_J6_bitCount_0f7a4 : GoodIn wsX7_turned (va_wsS RX7 194 yJ6_bitCount_0f7a4 wsJ6_bitCount_0f7a4) := goodIn_app (goodIn_of _ (by decide +kernel)) ggX7_turned_J6_bitCount_0f7a4
set_option maxRecDepth 20000 in
theorem ggX7_turned_X7_orderIsKept : GoodIn wsX7_turned wsX7_orderIsKept := goodIn_r _ [71, 5, 1, 2, 6, 35, 36, 9, 37, 72, 73, 74, 75, 3, 76, 77, 78, 19, 79, 80, 81, 82, 83, 22, 84, 85, 54, 86, 87, 88, 89, 90, 91, 92, 93, 94, 95, 96, 97, 98, 99, 100, 101, 102, 103, 104, 105, 106, 107, 108, 109, 110, 111, 112, 113, 114] (by decide +kernel) (by decide +kernel)
set_option maxRecDepth 20000 in
theorem gX7_turned_X7_orderIsKept : GoodIn wsX7_turned (wsV RX7 208 RX7 yX7_orderIsKept wsX7_orderIsKept) := goodIn_app (goodIn_of _ (by decide +kernel)) ggX7_turned_X7_orderIsKept
theorem dX7_turned_0 : decode cX7_turned 0 = .ok (.iload_n 1, 1) := by decide +kernel
theorem dX7_turned_1 : decode cX7_turned 1 = .ok (.invokestatic 179, 3) := by decide +kernel
theorem dX7_turned_4 : decode cX7_turned 4 = .ok (.ifCond .eq 6, 3) := by decide +kernel
theorem dX7_turned_7 : decode cX7_turned 7 = .ok (.bipush (-3), 2) := by decide +kernel
theorem dX7_turned_9 : decode cX7_turned 9 = .ok (.ireturn, 1) := by decide +kernel
theorem dX7_turned_10 : decode cX7_turned 10 = .ok (.aload_n 0, 1) := by decide +kernel
theorem dX7_turned_11 : decode cX7_turned 11 = .ok (.getfield 10, 3) := by decide +kernel
theorem dX7_turned_14 : decode cX7_turned 14 = .ok (.getfield 202, 3) := by decide +kernel
theorem dX7_turned_17 : decode cX7_turned 17 = .ok (.ifCond .eq 11, 3) := by decide +kernel
theorem dX7_turned_20 : decode cX7_turned 20 = .ok (.aload_n 0, 1) := by decide +kernel
theorem dX7_turned_21 : decode cX7_turned 21 = .ok (.iload_n 1, 1) := by decide +kernel
theorem dX7_turned_22 : decode cX7_turned 22 = .ok (.invokevirtual 205, 3) := by decide +kernel
theorem dX7_turned_25 : decode cX7_turned 25 = .ok (.ifCond .ne 6, 3) := by decide +kernel
theorem dX7_turned_28 : decode cX7_turned 28 = .ok (.bipush (-4), 2) := by decide +kernel
theorem dX7_turned_30 : decode cX7_turned 30 = .ok (.ireturn, 1) := by decide +kernel
theorem dX7_turned_31 : decode cX7_turned 31 = .ok (.aload_n 0, 1) := by decide +kernel
theorem dX7_turned_32 : decode cX7_turned 32 = .ok (.getfield 53, 3) := by decide +kernel
theorem dX7_turned_35 : decode cX7_turned 35 = .ok (.iload_n 1, 1) := by decide +kernel
theorem dX7_turned_36 : decode cX7_turned 36 = .ok (.aload_n 0, 1) := by decide +kernel
theorem dX7_turned_37 : decode cX7_turned 37 = .ok (.getfield 10, 3) := by decide +kernel
theorem dX7_turned_40 : decode cX7_turned 40 = .ok (.getfield 126, 3) := by decide +kernel
theorem dX7_turned_43 : decode cX7_turned 43 = .ok (.invokevirtual 182, 3) := by decide +kernel
theorem dX7_turned_46 : decode cX7_turned 46 = .ok (.aload_n 0, 1) := by decide +kernel
theorem dX7_turned_47 : decode cX7_turned 47 = .ok (.getfield 53, 3) := by decide +kernel
theorem dX7_turned_50 : decode cX7_turned 50 = .ok (.iconst 0, 1) := by decide +kernel
theorem dX7_turned_51 : decode cX7_turned 51 = .ok (.aload_n 0, 1) := by decide +kernel
theorem dX7_turned_52 : decode cX7_turned 52 = .ok (.getfield 133, 3) := by decide +kernel
theorem dX7_turned_55 : decode cX7_turned 55 = .ok (.invokestatic 151, 3) := by decide +kernel
theorem dX7_turned_58 : decode cX7_turned 58 = .ok (.invokevirtual 188, 3) := by decide +kernel
theorem dX7_turned_61 : decode cX7_turned 61 = .ok (.istore_n 2, 1) := by decide +kernel
theorem dX7_turned_62 : decode cX7_turned 62 = .ok (.aload_n 0, 1) := by decide +kernel
theorem dX7_turned_63 : decode cX7_turned 63 = .ok (.getfield 10, 3) := by decide +kernel
theorem dX7_turned_66 : decode cX7_turned 66 = .ok (.aload_n 0, 1) := by decide +kernel
theorem dX7_turned_67 : decode cX7_turned 67 = .ok (.getfield 133, 3) := by decide +kernel
theorem dX7_turned_70 : decode cX7_turned 70 = .ok (.invokevirtual 158, 3) := by decide +kernel
theorem dX7_turned_73 : decode cX7_turned 73 = .ok (.aload_n 0, 1) := by decide +kernel
theorem dX7_turned_74 : decode cX7_turned 74 = .ok (.getfield 10, 3) := by decide +kernel
theorem dX7_turned_77 : decode cX7_turned 77 = .ok (.aload_n 0, 1) := by decide +kernel
theorem dX7_turned_78 : decode cX7_turned 78 = .ok (.getfield 10, 3) := by decide +kernel
theorem dX7_turned_81 : decode cX7_turned 81 = .ok (.getfield 139, 3) := by decide +kernel
theorem dX7_turned_84 : decode cX7_turned 84 = .ok (.invokevirtual 158, 3) := by decide +kernel
theorem dX7_turned_87 : decode cX7_turned 87 = .ok (.ior, 1) := by decide +kernel
theorem dX7_turned_88 : decode cX7_turned 88 = .ok (.istore_n 3, 1) := by decide +kernel
theorem dX7_turned_89 : decode cX7_turned 89 = .ok (.aload_n 0, 1) := by decide +kernel
theorem dX7_turned_90 : decode cX7_turned 90 = .ok (.getfield 53, 3) := by decide +kernel
theorem dX7_turned_93 : decode cX7_turned 93 = .ok (.iload_n 2, 1) := by decide +kernel
theorem dX7_turned_94 : decode cX7_turned 94 = .ok (.invokevirtual 191, 3) := by decide +kernel
theorem dX7_turned_97 : decode cX7_turned 97 = .ok (.iconst 2, 1) := by decide +kernel
theorem dX7_turned_98 : decode cX7_turned 98 = .ok (.if_icmp .ne 11, 3) := by decide +kernel
theorem dX7_turned_101 : decode cX7_turned 101 = .ok (.iload_n 3, 1) := by decide +kernel
theorem dX7_turned_102 : decode cX7_turned 102 = .ok (.iload_n 2, 1) := by decide +kernel
theorem dX7_turned_103 : decode cX7_turned 103 = .ok (.iconst (-1), 1) := by decide +kernel
theorem dX7_turned_104 : decode cX7_turned 104 = .ok (.ixor, 1) := by decide +kernel
theorem dX7_turned_105 : decode cX7_turned 105 = .ok (.iand, 1) := by decide +kernel
theorem dX7_turned_106 : decode cX7_turned 106 = .ok (.ifCond .eq 6, 3) := by decide +kernel
theorem dX7_turned_109 : decode cX7_turned 109 = .ok (.bipush (-4), 2) := by decide +kernel
theorem dX7_turned_111 : decode cX7_turned 111 = .ok (.ireturn, 1) := by decide +kernel
theorem dX7_turned_112 : decode cX7_turned 112 = .ok (.aload_n 0, 1) := by decide +kernel
theorem dX7_turned_113 : decode cX7_turned 113 = .ok (.iload_n 2, 1) := by decide +kernel
theorem dX7_turned_114 : decode cX7_turned 114 = .ok (.invokestatic 194, 3) := by decide +kernel
theorem dX7_turned_117 : decode cX7_turned 117 = .ok (.invokevirtual 208, 3) := by decide +kernel
theorem dX7_turned_120 : decode cX7_turned 120 = .ok (.ifCond .eq 7, 3) := by decide +kernel
theorem dX7_turned_123 : decode cX7_turned 123 = .ok (.iconst 1, 1) := by decide +kernel
theorem dX7_turned_124 : decode cX7_turned 124 = .ok (.goto 4, 3) := by decide +kernel
theorem dX7_turned_127 : decode cX7_turned 127 = .ok (.iconst 0, 1) := by decide +kernel
theorem dX7_turned_128 : decode cX7_turned 128 = .ok (.ireturn, 1) := by decide +kernel
set_option maxRecDepth 20000 in
theorem ggX7_fewest_X4_explore : GoodIn wsX7_fewest wsX4_explore := goodIn_r _ [10, 11, 12, 13, 14, 15, 16, 17, 18, 19, 20, 21, 22, 9, 23, 24, 25, 26, 27, 28, 29, 30, 31, 32, 33, 34, 35, 36, 37, 38, 39, 40, 41, 42, 43, 44, 45, 46, 47, 48, 49, 50, 51, 52, 53, 54, 55, 56, 57, 58, 59, 60, 61, 62, 63, 64, 65, 66, 67, 68, 69, 70, 71, 72, 73, 74, 75, 76, 77, 78, 79, 80, 81, 82, 83, 84, 118, 119, 120, 121, 122, 123, 124, 125, 109, 110, 111, 112, 113, 114, 115, 116, 117, 126, 127, 128] (by decide +kernel) (by decide +kernel)
set_option maxRecDepth 20000 in
theorem gX7_fewest_X4_explore : GoodIn wsX7_fewest (wsV RX7 211 RX4 yX4_explore wsX4_explore) := goodIn_app (goodIn_of _ (by decide +kernel)) ggX7_fewest_X4_explore
set_option maxRecDepth 20000 in
theorem ggX7_fewest_X4_firstHome : GoodIn wsX7_fewest wsX4_firstHome := goodIn_r _ [88, 11, 12, 19, 15, 89, 118, 119, 120, 121, 122, 123, 124, 125, 109, 110, 111, 112, 113, 114, 115, 116, 117] (by decide +kernel) (by decide +kernel)
set_option maxRecDepth 20000 in
theorem gX7_fewest_X4_firstHome : GoodIn wsX7_fewest (wsV RX7 215 RX4 yX4_firstHome wsX4_firstHome) := goodIn_app (goodIn_of _ (by decide +kernel)) ggX7_fewest_X4_firstHome
set_option maxRecDepth 20000 in
theorem ggX7_fewest_X4_depthOf : GoodIn wsX7_fewest wsX4_depthOf := goodIn_r _ [93, 11, 17, 118, 119, 120, 121, 122, 123, 124, 125] (by decide +kernel) (by decide +kernel)
set_option maxRecDepth 20000 in
theorem gX7_fewest_X4_depthOf : GoodIn wsX7_fewest (wsV RX7 219 RX4 yX4_depthOf wsX4_depthOf) := goodIn_app (goodIn_of _ (by decide +kernel)) ggX7_fewest_X4_depthOf
theorem dX7_fewest_0 : decode cX7_fewest 0 = .ok (.aload_n 0, 1) := by decide +kernel
theorem dX7_fewest_1 : decode cX7_fewest 1 = .ok (.getfield 62, 3) := by decide +kernel
theorem dX7_fewest_4 : decode cX7_fewest 4 = .ok (.aload_n 0, 1) := by decide +kernel
theorem dX7_fewest_5 : decode cX7_fewest 5 = .ok (.getfield 133, 3) := by decide +kernel
theorem dX7_fewest_8 : decode cX7_fewest 8 = .ok (.aload_n 0, 1) := by decide +kernel
theorem dX7_fewest_9 : decode cX7_fewest 9 = .ok (.getfield 166, 3) := by decide +kernel
theorem dX7_fewest_12 : decode cX7_fewest 12 = .ok (.aload_n 0, 1) := by decide +kernel
theorem dX7_fewest_13 : decode cX7_fewest 13 = .ok (.getfield 10, 3) := by decide +kernel
theorem dX7_fewest_16 : decode cX7_fewest 16 = .ok (.getfield 126, 3) := by decide +kernel
theorem dX7_fewest_19 : decode cX7_fewest 19 = .ok (.invokevirtual 211, 3) := by decide +kernel
theorem dX7_fewest_22 : decode cX7_fewest 22 = .ok (.aload_n 0, 1) := by decide +kernel
theorem dX7_fewest_23 : decode cX7_fewest 23 = .ok (.getfield 62, 3) := by decide +kernel
theorem dX7_fewest_26 : decode cX7_fewest 26 = .ok (.aload_n 0, 1) := by decide +kernel
theorem dX7_fewest_27 : decode cX7_fewest 27 = .ok (.getfield 62, 3) := by decide +kernel
theorem dX7_fewest_30 : decode cX7_fewest 30 = .ok (.invokevirtual 215, 3) := by decide +kernel
theorem dX7_fewest_33 : decode cX7_fewest 33 = .ok (.invokevirtual 219, 3) := by decide +kernel
theorem dX7_fewest_36 : decode cX7_fewest 36 = .ok (.ireturn, 1) := by decide +kernel
set_option maxRecDepth 20000 in
theorem ggX7_way_X4_explore : GoodIn wsX7_way wsX4_explore := goodIn_r _ [10, 11, 12, 13, 14, 15, 16, 17, 18, 19, 20, 21, 22, 9, 23, 24, 25, 26, 27, 28, 29, 30, 31, 32, 33, 34, 35, 36, 37, 38, 39, 40, 41, 42, 43, 44, 45, 46, 47, 48, 49, 50, 51, 52, 53, 54, 55, 56, 57, 58, 59, 60, 61, 62, 63, 64, 65, 66, 67, 68, 69, 70, 71, 72, 73, 74, 75, 76, 77, 78, 79, 80, 81, 82, 83, 84, 122, 123, 124, 125, 126, 127, 128, 129, 113, 114, 115, 116, 117, 118, 119, 120, 121, 130, 131, 132] (by decide +kernel) (by decide +kernel)
set_option maxRecDepth 20000 in
theorem gX7_way_X4_explore : GoodIn wsX7_way (wsV RX7 211 RX4 yX4_explore wsX4_explore) := goodIn_app (goodIn_of _ (by decide +kernel)) ggX7_way_X4_explore
set_option maxRecDepth 20000 in
theorem ggX7_way_X4_firstHome : GoodIn wsX7_way wsX4_firstHome := goodIn_r _ [88, 11, 12, 19, 15, 89, 122, 123, 124, 125, 126, 127, 128, 129, 113, 114, 115, 116, 117, 118, 119, 120, 121] (by decide +kernel) (by decide +kernel)
set_option maxRecDepth 20000 in
theorem gX7_way_X4_firstHome : GoodIn wsX7_way (wsV RX7 215 RX4 yX4_firstHome wsX4_firstHome) := goodIn_app (goodIn_of _ (by decide +kernel)) ggX7_way_X4_firstHome
set_option maxRecDepth 20000 in
theorem ggX7_way_X4_hopTowards : GoodIn wsX7_way wsX4_hopTowards := goodIn_r _ [93, 17, 40, 12, 19, 15, 16, 94, 95, 96, 9, 97, 11, 57, 34, 58, 122, 123, 124, 125, 126, 127, 128, 129, 113, 114, 115, 116, 117, 118, 119, 120, 121] (by decide +kernel) (by decide +kernel)
set_option maxRecDepth 20000 in
theorem gX7_way_X4_hopTowards : GoodIn wsX7_way (wsV RX7 222 RX4 yX4_hopTowards wsX4_hopTowards) := goodIn_app (goodIn_of _ (by decide +kernel)) ggX7_way_X4_hopTowards
theorem dX7_way_0 : decode cX7_way 0 = .ok (.iload_n 1, 1) := by decide +kernel
theorem dX7_way_1 : decode cX7_way 1 = .ok (.ifCond .lt 12, 3) := by decide +kernel
theorem dX7_way_4 : decode cX7_way 4 = .ok (.iload_n 2, 1) := by decide +kernel
theorem dX7_way_5 : decode cX7_way 5 = .ok (.ifCond .lt 8, 3) := by decide +kernel
theorem dX7_way_8 : decode cX7_way 8 = .ok (.iload_n 2, 1) := by decide +kernel
theorem dX7_way_9 : decode cX7_way 9 = .ok (.iconst 1, 1) := by decide +kernel
theorem dX7_way_10 : decode cX7_way 10 = .ok (.if_icmp .le 6, 3) := by decide +kernel
theorem dX7_way_13 : decode cX7_way 13 = .ok (.bipush (-3), 2) := by decide +kernel
theorem dX7_way_15 : decode cX7_way 15 = .ok (.ireturn, 1) := by decide +kernel
theorem dX7_way_16 : decode cX7_way 16 = .ok (.aload_n 0, 1) := by decide +kernel
theorem dX7_way_17 : decode cX7_way 17 = .ok (.getfield 62, 3) := by decide +kernel
theorem dX7_way_20 : decode cX7_way 20 = .ok (.aload_n 0, 1) := by decide +kernel
theorem dX7_way_21 : decode cX7_way 21 = .ok (.getfield 133, 3) := by decide +kernel
theorem dX7_way_24 : decode cX7_way 24 = .ok (.aload_n 0, 1) := by decide +kernel
theorem dX7_way_25 : decode cX7_way 25 = .ok (.getfield 166, 3) := by decide +kernel
theorem dX7_way_28 : decode cX7_way 28 = .ok (.aload_n 0, 1) := by decide +kernel
theorem dX7_way_29 : decode cX7_way 29 = .ok (.getfield 10, 3) := by decide +kernel
theorem dX7_way_32 : decode cX7_way 32 = .ok (.getfield 126, 3) := by decide +kernel
theorem dX7_way_35 : decode cX7_way 35 = .ok (.invokevirtual 211, 3) := by decide +kernel
theorem dX7_way_38 : decode cX7_way 38 = .ok (.aload_n 0, 1) := by decide +kernel
theorem dX7_way_39 : decode cX7_way 39 = .ok (.getfield 62, 3) := by decide +kernel
theorem dX7_way_42 : decode cX7_way 42 = .ok (.aload_n 0, 1) := by decide +kernel
theorem dX7_way_43 : decode cX7_way 43 = .ok (.getfield 62, 3) := by decide +kernel
theorem dX7_way_46 : decode cX7_way 46 = .ok (.invokevirtual 215, 3) := by decide +kernel
theorem dX7_way_49 : decode cX7_way 49 = .ok (.iload_n 1, 1) := by decide +kernel
theorem dX7_way_50 : decode cX7_way 50 = .ok (.iload_n 2, 1) := by decide +kernel
theorem dX7_way_51 : decode cX7_way 51 = .ok (.invokevirtual 222, 3) := by decide +kernel
theorem dX7_way_54 : decode cX7_way 54 = .ok (.ireturn, 1) := by decide +kernel
set_option maxRecDepth 20000 in
theorem ggX7_alike_X4_explore : GoodIn wsX7_alike wsX4_explore := goodIn_r _ [10, 11, 12, 13, 14, 15, 16, 17, 18, 19, 20, 21, 22, 9, 23, 24, 25, 26, 27, 28, 29, 30, 31, 32, 33, 34, 35, 36, 37, 38, 39, 40, 41, 42, 43, 44, 45, 46, 47, 48, 49, 50, 51, 52, 53, 54, 55, 56, 57, 58, 59, 60, 61, 62, 63, 64, 65, 66, 67, 68, 69, 70, 71, 72, 73, 74, 75, 76, 77, 78, 79, 80, 81, 82, 83, 84, 128, 129, 130, 131, 132, 133, 134, 135, 119, 120, 121, 122, 123, 124, 125, 126, 127, 136, 137, 138] (by decide +kernel) (by decide +kernel)
set_option maxRecDepth 20000 in
theorem gX7_alike_X4_explore : GoodIn wsX7_alike (wsV RX7 211 RX4 yX4_explore wsX4_explore) := goodIn_app (goodIn_of _ (by decide +kernel)) ggX7_alike_X4_explore
set_option maxRecDepth 20000 in
theorem ggX7_alike_X4_firstHomeAlike : GoodIn wsX7_alike wsX4_firstHomeAlike := goodIn_r _ [88, 11, 12, 89, 90, 91, 9, 92, 15, 16, 93, 94, 95, 57, 34, 58, 96, 97, 98, 54, 99, 56, 128, 129, 130, 131, 132, 133, 134, 135, 119, 120, 121, 122, 123, 124, 125, 126, 127] (by decide +kernel) (by decide +kernel)
set_option maxRecDepth 20000 in
theorem gX7_alike_X4_firstHomeAlike : GoodIn wsX7_alike (wsV RX7 225 RX4 yX4_firstHomeAlike wsX4_firstHomeAlike) := goodIn_app (goodIn_of _ (by decide +kernel)) ggX7_alike_X4_firstHomeAlike
set_option maxRecDepth 20000 in
theorem ggX7_alike_X4_depthOf : GoodIn wsX7_alike wsX4_depthOf := goodIn_r _ [103, 11, 17, 128, 129, 130, 131, 132, 133, 134, 135] (by decide +kernel) (by decide +kernel)
set_option maxRecDepth 20000 in
theorem gX7_alike_X4_depthOf : GoodIn wsX7_alike (wsV RX7 219 RX4 yX4_depthOf wsX4_depthOf) := goodIn_app (goodIn_of _ (by decide +kernel)) ggX7_alike_X4_depthOf
theorem dX7_alike_0 : decode cX7_alike 0 = .ok (.aload_n 0, 1) := by decide +kernel
theorem dX7_alike_1 : decode cX7_alike 1 = .ok (.getfield 62, 3) := by decide +kernel
theorem dX7_alike_4 : decode cX7_alike 4 = .ok (.aload_n 0, 1) := by decide +kernel
theorem dX7_alike_5 : decode cX7_alike 5 = .ok (.getfield 133, 3) := by decide +kernel
theorem dX7_alike_8 : decode cX7_alike 8 = .ok (.aload_n 0, 1) := by decide +kernel
theorem dX7_alike_9 : decode cX7_alike 9 = .ok (.getfield 166, 3) := by decide +kernel
theorem dX7_alike_12 : decode cX7_alike 12 = .ok (.aload_n 0, 1) := by decide +kernel
theorem dX7_alike_13 : decode cX7_alike 13 = .ok (.getfield 10, 3) := by decide +kernel
theorem dX7_alike_16 : decode cX7_alike 16 = .ok (.getfield 126, 3) := by decide +kernel
theorem dX7_alike_19 : decode cX7_alike 19 = .ok (.invokevirtual 211, 3) := by decide +kernel
theorem dX7_alike_22 : decode cX7_alike 22 = .ok (.aload_n 0, 1) := by decide +kernel
theorem dX7_alike_23 : decode cX7_alike 23 = .ok (.getfield 62, 3) := by decide +kernel
theorem dX7_alike_26 : decode cX7_alike 26 = .ok (.aload_n 0, 1) := by decide +kernel
theorem dX7_alike_27 : decode cX7_alike 27 = .ok (.getfield 62, 3) := by decide +kernel
theorem dX7_alike_30 : decode cX7_alike 30 = .ok (.invokevirtual 225, 3) := by decide +kernel
theorem dX7_alike_33 : decode cX7_alike 33 = .ok (.invokevirtual 219, 3) := by decide +kernel
theorem dX7_alike_36 : decode cX7_alike 36 = .ok (.ireturn, 1) := by decide +kernel
set_option maxRecDepth 20000 in
theorem ggX7_many_X4_explore : GoodIn wsX7_many wsX4_explore := goodIn_r _ [10, 11, 12, 13, 14, 15, 16, 17, 18, 19, 20, 21, 22, 9, 23, 24, 25, 26, 27, 28, 29, 30, 31, 32, 33, 34, 35, 36, 37, 38, 39, 40, 41, 42, 43, 44, 45, 46, 47, 48, 49, 50, 51, 52, 53, 54, 55, 56, 57, 58, 59, 60, 61, 62, 63, 64, 65, 66, 67, 68, 69, 70, 71, 72, 73, 74, 75, 76, 77, 78, 79, 80, 81, 82, 83, 84, 113, 114, 115, 116, 117, 118, 119, 120, 104, 105, 106, 107, 108, 109, 110, 111, 112, 121, 122, 123] (by decide +kernel) (by decide +kernel)
set_option maxRecDepth 20000 in
theorem gX7_many_X4_explore : GoodIn wsX7_many (wsV RX7 211 RX4 yX4_explore wsX4_explore) := goodIn_app (goodIn_of _ (by decide +kernel)) ggX7_many_X4_explore
set_option maxRecDepth 20000 in
theorem ggX7_many_X4_howMany : GoodIn wsX7_many wsX4_howMany := goodIn_r _ [88, 11, 17, 113, 114, 115, 116, 117, 118, 119, 120] (by decide +kernel) (by decide +kernel)
set_option maxRecDepth 20000 in
theorem gX7_many_X4_howMany : GoodIn wsX7_many (wsV RX7 228 RX4 yX4_howMany wsX4_howMany) := goodIn_app (goodIn_of _ (by decide +kernel)) ggX7_many_X4_howMany
theorem dX7_many_0 : decode cX7_many 0 = .ok (.iload_n 1, 1) := by decide +kernel
theorem dX7_many_1 : decode cX7_many 1 = .ok (.ifCond .ge 6, 3) := by decide +kernel
theorem dX7_many_4 : decode cX7_many 4 = .ok (.bipush (-3), 2) := by decide +kernel
theorem dX7_many_6 : decode cX7_many 6 = .ok (.ireturn, 1) := by decide +kernel
theorem dX7_many_7 : decode cX7_many 7 = .ok (.aload_n 0, 1) := by decide +kernel
theorem dX7_many_8 : decode cX7_many 8 = .ok (.getfield 62, 3) := by decide +kernel
theorem dX7_many_11 : decode cX7_many 11 = .ok (.aload_n 0, 1) := by decide +kernel
theorem dX7_many_12 : decode cX7_many 12 = .ok (.getfield 133, 3) := by decide +kernel
theorem dX7_many_15 : decode cX7_many 15 = .ok (.aload_n 0, 1) := by decide +kernel
theorem dX7_many_16 : decode cX7_many 16 = .ok (.getfield 166, 3) := by decide +kernel
theorem dX7_many_19 : decode cX7_many 19 = .ok (.aload_n 0, 1) := by decide +kernel
theorem dX7_many_20 : decode cX7_many 20 = .ok (.getfield 10, 3) := by decide +kernel
theorem dX7_many_23 : decode cX7_many 23 = .ok (.getfield 126, 3) := by decide +kernel
theorem dX7_many_26 : decode cX7_many 26 = .ok (.invokevirtual 211, 3) := by decide +kernel
theorem dX7_many_29 : decode cX7_many 29 = .ok (.aload_n 0, 1) := by decide +kernel
theorem dX7_many_30 : decode cX7_many 30 = .ok (.getfield 62, 3) := by decide +kernel
theorem dX7_many_33 : decode cX7_many 33 = .ok (.iload_n 1, 1) := by decide +kernel
theorem dX7_many_34 : decode cX7_many 34 = .ok (.invokevirtual 228, 3) := by decide +kernel
theorem dX7_many_37 : decode cX7_many 37 = .ok (.ireturn, 1) := by decide +kernel
set_option maxRecDepth 20000 in
theorem ggX7_farthest_X4_explore : GoodIn wsX7_farthest wsX4_explore := goodIn_r _ [10, 11, 12, 13, 14, 15, 16, 17, 18, 19, 20, 21, 22, 9, 23, 24, 25, 26, 27, 28, 29, 30, 31, 32, 33, 34, 35, 36, 37, 38, 39, 40, 41, 42, 43, 44, 45, 46, 47, 48, 49, 50, 51, 52, 53, 54, 55, 56, 57, 58, 59, 60, 61, 62, 63, 64, 65, 66, 67, 68, 69, 70, 71, 72, 73, 74, 75, 76, 77, 78, 79, 80, 81, 82, 83, 84, 121, 122, 123, 124, 125, 126, 127, 128, 112, 113, 114, 115, 116, 117, 118, 119, 120, 129, 130, 131] (by decide +kernel) (by decide +kernel)
set_option maxRecDepth 20000 in
theorem gX7_farthest_X4_explore : GoodIn wsX7_farthest (wsV RX7 211 RX4 yX4_explore wsX4_explore) := goodIn_app (goodIn_of _ (by decide +kernel)) ggX7_farthest_X4_explore
set_option maxRecDepth 20000 in
theorem ggX7_farthest_X4_greatestDepth : GoodIn wsX7_farthest wsX4_greatestDepth := goodIn_r _ [88, 11, 89, 90, 91, 9, 92, 17, 121, 122, 123, 124, 125, 126, 127, 128] (by decide +kernel) (by decide +kernel)
set_option maxRecDepth 20000 in
theorem gX7_farthest_X4_greatestDepth : GoodIn wsX7_farthest (wsV RX7 231 RX4 yX4_greatestDepth wsX4_greatestDepth) := goodIn_app (goodIn_of _ (by decide +kernel)) ggX7_farthest_X4_greatestDepth
set_option maxRecDepth 20000 in
theorem ggX7_farthest_X4_howMany : GoodIn wsX7_farthest wsX4_howMany := goodIn_r _ [96, 11, 17, 121, 122, 123, 124, 125, 126, 127, 128] (by decide +kernel) (by decide +kernel)
set_option maxRecDepth 20000 in
theorem gX7_farthest_X4_howMany : GoodIn wsX7_farthest (wsV RX7 228 RX4 yX4_howMany wsX4_howMany) := goodIn_app (goodIn_of _ (by decide +kernel)) ggX7_farthest_X4_howMany
theorem dX7_farthest_0 : decode cX7_farthest 0 = .ok (.iload_n 1, 1) := by decide +kernel
theorem dX7_farthest_1 : decode cX7_farthest 1 = .ok (.ifCond .lt 8, 3) := by decide +kernel
theorem dX7_farthest_4 : decode cX7_farthest 4 = .ok (.iload_n 1, 1) := by decide +kernel
theorem dX7_farthest_5 : decode cX7_farthest 5 = .ok (.iconst 1, 1) := by decide +kernel
theorem dX7_farthest_6 : decode cX7_farthest 6 = .ok (.if_icmp .le 6, 3) := by decide +kernel
theorem dX7_farthest_9 : decode cX7_farthest 9 = .ok (.bipush (-3), 2) := by decide +kernel
theorem dX7_farthest_11 : decode cX7_farthest 11 = .ok (.ireturn, 1) := by decide +kernel
theorem dX7_farthest_12 : decode cX7_farthest 12 = .ok (.aload_n 0, 1) := by decide +kernel
theorem dX7_farthest_13 : decode cX7_farthest 13 = .ok (.getfield 62, 3) := by decide +kernel
theorem dX7_farthest_16 : decode cX7_farthest 16 = .ok (.aload_n 0, 1) := by decide +kernel
theorem dX7_farthest_17 : decode cX7_farthest 17 = .ok (.getfield 133, 3) := by decide +kernel
theorem dX7_farthest_20 : decode cX7_farthest 20 = .ok (.aload_n 0, 1) := by decide +kernel
theorem dX7_farthest_21 : decode cX7_farthest 21 = .ok (.getfield 166, 3) := by decide +kernel
theorem dX7_farthest_24 : decode cX7_farthest 24 = .ok (.aload_n 0, 1) := by decide +kernel
theorem dX7_farthest_25 : decode cX7_farthest 25 = .ok (.getfield 10, 3) := by decide +kernel
theorem dX7_farthest_28 : decode cX7_farthest 28 = .ok (.getfield 126, 3) := by decide +kernel
theorem dX7_farthest_31 : decode cX7_farthest 31 = .ok (.invokevirtual 211, 3) := by decide +kernel
theorem dX7_farthest_34 : decode cX7_farthest 34 = .ok (.aload_n 0, 1) := by decide +kernel
theorem dX7_farthest_35 : decode cX7_farthest 35 = .ok (.getfield 62, 3) := by decide +kernel
theorem dX7_farthest_38 : decode cX7_farthest 38 = .ok (.invokevirtual 231, 3) := by decide +kernel
theorem dX7_farthest_41 : decode cX7_farthest 41 = .ok (.istore_n 2, 1) := by decide +kernel
theorem dX7_farthest_42 : decode cX7_farthest 42 = .ok (.iload_n 1, 1) := by decide +kernel
theorem dX7_farthest_43 : decode cX7_farthest 43 = .ok (.ifCond .ne 7, 3) := by decide +kernel
theorem dX7_farthest_46 : decode cX7_farthest 46 = .ok (.iload_n 2, 1) := by decide +kernel
theorem dX7_farthest_47 : decode cX7_farthest 47 = .ok (.goto 11, 3) := by decide +kernel
theorem dX7_farthest_50 : decode cX7_farthest 50 = .ok (.aload_n 0, 1) := by decide +kernel
theorem dX7_farthest_51 : decode cX7_farthest 51 = .ok (.getfield 62, 3) := by decide +kernel
theorem dX7_farthest_54 : decode cX7_farthest 54 = .ok (.iload_n 2, 1) := by decide +kernel
theorem dX7_farthest_55 : decode cX7_farthest 55 = .ok (.invokevirtual 228, 3) := by decide +kernel
theorem dX7_farthest_58 : decode cX7_farthest 58 = .ok (.ireturn, 1) := by decide +kernel
set_option maxRecDepth 20000 in
theorem ggX7_left_X7_noSquare : GoodIn wsX7_left wsX7_noSquare := goodIn_r _ [11, 1, 12, 13, 14, 15, 16, 17, 18, 107, 108, 109, 110, 111, 112, 113, 114, 115, 116, 117, 118, 119, 120, 121, 122, 123, 124, 125, 126, 127, 128, 129, 130] (by decide +kernel) (by decide +kernel)
set_option maxRecDepth 20000 in
theorem gX7_left_X7_noSquare : GoodIn wsX7_left (wsV RX7 122 RX7 yX7_noSquare wsX7_noSquare) := goodIn_app (goodIn_of _ (by decide +kernel)) ggX7_left_X7_noSquare
set_option maxRecDepth 20000 in
theorem ggX7_left_X5_taken : GoodIn wsX7_left wsX5_taken := goodIn_r _ [22, 23, 24, 10, 25, 122, 123, 124, 125, 126, 127, 128, 129, 130] (by decide +kernel) (by decide +kernel)
set_option maxRecDepth 20000 in
theorem gX7_left_X5_taken : GoodIn wsX7_left (wsV RX7 158 RX5 yX5_taken wsX5_taken) := goodIn_app (goodIn_of _ (by decide +kernel)) ggX7_left_X5_taken
set_option maxRecDepth 20000 in
theorem ggX7_left_X7_bit : GoodIn wsX7_left wsX7_bit := goodIn_r _ [28] (by decide +kernel) (by decide +kernel)
set_option maxRecDepth 20000 in
theorem gX7_left_X7_bit : GoodIn wsX7_left (va_wsS RX7 129 yX7_bit wsX7_bit) := goodIn_app (goodIn_of _ (by decide +kernel)) ggX7_left_X7_bit
set_option maxRecDepth 20000 in
theorem ggX7_left_X4_explore : GoodIn wsX7_left wsX4_explore := goodIn_r _ [33, 34, 35, 36, 37, 38, 39, 40, 41, 42, 43, 44, 45, 32, 46, 47, 48, 49, 50, 51, 52, 53, 54, 55, 27, 10, 28, 56, 57, 58, 59, 60, 61, 62, 63, 64, 65, 66, 67, 68, 69, 70, 71, 20, 21, 15, 22, 23, 24, 25, 72, 73, 74, 75, 76, 77, 78, 79, 80, 81, 82, 83, 84, 85, 86, 87, 88, 89, 90, 91, 92, 93, 94, 95, 96, 97, 131, 132, 133, 134, 135, 136, 137, 138, 122, 123, 124, 125, 126, 127, 128, 129, 130, 139, 140, 141] (by decide +kernel) (by decide +kernel)
set_option maxRecDepth 20000 in
theorem gX7_left_X4_explore : GoodIn wsX7_left (wsV RX7 211 RX4 yX4_explore wsX4_explore) := goodIn_app (goodIn_of _ (by decide +kernel)) ggX7_left_X4_explore
set_option maxRecDepth 20000 in
theorem ggX7_left_X4_firstHome : GoodIn wsX7_left wsX4_firstHome := goodIn_r _ [101, 34, 35, 42, 38, 102, 131, 132, 133, 134, 135, 136, 137, 138, 122, 123, 124, 125, 126, 127, 128, 129, 130] (by decide +kernel) (by decide +kernel)
set_option maxRecDepth 20000 in
theorem gX7_left_X4_firstHome : GoodIn wsX7_left (wsV RX7 215 RX4 yX4_firstHome wsX4_firstHome) := goodIn_app (goodIn_of _ (by decide +kernel)) ggX7_left_X4_firstHome
set_option maxRecDepth 20000 in
theorem ggX7_left_X4_depthOf : GoodIn wsX7_left wsX4_depthOf := goodIn_r _ [106, 34, 40, 131, 132, 133, 134, 135, 136, 137, 138] (by decide +kernel) (by decide +kernel)
set_option maxRecDepth 20000 in
theorem gX7_left_X4_depthOf : GoodIn wsX7_left (wsV RX7 219 RX4 yX4_depthOf wsX4_depthOf) := goodIn_app (goodIn_of _ (by decide +kernel)) ggX7_left_X4_depthOf
theorem dX7_left_0 : decode cX7_left 0 = .ok (.aload_n 0, 1) := by decide +kernel
theorem dX7_left_1 : decode cX7_left 1 = .ok (.iload_n 1, 1) := by decide +kernel
theorem dX7_left_2 : decode cX7_left 2 = .ok (.invokevirtual 122, 3) := by decide +kernel
theorem dX7_left_5 : decode cX7_left 5 = .ok (.ifCond .eq 6, 3) := by decide +kernel
theorem dX7_left_8 : decode cX7_left 8 = .ok (.bipush (-2), 2) := by decide +kernel
theorem dX7_left_10 : decode cX7_left 10 = .ok (.ireturn, 1) := by decide +kernel
theorem dX7_left_11 : decode cX7_left 11 = .ok (.aload_n 0, 1) := by decide +kernel
theorem dX7_left_12 : decode cX7_left 12 = .ok (.getfield 10, 3) := by decide +kernel
theorem dX7_left_15 : decode cX7_left 15 = .ok (.getfield 126, 3) := by decide +kernel
theorem dX7_left_18 : decode cX7_left 18 = .ok (.aload_n 0, 1) := by decide +kernel
theorem dX7_left_19 : decode cX7_left 19 = .ok (.getfield 10, 3) := by decide +kernel
theorem dX7_left_22 : decode cX7_left 22 = .ok (.aload_n 0, 1) := by decide +kernel
theorem dX7_left_23 : decode cX7_left 23 = .ok (.getfield 133, 3) := by decide +kernel
theorem dX7_left_26 : decode cX7_left 26 = .ok (.invokevirtual 158, 3) := by decide +kernel
theorem dX7_left_29 : decode cX7_left 29 = .ok (.ior, 1) := by decide +kernel
theorem dX7_left_30 : decode cX7_left 30 = .ok (.aload_n 0, 1) := by decide +kernel
theorem dX7_left_31 : decode cX7_left 31 = .ok (.getfield 10, 3) := by decide +kernel
theorem dX7_left_34 : decode cX7_left 34 = .ok (.aload_n 0, 1) := by decide +kernel
theorem dX7_left_35 : decode cX7_left 35 = .ok (.getfield 10, 3) := by decide +kernel
theorem dX7_left_38 : decode cX7_left 38 = .ok (.getfield 139, 3) := by decide +kernel
theorem dX7_left_41 : decode cX7_left 41 = .ok (.invokevirtual 158, 3) := by decide +kernel
theorem dX7_left_44 : decode cX7_left 44 = .ok (.ior, 1) := by decide +kernel
theorem dX7_left_45 : decode cX7_left 45 = .ok (.istore_n 2, 1) := by decide +kernel
theorem dX7_left_46 : decode cX7_left 46 = .ok (.iload_n 2, 1) := by decide +kernel
theorem dX7_left_47 : decode cX7_left 47 = .ok (.iload_n 1, 1) := by decide +kernel
theorem dX7_left_48 : decode cX7_left 48 = .ok (.invokestatic 129, 3) := by decide +kernel
theorem dX7_left_51 : decode cX7_left 51 = .ok (.iconst 1, 1) := by decide +kernel
theorem dX7_left_52 : decode cX7_left 52 = .ok (.if_icmp .ne 6, 3) := by decide +kernel
theorem dX7_left_55 : decode cX7_left 55 = .ok (.bipush (-4), 2) := by decide +kernel
theorem dX7_left_57 : decode cX7_left 57 = .ok (.ireturn, 1) := by decide +kernel
theorem dX7_left_58 : decode cX7_left 58 = .ok (.aload_n 0, 1) := by decide +kernel
theorem dX7_left_59 : decode cX7_left 59 = .ok (.getfield 62, 3) := by decide +kernel
theorem dX7_left_62 : decode cX7_left 62 = .ok (.aload_n 0, 1) := by decide +kernel
theorem dX7_left_63 : decode cX7_left 63 = .ok (.getfield 133, 3) := by decide +kernel
theorem dX7_left_66 : decode cX7_left 66 = .ok (.aload_n 0, 1) := by decide +kernel
theorem dX7_left_67 : decode cX7_left 67 = .ok (.getfield 166, 3) := by decide +kernel
theorem dX7_left_70 : decode cX7_left 70 = .ok (.aload_n 0, 1) := by decide +kernel
theorem dX7_left_71 : decode cX7_left 71 = .ok (.getfield 10, 3) := by decide +kernel
theorem dX7_left_74 : decode cX7_left 74 = .ok (.getfield 126, 3) := by decide +kernel
theorem dX7_left_77 : decode cX7_left 77 = .ok (.iconst 1, 1) := by decide +kernel
theorem dX7_left_78 : decode cX7_left 78 = .ok (.iload_n 1, 1) := by decide +kernel
theorem dX7_left_79 : decode cX7_left 79 = .ok (.ishl, 1) := by decide +kernel
theorem dX7_left_80 : decode cX7_left 80 = .ok (.ior, 1) := by decide +kernel
theorem dX7_left_81 : decode cX7_left 81 = .ok (.invokevirtual 211, 3) := by decide +kernel
theorem dX7_left_84 : decode cX7_left 84 = .ok (.aload_n 0, 1) := by decide +kernel
theorem dX7_left_85 : decode cX7_left 85 = .ok (.getfield 62, 3) := by decide +kernel
theorem dX7_left_88 : decode cX7_left 88 = .ok (.aload_n 0, 1) := by decide +kernel
theorem dX7_left_89 : decode cX7_left 89 = .ok (.getfield 62, 3) := by decide +kernel
theorem dX7_left_92 : decode cX7_left 92 = .ok (.invokevirtual 215, 3) := by decide +kernel
theorem dX7_left_95 : decode cX7_left 95 = .ok (.invokevirtual 219, 3) := by decide +kernel
theorem dX7_left_98 : decode cX7_left 98 = .ok (.ireturn, 1) := by decide +kernel
set_option maxRecDepth 20000 in
theorem ggX7_added_X7_noSquare : GoodIn wsX7_added wsX7_noSquare := goodIn_r _ [10, 1, 11, 12, 13, 14, 15, 16, 17, 105, 106, 107, 108, 109, 110, 111, 112, 113, 114, 115, 116, 117, 118, 119, 120, 121, 122, 123, 124, 125, 126, 127, 128] (by decide +kernel) (by decide +kernel)
set_option maxRecDepth 20000 in
theorem gX7_added_X7_noSquare : GoodIn wsX7_added (wsV RX7 122 RX7 yX7_noSquare wsX7_noSquare) := goodIn_app (goodIn_of _ (by decide +kernel)) ggX7_added_X7_noSquare
set_option maxRecDepth 20000 in
theorem ggX7_added_X7_bit : GoodIn wsX7_added wsX7_bit := goodIn_r _ [20] (by decide +kernel) (by decide +kernel)
set_option maxRecDepth 20000 in
theorem gX7_added_X7_bit : GoodIn wsX7_added (va_wsS RX7 129 yX7_bit wsX7_bit) := goodIn_app (goodIn_of _ (by decide +kernel)) ggX7_added_X7_bit
set_option maxRecDepth 20000 in
theorem ggX7_added_X4_explore : GoodIn wsX7_added wsX4_explore := goodIn_r _ [25, 26, 27, 28, 29, 30, 31, 32, 33, 34, 35, 36, 37, 24, 38, 39, 40, 41, 42, 43, 44, 45, 46, 47, 19, 9, 20, 48, 49, 50, 51, 52, 53, 54, 55, 56, 57, 58, 59, 60, 61, 62, 63, 64, 65, 14, 66, 67, 68, 69, 70, 71, 72, 73, 74, 75, 76, 77, 78, 79, 80, 81, 82, 83, 84, 85, 86, 87, 88, 89, 90, 91, 92, 93, 94, 95, 129, 130, 131, 132, 133, 134, 135, 136, 120, 121, 122, 123, 124, 125, 126, 127, 128, 137, 138, 139] (by decide +kernel) (by decide +kernel)
set_option maxRecDepth 20000 in
theorem gX7_added_X4_explore : GoodIn wsX7_added (wsV RX7 211 RX4 yX4_explore wsX4_explore) := goodIn_app (goodIn_of _ (by decide +kernel)) ggX7_added_X4_explore
set_option maxRecDepth 20000 in
theorem ggX7_added_X4_firstHome : GoodIn wsX7_added wsX4_firstHome := goodIn_r _ [99, 26, 27, 34, 30, 100, 129, 130, 131, 132, 133, 134, 135, 136, 120, 121, 122, 123, 124, 125, 126, 127, 128] (by decide +kernel) (by decide +kernel)
set_option maxRecDepth 20000 in
theorem gX7_added_X4_firstHome : GoodIn wsX7_added (wsV RX7 215 RX4 yX4_firstHome wsX4_firstHome) := goodIn_app (goodIn_of _ (by decide +kernel)) ggX7_added_X4_firstHome
set_option maxRecDepth 20000 in
theorem ggX7_added_X4_depthOf : GoodIn wsX7_added wsX4_depthOf := goodIn_r _ [104, 26, 32, 129, 130, 131, 132, 133, 134, 135, 136] (by decide +kernel) (by decide +kernel)
set_option maxRecDepth 20000 in
theorem gX7_added_X4_depthOf : GoodIn wsX7_added (wsV RX7 219 RX4 yX4_depthOf wsX4_depthOf) := goodIn_app (goodIn_of _ (by decide +kernel)) ggX7_added_X4_depthOf
theorem dX7_added_0 : decode cX7_added 0 = .ok (.aload_n 0, 1) := by decide +kernel
theorem dX7_added_1 : decode cX7_added 1 = .ok (.iload_n 1, 1) := by decide +kernel
theorem dX7_added_2 : decode cX7_added 2 = .ok (.invokevirtual 122, 3) := by decide +kernel
theorem dX7_added_5 : decode cX7_added 5 = .ok (.ifCond .eq 6, 3) := by decide +kernel
theorem dX7_added_8 : decode cX7_added 8 = .ok (.bipush (-2), 2) := by decide +kernel
theorem dX7_added_10 : decode cX7_added 10 = .ok (.ireturn, 1) := by decide +kernel
theorem dX7_added_11 : decode cX7_added 11 = .ok (.aload_n 0, 1) := by decide +kernel
theorem dX7_added_12 : decode cX7_added 12 = .ok (.getfield 10, 3) := by decide +kernel
theorem dX7_added_15 : decode cX7_added 15 = .ok (.getfield 126, 3) := by decide +kernel
theorem dX7_added_18 : decode cX7_added 18 = .ok (.iload_n 1, 1) := by decide +kernel
theorem dX7_added_19 : decode cX7_added 19 = .ok (.invokestatic 129, 3) := by decide +kernel
theorem dX7_added_22 : decode cX7_added 22 = .ok (.ifCond .ne 6, 3) := by decide +kernel
theorem dX7_added_25 : decode cX7_added 25 = .ok (.bipush (-4), 2) := by decide +kernel
theorem dX7_added_27 : decode cX7_added 27 = .ok (.ireturn, 1) := by decide +kernel
theorem dX7_added_28 : decode cX7_added 28 = .ok (.aload_n 0, 1) := by decide +kernel
theorem dX7_added_29 : decode cX7_added 29 = .ok (.getfield 62, 3) := by decide +kernel
theorem dX7_added_32 : decode cX7_added 32 = .ok (.aload_n 0, 1) := by decide +kernel
theorem dX7_added_33 : decode cX7_added 33 = .ok (.getfield 133, 3) := by decide +kernel
theorem dX7_added_36 : decode cX7_added 36 = .ok (.aload_n 0, 1) := by decide +kernel
theorem dX7_added_37 : decode cX7_added 37 = .ok (.getfield 166, 3) := by decide +kernel
theorem dX7_added_40 : decode cX7_added 40 = .ok (.aload_n 0, 1) := by decide +kernel
theorem dX7_added_41 : decode cX7_added 41 = .ok (.getfield 10, 3) := by decide +kernel
theorem dX7_added_44 : decode cX7_added 44 = .ok (.getfield 126, 3) := by decide +kernel
theorem dX7_added_47 : decode cX7_added 47 = .ok (.iconst 1, 1) := by decide +kernel
theorem dX7_added_48 : decode cX7_added 48 = .ok (.iload_n 1, 1) := by decide +kernel
theorem dX7_added_49 : decode cX7_added 49 = .ok (.ishl, 1) := by decide +kernel
theorem dX7_added_50 : decode cX7_added 50 = .ok (.iconst (-1), 1) := by decide +kernel
theorem dX7_added_51 : decode cX7_added 51 = .ok (.ixor, 1) := by decide +kernel
theorem dX7_added_52 : decode cX7_added 52 = .ok (.iand, 1) := by decide +kernel
theorem dX7_added_53 : decode cX7_added 53 = .ok (.invokevirtual 211, 3) := by decide +kernel
theorem dX7_added_56 : decode cX7_added 56 = .ok (.aload_n 0, 1) := by decide +kernel
theorem dX7_added_57 : decode cX7_added 57 = .ok (.getfield 62, 3) := by decide +kernel
theorem dX7_added_60 : decode cX7_added 60 = .ok (.aload_n 0, 1) := by decide +kernel
theorem dX7_added_61 : decode cX7_added 61 = .ok (.getfield 62, 3) := by decide +kernel
theorem dX7_added_64 : decode cX7_added 64 = .ok (.invokevirtual 215, 3) := by decide +kernel
theorem dX7_added_67 : decode cX7_added 67 = .ok (.invokevirtual 219, 3) := by decide +kernel
theorem dX7_added_70 : decode cX7_added 70 = .ok (.ireturn, 1) := by decide +kernel
set_option maxRecDepth 20000 in
theorem ggX7_row_X7_noMan : GoodIn wsX7_row wsX7_noMan := goodIn_r _ [8, 9, 10, 22, 23, 24, 25, 26, 27, 28, 29, 30, 31, 32, 33, 34, 35, 36, 37, 38, 39, 40, 41, 42, 43, 44, 45] (by decide +kernel) (by decide +kernel)
set_option maxRecDepth 20000 in
theorem gX7_row_X7_noMan : GoodIn wsX7_row (wsV RX7 142 RX7 yX7_noMan wsX7_noMan) := goodIn_app (goodIn_of _ (by decide +kernel)) ggX7_row_X7_noMan
set_option maxRecDepth 20000 in
theorem ggX7_row_X7_noSquare : GoodIn wsX7_row wsX7_noSquare := goodIn_r _ [14, 9, 15, 16, 17, 18, 19, 20, 21, 22, 23, 24, 25, 26, 27, 28, 29, 30, 31, 32, 33, 34, 35, 36, 37, 38, 39, 40, 41, 42, 43, 44, 45] (by decide +kernel) (by decide +kernel)
set_option maxRecDepth 20000 in
theorem gX7_row_X7_noSquare : GoodIn wsX7_row (wsV RX7 122 RX7 yX7_noSquare wsX7_noSquare) := goodIn_app (goodIn_of _ (by decide +kernel)) ggX7_row_X7_noSquare
theorem dX7_row_0 : decode cX7_row 0 = .ok (.aload_n 0, 1) := by decide +kernel
theorem dX7_row_1 : decode cX7_row 1 = .ok (.iload_n 1, 1) := by decide +kernel
theorem dX7_row_2 : decode cX7_row 2 = .ok (.invokevirtual 142, 3) := by decide +kernel
theorem dX7_row_5 : decode cX7_row 5 = .ok (.ifCond .ne 11, 3) := by decide +kernel
theorem dX7_row_8 : decode cX7_row 8 = .ok (.aload_n 0, 1) := by decide +kernel
theorem dX7_row_9 : decode cX7_row 9 = .ok (.iload_n 2, 1) := by decide +kernel
theorem dX7_row_10 : decode cX7_row 10 = .ok (.invokevirtual 122, 3) := by decide +kernel
theorem dX7_row_13 : decode cX7_row 13 = .ok (.ifCond .eq 6, 3) := by decide +kernel
theorem dX7_row_16 : decode cX7_row 16 = .ok (.bipush (-2), 2) := by decide +kernel
theorem dX7_row_18 : decode cX7_row 18 = .ok (.ireturn, 1) := by decide +kernel
theorem dX7_row_19 : decode cX7_row 19 = .ok (.aload_n 0, 1) := by decide +kernel
theorem dX7_row_20 : decode cX7_row 20 = .ok (.getfield 234, 3) := by decide +kernel
theorem dX7_row_23 : decode cX7_row 23 = .ok (.bipush 12, 2) := by decide +kernel
theorem dX7_row_25 : decode cX7_row 25 = .ok (.if_icmp .lt 6, 3) := by decide +kernel
theorem dX7_row_28 : decode cX7_row 28 = .ok (.bipush (-5), 2) := by decide +kernel
theorem dX7_row_30 : decode cX7_row 30 = .ok (.ireturn, 1) := by decide +kernel
theorem dX7_row_31 : decode cX7_row 31 = .ok (.aload_n 0, 1) := by decide +kernel
theorem dX7_row_32 : decode cX7_row 32 = .ok (.getfield 77, 3) := by decide +kernel
theorem dX7_row_35 : decode cX7_row 35 = .ok (.aload_n 0, 1) := by decide +kernel
theorem dX7_row_36 : decode cX7_row 36 = .ok (.getfield 234, 3) := by decide +kernel
theorem dX7_row_39 : decode cX7_row 39 = .ok (.iload_n 1, 1) := by decide +kernel
theorem dX7_row_40 : decode cX7_row 40 = .ok (.iastore, 1) := by decide +kernel
theorem dX7_row_41 : decode cX7_row 41 = .ok (.aload_n 0, 1) := by decide +kernel
theorem dX7_row_42 : decode cX7_row 42 = .ok (.getfield 80, 3) := by decide +kernel
theorem dX7_row_45 : decode cX7_row 45 = .ok (.aload_n 0, 1) := by decide +kernel
theorem dX7_row_46 : decode cX7_row 46 = .ok (.getfield 234, 3) := by decide +kernel
theorem dX7_row_49 : decode cX7_row 49 = .ok (.iload_n 2, 1) := by decide +kernel
theorem dX7_row_50 : decode cX7_row 50 = .ok (.iastore, 1) := by decide +kernel
theorem dX7_row_51 : decode cX7_row 51 = .ok (.aload_n 0, 1) := by decide +kernel
theorem dX7_row_52 : decode cX7_row 52 = .ok (.dup, 1) := by decide +kernel
theorem dX7_row_53 : decode cX7_row 53 = .ok (.getfield 234, 3) := by decide +kernel
theorem dX7_row_56 : decode cX7_row 56 = .ok (.iconst 1, 1) := by decide +kernel
theorem dX7_row_57 : decode cX7_row 57 = .ok (.iadd, 1) := by decide +kernel
theorem dX7_row_58 : decode cX7_row 58 = .ok (.putfield 234, 3) := by decide +kernel
theorem dX7_row_61 : decode cX7_row 61 = .ok (.aload_n 0, 1) := by decide +kernel
theorem dX7_row_62 : decode cX7_row 62 = .ok (.getfield 234, 3) := by decide +kernel
theorem dX7_row_65 : decode cX7_row 65 = .ok (.ireturn, 1) := by decide +kernel
theorem dX7_burn_0 : decode cX7_burn 0 = .ok (.aload_n 0, 1) := by decide +kernel
theorem dX7_burn_1 : decode cX7_burn 1 = .ok (.getfield 234, 3) := by decide +kernel
theorem dX7_burn_4 : decode cX7_burn 4 = .ok (.istore_n 1, 1) := by decide +kernel
theorem dX7_burn_5 : decode cX7_burn 5 = .ok (.aload_n 0, 1) := by decide +kernel
theorem dX7_burn_6 : decode cX7_burn 6 = .ok (.iconst 0, 1) := by decide +kernel
theorem dX7_burn_7 : decode cX7_burn 7 = .ok (.putfield 234, 3) := by decide +kernel
theorem dX7_burn_10 : decode cX7_burn 10 = .ok (.iload_n 1, 1) := by decide +kernel
theorem dX7_burn_11 : decode cX7_burn 11 = .ok (.ireturn, 1) := by decide +kernel
set_option maxRecDepth 20000 in
theorem ggX7_judge_X1_allowed : GoodIn wsX7_judge wsX1_allowed := goodIn_r _ [13, 14, 15, 16, 12, 17, 18, 19, 20, 21, 22, 23, 24, 25, 26, 27, 28, 29, 30, 31, 32, 33, 34, 35, 36, 37, 38, 39, 40, 41, 42, 43, 44, 45, 46, 47, 48, 49, 50, 51, 52, 53, 54, 55, 82, 83, 73, 74, 75, 76, 77, 78, 79, 80, 81, 84] (by decide +kernel) (by decide +kernel)
set_option maxRecDepth 20000 in
theorem gX7_judge_X1_allowed : GoodIn wsX7_judge (wsV RX7 169 RX1 yX1_allowed wsX1_allowed) := goodIn_app (goodIn_of _ (by decide +kernel)) ggX7_judge_X1_allowed
set_option maxRecDepth 20000 in
theorem ggX7_judge_X7_bit : GoodIn wsX7_judge wsX7_bit := goodIn_r _ [44] (by decide +kernel) (by decide +kernel)
set_option maxRecDepth 20000 in
theorem gX7_judge_X7_bit : GoodIn wsX7_judge (va_wsS RX7 129 yX7_bit wsX7_bit) := goodIn_app (goodIn_of _ (by decide +kernel)) ggX7_judge_X7_bit
set_option maxRecDepth 20000 in
theorem ggX7_judge_X7_moved : GoodIn wsX7_judge wsX7_moved := goodIn_r _ [46] (by decide +kernel) (by decide +kernel)
set_option maxRecDepth 20000 in
theorem gX7_judge_X7_moved : GoodIn wsX7_judge (va_wsS RX7 172 yX7_moved wsX7_moved) := goodIn_app (goodIn_of _ (by decide +kernel)) ggX7_judge_X7_moved
theorem dX7_judge_0 : decode cX7_judge 0 = .ok (.aload_n 0, 1) := by decide +kernel
theorem dX7_judge_1 : decode cX7_judge 1 = .ok (.getfield 133, 3) := by decide +kernel
theorem dX7_judge_4 : decode cX7_judge 4 = .ok (.istore_n 1, 1) := by decide +kernel
theorem dX7_judge_5 : decode cX7_judge 5 = .ok (.iconst 0, 1) := by decide +kernel
theorem dX7_judge_6 : decode cX7_judge 6 = .ok (.istore_n 2, 1) := by decide +kernel
theorem dX7_judge_7 : decode cX7_judge 7 = .ok (.iload_n 2, 1) := by decide +kernel
theorem dX7_judge_8 : decode cX7_judge 8 = .ok (.aload_n 0, 1) := by decide +kernel
theorem dX7_judge_9 : decode cX7_judge 9 = .ok (.getfield 234, 3) := by decide +kernel
theorem dX7_judge_12 : decode cX7_judge 12 = .ok (.if_icmp .ge 75, 3) := by decide +kernel
theorem dX7_judge_15 : decode cX7_judge 15 = .ok (.iload_n 2, 1) := by decide +kernel
theorem dX7_judge_16 : decode cX7_judge 16 = .ok (.bipush 12, 2) := by decide +kernel
theorem dX7_judge_18 : decode cX7_judge 18 = .ok (.if_icmp .ge 69, 3) := by decide +kernel
theorem dX7_judge_21 : decode cX7_judge 21 = .ok (.aload_n 0, 1) := by decide +kernel
theorem dX7_judge_22 : decode cX7_judge 22 = .ok (.getfield 44, 3) := by decide +kernel
theorem dX7_judge_25 : decode cX7_judge 25 = .ok (.aload_n 0, 1) := by decide +kernel
theorem dX7_judge_26 : decode cX7_judge 26 = .ok (.getfield 77, 3) := by decide +kernel
theorem dX7_judge_29 : decode cX7_judge 29 = .ok (.iload_n 2, 1) := by decide +kernel
theorem dX7_judge_30 : decode cX7_judge 30 = .ok (.iaload, 1) := by decide +kernel
theorem dX7_judge_31 : decode cX7_judge 31 = .ok (.iload_n 1, 1) := by decide +kernel
theorem dX7_judge_32 : decode cX7_judge 32 = .ok (.aload_n 0, 1) := by decide +kernel
theorem dX7_judge_33 : decode cX7_judge 33 = .ok (.getfield 166, 3) := by decide +kernel
theorem dX7_judge_36 : decode cX7_judge 36 = .ok (.iload_n 2, 1) := by decide +kernel
theorem dX7_judge_37 : decode cX7_judge 37 = .ok (.iadd, 1) := by decide +kernel
theorem dX7_judge_38 : decode cX7_judge 38 = .ok (.aload_n 0, 1) := by decide +kernel
theorem dX7_judge_39 : decode cX7_judge 39 = .ok (.getfield 10, 3) := by decide +kernel
theorem dX7_judge_42 : decode cX7_judge 42 = .ok (.getfield 126, 3) := by decide +kernel
theorem dX7_judge_45 : decode cX7_judge 45 = .ok (.invokevirtual 169, 3) := by decide +kernel
theorem dX7_judge_48 : decode cX7_judge 48 = .ok (.istore_n 3, 1) := by decide +kernel
theorem dX7_judge_49 : decode cX7_judge 49 = .ok (.iload_n 3, 1) := by decide +kernel
theorem dX7_judge_50 : decode cX7_judge 50 = .ok (.aload_n 0, 1) := by decide +kernel
theorem dX7_judge_51 : decode cX7_judge 51 = .ok (.getfield 80, 3) := by decide +kernel
theorem dX7_judge_54 : decode cX7_judge 54 = .ok (.iload_n 2, 1) := by decide +kernel
theorem dX7_judge_55 : decode cX7_judge 55 = .ok (.iaload, 1) := by decide +kernel
theorem dX7_judge_56 : decode cX7_judge 56 = .ok (.invokestatic 129, 3) := by decide +kernel
theorem dX7_judge_59 : decode cX7_judge 59 = .ok (.ifCond .ne 5, 3) := by decide +kernel
theorem dX7_judge_62 : decode cX7_judge 62 = .ok (.iload_n 2, 1) := by decide +kernel
theorem dX7_judge_63 : decode cX7_judge 63 = .ok (.ireturn, 1) := by decide +kernel
theorem dX7_judge_64 : decode cX7_judge 64 = .ok (.iload_n 1, 1) := by decide +kernel
theorem dX7_judge_65 : decode cX7_judge 65 = .ok (.aload_n 0, 1) := by decide +kernel
theorem dX7_judge_66 : decode cX7_judge 66 = .ok (.getfield 77, 3) := by decide +kernel
theorem dX7_judge_69 : decode cX7_judge 69 = .ok (.iload_n 2, 1) := by decide +kernel
theorem dX7_judge_70 : decode cX7_judge 70 = .ok (.iaload, 1) := by decide +kernel
theorem dX7_judge_71 : decode cX7_judge 71 = .ok (.aload_n 0, 1) := by decide +kernel
theorem dX7_judge_72 : decode cX7_judge 72 = .ok (.getfield 80, 3) := by decide +kernel
theorem dX7_judge_75 : decode cX7_judge 75 = .ok (.iload_n 2, 1) := by decide +kernel
theorem dX7_judge_76 : decode cX7_judge 76 = .ok (.iaload, 1) := by decide +kernel
theorem dX7_judge_77 : decode cX7_judge 77 = .ok (.invokestatic 172, 3) := by decide +kernel
theorem dX7_judge_80 : decode cX7_judge 80 = .ok (.istore_n 1, 1) := by decide +kernel
theorem dX7_judge_81 : decode cX7_judge 81 = .ok (.iinc 2 1, 3) := by decide +kernel
theorem dX7_judge_84 : decode cX7_judge 84 = .ok (.goto (-77), 3) := by decide +kernel
theorem dX7_judge_87 : decode cX7_judge 87 = .ok (.iconst (-1), 1) := by decide +kernel
theorem dX7_judge_88 : decode cX7_judge 88 = .ok (.ireturn, 1) := by decide +kernel
set_option maxRecDepth 20000 in
theorem ggX7_count_X7_menAtHome : GoodIn wsX7_count wsX7_menAtHome := goodIn_r _ [15, 1, 4, 16, 17, 18, 19, 14, 20, 21, 22, 23, 24, 25, 26, 27, 28, 29, 30, 31, 32, 33, 34, 35, 36, 37, 38, 39, 40, 41, 42, 43, 44] (by decide +kernel) (by decide +kernel)
set_option maxRecDepth 20000 in
theorem gX7_count_X7_menAtHome : GoodIn wsX7_count (wsV RX7 240 RX7 yX7_menAtHome wsX7_menAtHome) := goodIn_app (goodIn_of _ (by decide +kernel)) ggX7_count_X7_menAtHome
theorem dX7_count_0 : decode cX7_count 0 = .ok (.iload_n 1, 1) := by decide +kernel
theorem dX7_count_1 : decode cX7_count 1 = .ok (.tableswitch 114 0 8 #[51, 59, 67, 75, 83, 91, 96, 101, 106], 51) := by decide +kernel
theorem dX7_count_52 : decode cX7_count 52 = .ok (.aload_n 0, 1) := by decide +kernel
theorem dX7_count_53 : decode cX7_count 53 = .ok (.getfield 10, 3) := by decide +kernel
theorem dX7_count_56 : decode cX7_count 56 = .ok (.getfield 83, 3) := by decide +kernel
theorem dX7_count_59 : decode cX7_count 59 = .ok (.ireturn, 1) := by decide +kernel
theorem dX7_count_60 : decode cX7_count 60 = .ok (.aload_n 0, 1) := by decide +kernel
theorem dX7_count_61 : decode cX7_count 61 = .ok (.getfield 10, 3) := by decide +kernel
theorem dX7_count_64 : decode cX7_count 64 = .ok (.getfield 87, 3) := by decide +kernel
theorem dX7_count_67 : decode cX7_count 67 = .ok (.ireturn, 1) := by decide +kernel
theorem dX7_count_68 : decode cX7_count 68 = .ok (.aload_n 0, 1) := by decide +kernel
theorem dX7_count_69 : decode cX7_count 69 = .ok (.getfield 10, 3) := by decide +kernel
theorem dX7_count_72 : decode cX7_count 72 = .ok (.getfield 202, 3) := by decide +kernel
theorem dX7_count_75 : decode cX7_count 75 = .ok (.ireturn, 1) := by decide +kernel
theorem dX7_count_76 : decode cX7_count 76 = .ok (.aload_n 0, 1) := by decide +kernel
theorem dX7_count_77 : decode cX7_count 77 = .ok (.getfield 10, 3) := by decide +kernel
theorem dX7_count_80 : decode cX7_count 80 = .ok (.getfield 126, 3) := by decide +kernel
theorem dX7_count_83 : decode cX7_count 83 = .ok (.ireturn, 1) := by decide +kernel
theorem dX7_count_84 : decode cX7_count 84 = .ok (.aload_n 0, 1) := by decide +kernel
theorem dX7_count_85 : decode cX7_count 85 = .ok (.getfield 10, 3) := by decide +kernel
theorem dX7_count_88 : decode cX7_count 88 = .ok (.getfield 237, 3) := by decide +kernel
theorem dX7_count_91 : decode cX7_count 91 = .ok (.ireturn, 1) := by decide +kernel
theorem dX7_count_92 : decode cX7_count 92 = .ok (.aload_n 0, 1) := by decide +kernel
theorem dX7_count_93 : decode cX7_count 93 = .ok (.getfield 166, 3) := by decide +kernel
theorem dX7_count_96 : decode cX7_count 96 = .ok (.ireturn, 1) := by decide +kernel
theorem dX7_count_97 : decode cX7_count 97 = .ok (.aload_n 0, 1) := by decide +kernel
theorem dX7_count_98 : decode cX7_count 98 = .ok (.invokevirtual 240, 3) := by decide +kernel
theorem dX7_count_101 : decode cX7_count 101 = .ok (.ireturn, 1) := by decide +kernel
theorem dX7_count_102 : decode cX7_count 102 = .ok (.aload_n 0, 1) := by decide +kernel
theorem dX7_count_103 : decode cX7_count 103 = .ok (.getfield 234, 3) := by decide +kernel
theorem dX7_count_106 : decode cX7_count 106 = .ok (.ireturn, 1) := by decide +kernel
theorem dX7_count_107 : decode cX7_count 107 = .ok (.aload_n 0, 1) := by decide +kernel
theorem dX7_count_108 : decode cX7_count 108 = .ok (.getfield 19, 3) := by decide +kernel
theorem dX7_count_111 : decode cX7_count 111 = .ok (.getfield 94, 3) := by decide +kernel
theorem dX7_count_114 : decode cX7_count 114 = .ok (.ireturn, 1) := by decide +kernel
theorem dX7_count_115 : decode cX7_count 115 = .ok (.bipush (-3), 2) := by decide +kernel
theorem dX7_count_117 : decode cX7_count 117 = .ok (.ireturn, 1) := by decide +kernel
set_option maxRecDepth 20000 in
theorem ggX7_noSquare_X5_squares : GoodIn wsX7_noSquare wsX5_squares := goodIn_r _ [6, 7, 8, 24, 25, 26, 27, 28, 29, 30, 31, 32] (by decide +kernel) (by decide +kernel)
set_option maxRecDepth 20000 in
theorem gX7_noSquare_X5_squares : GoodIn wsX7_noSquare (wsV RX7 243 RX5 yX5_squares wsX5_squares) := goodIn_app (goodIn_of _ (by decide +kernel)) ggX7_noSquare_X5_squares
theorem dX7_noSquare_0 : decode cX7_noSquare 0 = .ok (.iload_n 1, 1) := by decide +kernel
theorem dX7_noSquare_1 : decode cX7_noSquare 1 = .ok (.ifCond .lt 14, 3) := by decide +kernel
theorem dX7_noSquare_4 : decode cX7_noSquare 4 = .ok (.iload_n 1, 1) := by decide +kernel
theorem dX7_noSquare_5 : decode cX7_noSquare 5 = .ok (.aload_n 0, 1) := by decide +kernel
theorem dX7_noSquare_6 : decode cX7_noSquare 6 = .ok (.getfield 10, 3) := by decide +kernel
theorem dX7_noSquare_9 : decode cX7_noSquare 9 = .ok (.invokevirtual 243, 3) := by decide +kernel
theorem dX7_noSquare_12 : decode cX7_noSquare 12 = .ok (.if_icmp .lt 7, 3) := by decide +kernel
theorem dX7_noSquare_15 : decode cX7_noSquare 15 = .ok (.iconst 1, 1) := by decide +kernel
theorem dX7_noSquare_16 : decode cX7_noSquare 16 = .ok (.goto 4, 3) := by decide +kernel
theorem dX7_noSquare_19 : decode cX7_noSquare 19 = .ok (.iconst 0, 1) := by decide +kernel
theorem dX7_noSquare_20 : decode cX7_noSquare 20 = .ok (.ireturn, 1) := by decide +kernel
theorem dX7_noMan_0 : decode cX7_noMan 0 = .ok (.iload_n 1, 1) := by decide +kernel
theorem dX7_noMan_1 : decode cX7_noMan 1 = .ok (.ifCond .lt 14, 3) := by decide +kernel
theorem dX7_noMan_4 : decode cX7_noMan 4 = .ok (.iload_n 1, 1) := by decide +kernel
theorem dX7_noMan_5 : decode cX7_noMan 5 = .ok (.aload_n 0, 1) := by decide +kernel
theorem dX7_noMan_6 : decode cX7_noMan 6 = .ok (.getfield 10, 3) := by decide +kernel
theorem dX7_noMan_9 : decode cX7_noMan 9 = .ok (.getfield 202, 3) := by decide +kernel
theorem dX7_noMan_12 : decode cX7_noMan 12 = .ok (.if_icmp .lt 7, 3) := by decide +kernel
theorem dX7_noMan_15 : decode cX7_noMan 15 = .ok (.iconst 1, 1) := by decide +kernel
theorem dX7_noMan_16 : decode cX7_noMan 16 = .ok (.goto 4, 3) := by decide +kernel
theorem dX7_noMan_19 : decode cX7_noMan 19 = .ok (.iconst 0, 1) := by decide +kernel
theorem dX7_noMan_20 : decode cX7_noMan 20 = .ok (.ireturn, 1) := by decide +kernel
theorem dX7_noKind_0 : decode cX7_noKind 0 = .ok (.iload_n 0, 1) := by decide +kernel
theorem dX7_noKind_1 : decode cX7_noKind 1 = .ok (.ifCond .lt 8, 3) := by decide +kernel
theorem dX7_noKind_4 : decode cX7_noKind 4 = .ok (.iload_n 0, 1) := by decide +kernel
theorem dX7_noKind_5 : decode cX7_noKind 5 = .ok (.iconst 3, 1) := by decide +kernel
theorem dX7_noKind_6 : decode cX7_noKind 6 = .ok (.if_icmp .le 7, 3) := by decide +kernel
theorem dX7_noKind_9 : decode cX7_noKind 9 = .ok (.iconst 1, 1) := by decide +kernel
theorem dX7_noKind_10 : decode cX7_noKind 10 = .ok (.goto 4, 3) := by decide +kernel
theorem dX7_noKind_13 : decode cX7_noKind 13 = .ok (.iconst 0, 1) := by decide +kernel
theorem dX7_noKind_14 : decode cX7_noKind 14 = .ok (.ireturn, 1) := by decide +kernel
theorem dX7_bit_0 : decode cX7_bit 0 = .ok (.iload_n 0, 1) := by decide +kernel
theorem dX7_bit_1 : decode cX7_bit 1 = .ok (.iload_n 1, 1) := by decide +kernel
theorem dX7_bit_2 : decode cX7_bit 2 = .ok (.ishr, 1) := by decide +kernel
theorem dX7_bit_3 : decode cX7_bit 3 = .ok (.iconst 1, 1) := by decide +kernel
theorem dX7_bit_4 : decode cX7_bit 4 = .ok (.iand, 1) := by decide +kernel
theorem dX7_bit_5 : decode cX7_bit 5 = .ok (.ireturn, 1) := by decide +kernel
theorem dX7_placeOf_0 : decode cX7_placeOf 0 = .ok (.iload_n 1, 1) := by decide +kernel
theorem dX7_placeOf_1 : decode cX7_placeOf 1 = .ok (.iconst 4, 1) := by decide +kernel
theorem dX7_placeOf_2 : decode cX7_placeOf 2 = .ok (.iload_n 0, 1) := by decide +kernel
theorem dX7_placeOf_3 : decode cX7_placeOf 3 = .ok (.imul, 1) := by decide +kernel
theorem dX7_placeOf_4 : decode cX7_placeOf 4 = .ok (.ishr, 1) := by decide +kernel
theorem dX7_placeOf_5 : decode cX7_placeOf 5 = .ok (.bipush 15, 2) := by decide +kernel
theorem dX7_placeOf_7 : decode cX7_placeOf 7 = .ok (.iand, 1) := by decide +kernel
theorem dX7_placeOf_8 : decode cX7_placeOf 8 = .ok (.ireturn, 1) := by decide +kernel
theorem dX7_moved_0 : decode cX7_moved 0 = .ok (.iload_n 0, 1) := by decide +kernel
theorem dX7_moved_1 : decode cX7_moved 1 = .ok (.bipush 15, 2) := by decide +kernel
theorem dX7_moved_3 : decode cX7_moved 3 = .ok (.iconst 4, 1) := by decide +kernel
theorem dX7_moved_4 : decode cX7_moved 4 = .ok (.iload_n 1, 1) := by decide +kernel
theorem dX7_moved_5 : decode cX7_moved 5 = .ok (.imul, 1) := by decide +kernel
theorem dX7_moved_6 : decode cX7_moved 6 = .ok (.ishl, 1) := by decide +kernel
theorem dX7_moved_7 : decode cX7_moved 7 = .ok (.iconst (-1), 1) := by decide +kernel
theorem dX7_moved_8 : decode cX7_moved 8 = .ok (.ixor, 1) := by decide +kernel
theorem dX7_moved_9 : decode cX7_moved 9 = .ok (.iand, 1) := by decide +kernel
theorem dX7_moved_10 : decode cX7_moved 10 = .ok (.iload_n 2, 1) := by decide +kernel
theorem dX7_moved_11 : decode cX7_moved 11 = .ok (.iconst 4, 1) := by decide +kernel
theorem dX7_moved_12 : decode cX7_moved 12 = .ok (.iload_n 1, 1) := by decide +kernel
theorem dX7_moved_13 : decode cX7_moved 13 = .ok (.imul, 1) := by decide +kernel
theorem dX7_moved_14 : decode cX7_moved 14 = .ok (.ishl, 1) := by decide +kernel
theorem dX7_moved_15 : decode cX7_moved 15 = .ok (.ior, 1) := by decide +kernel
theorem dX7_moved_16 : decode cX7_moved 16 = .ok (.ireturn, 1) := by decide +kernel
set_option maxRecDepth 20000 in
theorem ggX7_beginAnew_X0_lay : GoodIn wsX7_beginAnew wsX0_lay := goodIn_r _ [15, 16, 17, 18, 19, 20, 21, 22, 53] (by decide +kernel) (by decide +kernel)
set_option maxRecDepth 20000 in
theorem gX7_beginAnew_X0_lay : GoodIn wsX7_beginAnew (wsV RX7 90 RX0 yX0_lay wsX0_lay) := goodIn_app (goodIn_of _ (by decide +kernel)) ggX7_beginAnew_X0_lay
set_option maxRecDepth 20000 in
theorem ggX7_beginAnew_X4_forget : GoodIn wsX7_beginAnew wsX4_forget := goodIn_r _ [27, 28, 54, 55, 56, 57, 58, 59, 60, 61] (by decide +kernel) (by decide +kernel)
set_option maxRecDepth 20000 in
theorem gX7_beginAnew_X4_forget : GoodIn wsX7_beginAnew (wsV RX7 246 RX4 yX4_forget wsX4_forget) := goodIn_app (goodIn_of _ (by decide +kernel)) ggX7_beginAnew_X4_forget
theorem dX7_beginAnew_0 : decode cX7_beginAnew 0 = .ok (.aload_n 0, 1) := by decide +kernel
theorem dX7_beginAnew_1 : decode cX7_beginAnew 1 = .ok (.getfield 35, 3) := by decide +kernel
theorem dX7_beginAnew_4 : decode cX7_beginAnew 4 = .ok (.aload_n 0, 1) := by decide +kernel
theorem dX7_beginAnew_5 : decode cX7_beginAnew 5 = .ok (.getfield 10, 3) := by decide +kernel
theorem dX7_beginAnew_8 : decode cX7_beginAnew 8 = .ok (.getfield 83, 3) := by decide +kernel
theorem dX7_beginAnew_11 : decode cX7_beginAnew 11 = .ok (.aload_n 0, 1) := by decide +kernel
theorem dX7_beginAnew_12 : decode cX7_beginAnew 12 = .ok (.getfield 10, 3) := by decide +kernel
theorem dX7_beginAnew_15 : decode cX7_beginAnew 15 = .ok (.getfield 87, 3) := by decide +kernel
theorem dX7_beginAnew_18 : decode cX7_beginAnew 18 = .ok (.invokevirtual 90, 3) := by decide +kernel
theorem dX7_beginAnew_21 : decode cX7_beginAnew 21 = .ok (.aload_n 0, 1) := by decide +kernel
theorem dX7_beginAnew_22 : decode cX7_beginAnew 22 = .ok (.getfield 62, 3) := by decide +kernel
theorem dX7_beginAnew_25 : decode cX7_beginAnew 25 = .ok (.invokevirtual 246, 3) := by decide +kernel
theorem dX7_beginAnew_28 : decode cX7_beginAnew 28 = .ok (.aload_n 0, 1) := by decide +kernel
theorem dX7_beginAnew_29 : decode cX7_beginAnew 29 = .ok (.aload_n 0, 1) := by decide +kernel
theorem dX7_beginAnew_30 : decode cX7_beginAnew 30 = .ok (.getfield 10, 3) := by decide +kernel
theorem dX7_beginAnew_33 : decode cX7_beginAnew 33 = .ok (.getfield 249, 3) := by decide +kernel
theorem dX7_beginAnew_36 : decode cX7_beginAnew 36 = .ok (.putfield 133, 3) := by decide +kernel
theorem dX7_beginAnew_39 : decode cX7_beginAnew 39 = .ok (.aload_n 0, 1) := by decide +kernel
theorem dX7_beginAnew_40 : decode cX7_beginAnew 40 = .ok (.iconst 0, 1) := by decide +kernel
theorem dX7_beginAnew_41 : decode cX7_beginAnew 41 = .ok (.putfield 166, 3) := by decide +kernel
theorem dX7_beginAnew_44 : decode cX7_beginAnew 44 = .ok (.aload_n 0, 1) := by decide +kernel
theorem dX7_beginAnew_45 : decode cX7_beginAnew 45 = .ok (.iconst 0, 1) := by decide +kernel
theorem dX7_beginAnew_46 : decode cX7_beginAnew 46 = .ok (.putfield 234, 3) := by decide +kernel
theorem dX7_beginAnew_49 : decode cX7_beginAnew 49 = .ok (.iconst 0, 1) := by decide +kernel
theorem dX7_beginAnew_50 : decode cX7_beginAnew 50 = .ok (.istore_n 1, 1) := by decide +kernel
theorem dX7_beginAnew_51 : decode cX7_beginAnew 51 = .ok (.iload_n 1, 1) := by decide +kernel
theorem dX7_beginAnew_52 : decode cX7_beginAnew 52 = .ok (.iconst 2, 1) := by decide +kernel
theorem dX7_beginAnew_53 : decode cX7_beginAnew 53 = .ok (.if_icmp .ge 16, 3) := by decide +kernel
theorem dX7_beginAnew_56 : decode cX7_beginAnew 56 = .ok (.aload_n 0, 1) := by decide +kernel
theorem dX7_beginAnew_57 : decode cX7_beginAnew 57 = .ok (.getfield 73, 3) := by decide +kernel
theorem dX7_beginAnew_60 : decode cX7_beginAnew 60 = .ok (.iload_n 1, 1) := by decide +kernel
theorem dX7_beginAnew_61 : decode cX7_beginAnew 61 = .ok (.iconst 0, 1) := by decide +kernel
theorem dX7_beginAnew_62 : decode cX7_beginAnew 62 = .ok (.bastore, 1) := by decide +kernel
theorem dX7_beginAnew_63 : decode cX7_beginAnew 63 = .ok (.iinc 1 1, 3) := by decide +kernel
theorem dX7_beginAnew_66 : decode cX7_beginAnew 66 = .ok (.goto (-15), 3) := by decide +kernel
theorem dX7_beginAnew_69 : decode cX7_beginAnew 69 = .ok (.return_, 1) := by decide +kernel
set_option maxRecDepth 20000 in
theorem ggX7_isSuch_X7_noKind : GoodIn wsX7_isSuch wsX7_noKind := goodIn_r _ [6] (by decide +kernel) (by decide +kernel)
set_option maxRecDepth 20000 in
theorem gX7_isSuch_X7_noKind : GoodIn wsX7_isSuch (va_wsS RX7 179 yX7_noKind wsX7_noKind) := goodIn_app (goodIn_of _ (by decide +kernel)) ggX7_isSuch_X7_noKind
theorem dX7_isSuch_0 : decode cX7_isSuch 0 = .ok (.iload_n 0, 1) := by decide +kernel
theorem dX7_isSuch_1 : decode cX7_isSuch 1 = .ok (.invokestatic 179, 3) := by decide +kernel
theorem dX7_isSuch_4 : decode cX7_isSuch 4 = .ok (.ifCond .eq 5, 3) := by decide +kernel
theorem dX7_isSuch_7 : decode cX7_isSuch 7 = .ok (.iconst 0, 1) := by decide +kernel
theorem dX7_isSuch_8 : decode cX7_isSuch 8 = .ok (.ireturn, 1) := by decide +kernel
theorem dX7_isSuch_9 : decode cX7_isSuch 9 = .ok (.getstatic 252, 3) := by decide +kernel
theorem dX7_isSuch_12 : decode cX7_isSuch 12 = .ok (.iload_n 0, 1) := by decide +kernel
theorem dX7_isSuch_13 : decode cX7_isSuch 13 = .ok (.iaload, 1) := by decide +kernel
theorem dX7_isSuch_14 : decode cX7_isSuch 14 = .ok (.istore_n 2, 1) := by decide +kernel
theorem dX7_isSuch_15 : decode cX7_isSuch 15 = .ok (.iconst 0, 1) := by decide +kernel
theorem dX7_isSuch_16 : decode cX7_isSuch 16 = .ok (.istore_n 3, 1) := by decide +kernel
theorem dX7_isSuch_17 : decode cX7_isSuch 17 = .ok (.iload_n 3, 1) := by decide +kernel
theorem dX7_isSuch_18 : decode cX7_isSuch 18 = .ok (.bipush 6, 2) := by decide +kernel
theorem dX7_isSuch_20 : decode cX7_isSuch 20 = .ok (.if_icmp .gt 26, 3) := by decide +kernel
theorem dX7_isSuch_23 : decode cX7_isSuch 23 = .ok (.iload_n 2, 1) := by decide +kernel
theorem dX7_isSuch_24 : decode cX7_isSuch 24 = .ok (.ifCond .lt 22, 3) := by decide +kernel
theorem dX7_isSuch_27 : decode cX7_isSuch 27 = .ok (.iload_n 2, 1) := by decide +kernel
theorem dX7_isSuch_28 : decode cX7_isSuch 28 = .ok (.iload_n 1, 1) := by decide +kernel
theorem dX7_isSuch_29 : decode cX7_isSuch 29 = .ok (.if_icmp .ne 5, 3) := by decide +kernel
theorem dX7_isSuch_32 : decode cX7_isSuch 32 = .ok (.iconst 1, 1) := by decide +kernel
theorem dX7_isSuch_33 : decode cX7_isSuch 33 = .ok (.ireturn, 1) := by decide +kernel
theorem dX7_isSuch_34 : decode cX7_isSuch 34 = .ok (.getstatic 255, 3) := by decide +kernel
theorem dX7_isSuch_37 : decode cX7_isSuch 37 = .ok (.iload_n 2, 1) := by decide +kernel
theorem dX7_isSuch_38 : decode cX7_isSuch 38 = .ok (.iaload, 1) := by decide +kernel
theorem dX7_isSuch_39 : decode cX7_isSuch 39 = .ok (.istore_n 2, 1) := by decide +kernel
theorem dX7_isSuch_40 : decode cX7_isSuch 40 = .ok (.iinc 3 1, 3) := by decide +kernel
theorem dX7_isSuch_43 : decode cX7_isSuch 43 = .ok (.goto (-26), 3) := by decide +kernel
theorem dX7_isSuch_46 : decode cX7_isSuch 46 = .ok (.iconst 0, 1) := by decide +kernel
theorem dX7_isSuch_47 : decode cX7_isSuch 47 = .ok (.ireturn, 1) := by decide +kernel
theorem dX7_allAre_0 : decode cX7_allAre 0 = .ok (.iconst 0, 1) := by decide +kernel
theorem dX7_allAre_1 : decode cX7_allAre 1 = .ok (.istore_n 2, 1) := by decide +kernel
theorem dX7_allAre_2 : decode cX7_allAre 2 = .ok (.iload_n 2, 1) := by decide +kernel
theorem dX7_allAre_3 : decode cX7_allAre 3 = .ok (.aload_n 0, 1) := by decide +kernel
theorem dX7_allAre_4 : decode cX7_allAre 4 = .ok (.getfield 10, 3) := by decide +kernel
theorem dX7_allAre_7 : decode cX7_allAre 7 = .ok (.getfield 202, 3) := by decide +kernel
theorem dX7_allAre_10 : decode cX7_allAre 10 = .ok (.if_icmp .ge 24, 3) := by decide +kernel
theorem dX7_allAre_13 : decode cX7_allAre 13 = .ok (.aload_n 0, 1) := by decide +kernel
theorem dX7_allAre_14 : decode cX7_allAre 14 = .ok (.getfield 10, 3) := by decide +kernel
theorem dX7_allAre_17 : decode cX7_allAre 17 = .ok (.getfield 145, 3) := by decide +kernel
theorem dX7_allAre_20 : decode cX7_allAre 20 = .ok (.iload_n 2, 1) := by decide +kernel
theorem dX7_allAre_21 : decode cX7_allAre 21 = .ok (.iaload, 1) := by decide +kernel
theorem dX7_allAre_22 : decode cX7_allAre 22 = .ok (.iload_n 1, 1) := by decide +kernel
theorem dX7_allAre_23 : decode cX7_allAre 23 = .ok (.if_icmp .eq 5, 3) := by decide +kernel
theorem dX7_allAre_26 : decode cX7_allAre 26 = .ok (.iconst 0, 1) := by decide +kernel
theorem dX7_allAre_27 : decode cX7_allAre 27 = .ok (.ireturn, 1) := by decide +kernel
theorem dX7_allAre_28 : decode cX7_allAre 28 = .ok (.iinc 2 1, 3) := by decide +kernel
theorem dX7_allAre_31 : decode cX7_allAre 31 = .ok (.goto (-29), 3) := by decide +kernel
theorem dX7_allAre_34 : decode cX7_allAre 34 = .ok (.iconst 1, 1) := by decide +kernel
theorem dX7_allAre_35 : decode cX7_allAre 35 = .ok (.ireturn, 1) := by decide +kernel
set_option maxRecDepth 20000 in
theorem ggX7_orderIsKept_X7_placeOf : GoodIn wsX7_orderIsKept wsX7_placeOf := goodIn_r _ [8] (by decide +kernel) (by decide +kernel)
set_option maxRecDepth 20000 in
theorem gX7_orderIsKept_X7_placeOf : GoodIn wsX7_orderIsKept (va_wsS RX7 151 yX7_placeOf wsX7_placeOf) := goodIn_app (goodIn_of _ (by decide +kernel)) ggX7_orderIsKept_X7_placeOf
set_option maxRecDepth 20000 in
theorem ggX7_orderIsKept_X7_stepsAround : GoodIn wsX7_orderIsKept wsX7_stepsAround := goodIn_r _ [12, 13, 5, 6, 7, 8, 14, 15, 16, 17, 18, 19, 20, 21, 22, 23, 24, 25, 26, 27, 28, 29, 30, 31, 32, 33, 34, 35, 36, 37, 38, 39, 40, 41, 42, 43, 53, 54, 55] (by decide +kernel) (by decide +kernel)
set_option maxRecDepth 20000 in
theorem gX7_orderIsKept_X7_stepsAround : GoodIn wsX7_orderIsKept (wsV RX7 258 RX7 yX7_stepsAround wsX7_stepsAround) := goodIn_app (goodIn_of _ (by decide +kernel)) ggX7_orderIsKept_X7_stepsAround
theorem dX7_orderIsKept_0 : decode cX7_orderIsKept 0 = .ok (.iconst 0, 1) := by decide +kernel
theorem dX7_orderIsKept_1 : decode cX7_orderIsKept 1 = .ok (.aload_n 0, 1) := by decide +kernel
theorem dX7_orderIsKept_2 : decode cX7_orderIsKept 2 = .ok (.getfield 133, 3) := by decide +kernel
theorem dX7_orderIsKept_5 : decode cX7_orderIsKept 5 = .ok (.invokestatic 151, 3) := by decide +kernel
theorem dX7_orderIsKept_8 : decode cX7_orderIsKept 8 = .ok (.istore_n 2, 1) := by decide +kernel
theorem dX7_orderIsKept_9 : decode cX7_orderIsKept 9 = .ok (.iconst 1, 1) := by decide +kernel
theorem dX7_orderIsKept_10 : decode cX7_orderIsKept 10 = .ok (.istore_n 3, 1) := by decide +kernel
theorem dX7_orderIsKept_11 : decode cX7_orderIsKept 11 = .ok (.iload_n 3, 1) := by decide +kernel
theorem dX7_orderIsKept_12 : decode cX7_orderIsKept 12 = .ok (.aload_n 0, 1) := by decide +kernel
theorem dX7_orderIsKept_13 : decode cX7_orderIsKept 13 = .ok (.getfield 10, 3) := by decide +kernel
theorem dX7_orderIsKept_16 : decode cX7_orderIsKept 16 = .ok (.getfield 202, 3) := by decide +kernel
theorem dX7_orderIsKept_19 : decode cX7_orderIsKept 19 = .ok (.if_icmp .ge 105, 3) := by decide +kernel
theorem dX7_orderIsKept_22 : decode cX7_orderIsKept 22 = .ok (.iconst 1, 1) := by decide +kernel
theorem dX7_orderIsKept_23 : decode cX7_orderIsKept 23 = .ok (.istore 4, 2) := by decide +kernel
theorem dX7_orderIsKept_25 : decode cX7_orderIsKept 25 = .ok (.iload 4, 2) := by decide +kernel
theorem dX7_orderIsKept_27 : decode cX7_orderIsKept 27 = .ok (.iload_n 3, 1) := by decide +kernel
theorem dX7_orderIsKept_28 : decode cX7_orderIsKept 28 = .ok (.if_icmp .ge 90, 3) := by decide +kernel
theorem dX7_orderIsKept_31 : decode cX7_orderIsKept 31 = .ok (.aload_n 0, 1) := by decide +kernel
theorem dX7_orderIsKept_32 : decode cX7_orderIsKept 32 = .ok (.iload_n 2, 1) := by decide +kernel
theorem dX7_orderIsKept_33 : decode cX7_orderIsKept 33 = .ok (.iload_n 3, 1) := by decide +kernel
theorem dX7_orderIsKept_34 : decode cX7_orderIsKept 34 = .ok (.aload_n 0, 1) := by decide +kernel
theorem dX7_orderIsKept_35 : decode cX7_orderIsKept 35 = .ok (.getfield 133, 3) := by decide +kernel
theorem dX7_orderIsKept_38 : decode cX7_orderIsKept 38 = .ok (.iload_n 1, 1) := by decide +kernel
theorem dX7_orderIsKept_39 : decode cX7_orderIsKept 39 = .ok (.invokevirtual 258, 3) := by decide +kernel
theorem dX7_orderIsKept_42 : decode cX7_orderIsKept 42 = .ok (.aload_n 0, 1) := by decide +kernel
theorem dX7_orderIsKept_43 : decode cX7_orderIsKept 43 = .ok (.iload_n 2, 1) := by decide +kernel
theorem dX7_orderIsKept_44 : decode cX7_orderIsKept 44 = .ok (.iload 4, 2) := by decide +kernel
theorem dX7_orderIsKept_46 : decode cX7_orderIsKept 46 = .ok (.aload_n 0, 1) := by decide +kernel
theorem dX7_orderIsKept_47 : decode cX7_orderIsKept 47 = .ok (.getfield 133, 3) := by decide +kernel
theorem dX7_orderIsKept_50 : decode cX7_orderIsKept 50 = .ok (.iload_n 1, 1) := by decide +kernel
theorem dX7_orderIsKept_51 : decode cX7_orderIsKept 51 = .ok (.invokevirtual 258, 3) := by decide +kernel
theorem dX7_orderIsKept_54 : decode cX7_orderIsKept 54 = .ok (.if_icmp .ge 7, 3) := by decide +kernel
theorem dX7_orderIsKept_57 : decode cX7_orderIsKept 57 = .ok (.iconst 1, 1) := by decide +kernel
theorem dX7_orderIsKept_58 : decode cX7_orderIsKept 58 = .ok (.goto 4, 3) := by decide +kernel
theorem dX7_orderIsKept_61 : decode cX7_orderIsKept 61 = .ok (.iconst 0, 1) := by decide +kernel
theorem dX7_orderIsKept_62 : decode cX7_orderIsKept 62 = .ok (.istore 5, 2) := by decide +kernel
theorem dX7_orderIsKept_64 : decode cX7_orderIsKept 64 = .ok (.aload_n 0, 1) := by decide +kernel
theorem dX7_orderIsKept_65 : decode cX7_orderIsKept 65 = .ok (.iload_n 2, 1) := by decide +kernel
theorem dX7_orderIsKept_66 : decode cX7_orderIsKept 66 = .ok (.iload_n 3, 1) := by decide +kernel
theorem dX7_orderIsKept_67 : decode cX7_orderIsKept 67 = .ok (.aload_n 0, 1) := by decide +kernel
theorem dX7_orderIsKept_68 : decode cX7_orderIsKept 68 = .ok (.getfield 10, 3) := by decide +kernel
theorem dX7_orderIsKept_71 : decode cX7_orderIsKept 71 = .ok (.getfield 139, 3) := by decide +kernel
theorem dX7_orderIsKept_74 : decode cX7_orderIsKept 74 = .ok (.iload_n 1, 1) := by decide +kernel
theorem dX7_orderIsKept_75 : decode cX7_orderIsKept 75 = .ok (.invokevirtual 258, 3) := by decide +kernel
theorem dX7_orderIsKept_78 : decode cX7_orderIsKept 78 = .ok (.aload_n 0, 1) := by decide +kernel
theorem dX7_orderIsKept_79 : decode cX7_orderIsKept 79 = .ok (.iload_n 2, 1) := by decide +kernel
theorem dX7_orderIsKept_80 : decode cX7_orderIsKept 80 = .ok (.iload 4, 2) := by decide +kernel
theorem dX7_orderIsKept_82 : decode cX7_orderIsKept 82 = .ok (.aload_n 0, 1) := by decide +kernel
theorem dX7_orderIsKept_83 : decode cX7_orderIsKept 83 = .ok (.getfield 10, 3) := by decide +kernel
theorem dX7_orderIsKept_86 : decode cX7_orderIsKept 86 = .ok (.getfield 139, 3) := by decide +kernel
theorem dX7_orderIsKept_89 : decode cX7_orderIsKept 89 = .ok (.iload_n 1, 1) := by decide +kernel
theorem dX7_orderIsKept_90 : decode cX7_orderIsKept 90 = .ok (.invokevirtual 258, 3) := by decide +kernel
theorem dX7_orderIsKept_93 : decode cX7_orderIsKept 93 = .ok (.if_icmp .ge 7, 3) := by decide +kernel
theorem dX7_orderIsKept_96 : decode cX7_orderIsKept 96 = .ok (.iconst 1, 1) := by decide +kernel
theorem dX7_orderIsKept_97 : decode cX7_orderIsKept 97 = .ok (.goto 4, 3) := by decide +kernel
theorem dX7_orderIsKept_100 : decode cX7_orderIsKept 100 = .ok (.iconst 0, 1) := by decide +kernel
theorem dX7_orderIsKept_101 : decode cX7_orderIsKept 101 = .ok (.istore 6, 2) := by decide +kernel
theorem dX7_orderIsKept_103 : decode cX7_orderIsKept 103 = .ok (.iload 5, 2) := by decide +kernel
theorem dX7_orderIsKept_105 : decode cX7_orderIsKept 105 = .ok (.iload 6, 2) := by decide +kernel
theorem dX7_orderIsKept_107 : decode cX7_orderIsKept 107 = .ok (.if_icmp .eq 5, 3) := by decide +kernel
theorem dX7_orderIsKept_110 : decode cX7_orderIsKept 110 = .ok (.iconst 0, 1) := by decide +kernel
theorem dX7_orderIsKept_111 : decode cX7_orderIsKept 111 = .ok (.ireturn, 1) := by decide +kernel
theorem dX7_orderIsKept_112 : decode cX7_orderIsKept 112 = .ok (.iinc 4 1, 3) := by decide +kernel
theorem dX7_orderIsKept_115 : decode cX7_orderIsKept 115 = .ok (.goto (-90), 3) := by decide +kernel
theorem dX7_orderIsKept_118 : decode cX7_orderIsKept 118 = .ok (.iinc 3 1, 3) := by decide +kernel
theorem dX7_orderIsKept_121 : decode cX7_orderIsKept 121 = .ok (.goto (-110), 3) := by decide +kernel
theorem dX7_orderIsKept_124 : decode cX7_orderIsKept 124 = .ok (.iconst 1, 1) := by decide +kernel
theorem dX7_orderIsKept_125 : decode cX7_orderIsKept 125 = .ok (.ireturn, 1) := by decide +kernel
set_option maxRecDepth 20000 in
theorem ggX7_stepsAround_X7_placeOf : GoodIn wsX7_stepsAround wsX7_placeOf := goodIn_r _ [5] (by decide +kernel) (by decide +kernel)
set_option maxRecDepth 20000 in
theorem gX7_stepsAround_X7_placeOf : GoodIn wsX7_stepsAround (va_wsS RX7 151 yX7_placeOf wsX7_placeOf) := goodIn_app (goodIn_of _ (by decide +kernel)) ggX7_stepsAround_X7_placeOf
set_option maxRecDepth 20000 in
theorem ggX7_stepsAround_X2_stepsTo : GoodIn wsX7_stepsAround wsX2_stepsTo := goodIn_r _ [10, 11, 12, 13, 9, 14, 15, 16, 17, 18, 19, 20, 36, 37, 38] (by decide +kernel) (by decide +kernel)
set_option maxRecDepth 20000 in
theorem gX7_stepsAround_X2_stepsTo : GoodIn wsX7_stepsAround (wsV RX7 261 RX2 yX2_stepsTo wsX2_stepsTo) := goodIn_app (goodIn_of _ (by decide +kernel)) ggX7_stepsAround_X2_stepsTo
theorem dX7_stepsAround_0 : decode cX7_stepsAround 0 = .ok (.aload_n 0, 1) := by decide +kernel
theorem dX7_stepsAround_1 : decode cX7_stepsAround 1 = .ok (.getfield 53, 3) := by decide +kernel
theorem dX7_stepsAround_4 : decode cX7_stepsAround 4 = .ok (.iload_n 1, 1) := by decide +kernel
theorem dX7_stepsAround_5 : decode cX7_stepsAround 5 = .ok (.iload_n 2, 1) := by decide +kernel
theorem dX7_stepsAround_6 : decode cX7_stepsAround 6 = .ok (.iload_n 3, 1) := by decide +kernel
theorem dX7_stepsAround_7 : decode cX7_stepsAround 7 = .ok (.invokestatic 151, 3) := by decide +kernel
theorem dX7_stepsAround_10 : decode cX7_stepsAround 10 = .ok (.invokevirtual 261, 3) := by decide +kernel
theorem dX7_stepsAround_13 : decode cX7_stepsAround 13 = .ok (.aload_n 0, 1) := by decide +kernel
theorem dX7_stepsAround_14 : decode cX7_stepsAround 14 = .ok (.getfield 53, 3) := by decide +kernel
theorem dX7_stepsAround_17 : decode cX7_stepsAround 17 = .ok (.iload_n 1, 1) := by decide +kernel
theorem dX7_stepsAround_18 : decode cX7_stepsAround 18 = .ok (.iconst 0, 1) := by decide +kernel
theorem dX7_stepsAround_19 : decode cX7_stepsAround 19 = .ok (.iload_n 3, 1) := by decide +kernel
theorem dX7_stepsAround_20 : decode cX7_stepsAround 20 = .ok (.invokestatic 151, 3) := by decide +kernel
theorem dX7_stepsAround_23 : decode cX7_stepsAround 23 = .ok (.invokevirtual 261, 3) := by decide +kernel
theorem dX7_stepsAround_26 : decode cX7_stepsAround 26 = .ok (.isub, 1) := by decide +kernel
theorem dX7_stepsAround_27 : decode cX7_stepsAround 27 = .ok (.istore 5, 2) := by decide +kernel
theorem dX7_stepsAround_29 : decode cX7_stepsAround 29 = .ok (.iload 5, 2) := by decide +kernel
theorem dX7_stepsAround_31 : decode cX7_stepsAround 31 = .ok (.ifCond .ge 11, 3) := by decide +kernel
theorem dX7_stepsAround_34 : decode cX7_stepsAround 34 = .ok (.iload 5, 2) := by decide +kernel
theorem dX7_stepsAround_36 : decode cX7_stepsAround 36 = .ok (.iload 4, 2) := by decide +kernel
theorem dX7_stepsAround_38 : decode cX7_stepsAround 38 = .ok (.iadd, 1) := by decide +kernel
theorem dX7_stepsAround_39 : decode cX7_stepsAround 39 = .ok (.goto 5, 3) := by decide +kernel
theorem dX7_stepsAround_42 : decode cX7_stepsAround 42 = .ok (.iload 5, 2) := by decide +kernel
theorem dX7_stepsAround_44 : decode cX7_stepsAround 44 = .ok (.ireturn, 1) := by decide +kernel
set_option maxRecDepth 20000 in
theorem ggX7_menAtHome_X7_placeOf : GoodIn wsX7_menAtHome wsX7_placeOf := goodIn_r _ [8] (by decide +kernel) (by decide +kernel)
set_option maxRecDepth 20000 in
theorem gX7_menAtHome_X7_placeOf : GoodIn wsX7_menAtHome (va_wsS RX7 151 yX7_placeOf wsX7_placeOf) := goodIn_app (goodIn_of _ (by decide +kernel)) ggX7_menAtHome_X7_placeOf
theorem dX7_menAtHome_0 : decode cX7_menAtHome 0 = .ok (.iconst 0, 1) := by decide +kernel
theorem dX7_menAtHome_1 : decode cX7_menAtHome 1 = .ok (.istore_n 1, 1) := by decide +kernel
theorem dX7_menAtHome_2 : decode cX7_menAtHome 2 = .ok (.iconst 0, 1) := by decide +kernel
theorem dX7_menAtHome_3 : decode cX7_menAtHome 3 = .ok (.istore_n 2, 1) := by decide +kernel
theorem dX7_menAtHome_4 : decode cX7_menAtHome 4 = .ok (.iload_n 2, 1) := by decide +kernel
theorem dX7_menAtHome_5 : decode cX7_menAtHome 5 = .ok (.aload_n 0, 1) := by decide +kernel
theorem dX7_menAtHome_6 : decode cX7_menAtHome 6 = .ok (.getfield 10, 3) := by decide +kernel
theorem dX7_menAtHome_9 : decode cX7_menAtHome 9 = .ok (.getfield 202, 3) := by decide +kernel
theorem dX7_menAtHome_12 : decode cX7_menAtHome 12 = .ok (.if_icmp .ge 37, 3) := by decide +kernel
theorem dX7_menAtHome_15 : decode cX7_menAtHome 15 = .ok (.iload_n 2, 1) := by decide +kernel
theorem dX7_menAtHome_16 : decode cX7_menAtHome 16 = .ok (.aload_n 0, 1) := by decide +kernel
theorem dX7_menAtHome_17 : decode cX7_menAtHome 17 = .ok (.getfield 133, 3) := by decide +kernel
theorem dX7_menAtHome_20 : decode cX7_menAtHome 20 = .ok (.invokestatic 151, 3) := by decide +kernel
theorem dX7_menAtHome_23 : decode cX7_menAtHome 23 = .ok (.iload_n 2, 1) := by decide +kernel
theorem dX7_menAtHome_24 : decode cX7_menAtHome 24 = .ok (.aload_n 0, 1) := by decide +kernel
theorem dX7_menAtHome_25 : decode cX7_menAtHome 25 = .ok (.getfield 10, 3) := by decide +kernel
theorem dX7_menAtHome_28 : decode cX7_menAtHome 28 = .ok (.getfield 139, 3) := by decide +kernel
theorem dX7_menAtHome_31 : decode cX7_menAtHome 31 = .ok (.invokestatic 151, 3) := by decide +kernel
theorem dX7_menAtHome_34 : decode cX7_menAtHome 34 = .ok (.if_icmp .ne 9, 3) := by decide +kernel
theorem dX7_menAtHome_37 : decode cX7_menAtHome 37 = .ok (.iload_n 1, 1) := by decide +kernel
theorem dX7_menAtHome_38 : decode cX7_menAtHome 38 = .ok (.iconst 1, 1) := by decide +kernel
theorem dX7_menAtHome_39 : decode cX7_menAtHome 39 = .ok (.iload_n 2, 1) := by decide +kernel
theorem dX7_menAtHome_40 : decode cX7_menAtHome 40 = .ok (.ishl, 1) := by decide +kernel
theorem dX7_menAtHome_41 : decode cX7_menAtHome 41 = .ok (.ior, 1) := by decide +kernel
theorem dX7_menAtHome_42 : decode cX7_menAtHome 42 = .ok (.istore_n 1, 1) := by decide +kernel
theorem dX7_menAtHome_43 : decode cX7_menAtHome 43 = .ok (.iinc 2 1, 3) := by decide +kernel
theorem dX7_menAtHome_46 : decode cX7_menAtHome 46 = .ok (.goto (-42), 3) := by decide +kernel
theorem dX7_menAtHome_49 : decode cX7_menAtHome 49 = .ok (.iload_n 1, 1) := by decide +kernel
theorem dX7_menAtHome_50 : decode cX7_menAtHome 50 = .ok (.ireturn, 1) := by decide +kernel
theorem dX8_init_0 : decode cX8_init 0 = .ok (.aload_n 0, 1) := by decide +kernel
theorem dX8_init_1 : decode cX8_init 1 = .ok (.invokespecial 1, 3) := by decide +kernel
theorem dX8_init_4 : decode cX8_init 4 = .ok (.aload_n 0, 1) := by decide +kernel
theorem dX8_init_5 : decode cX8_init 5 = .ok (.iconst 3, 1) := by decide +kernel
theorem dX8_init_6 : decode cX8_init 6 = .ok (.putfield 7, 3) := by decide +kernel
theorem dX8_init_9 : decode cX8_init 9 = .ok (.aload_n 0, 1) := by decide +kernel
theorem dX8_init_10 : decode cX8_init 10 = .ok (.iconst 3, 1) := by decide +kernel
theorem dX8_init_11 : decode cX8_init 11 = .ok (.putfield 13, 3) := by decide +kernel
theorem dX8_init_14 : decode cX8_init 14 = .ok (.aload_n 0, 1) := by decide +kernel
theorem dX8_init_15 : decode cX8_init 15 = .ok (.bipush 16, 2) := by decide +kernel
theorem dX8_init_17 : decode cX8_init 17 = .ok (.newarray .int, 2) := by decide +kernel
theorem dX8_init_19 : decode cX8_init 19 = .ok (.putfield 16, 3) := by decide +kernel
theorem dX8_init_22 : decode cX8_init 22 = .ok (.aload_n 0, 1) := by decide +kernel
theorem dX8_init_23 : decode cX8_init 23 = .ok (.sipush 200, 3) := by decide +kernel
theorem dX8_init_26 : decode cX8_init 26 = .ok (.newarray .int, 2) := by decide +kernel
theorem dX8_init_28 : decode cX8_init 28 = .ok (.putfield 20, 3) := by decide +kernel
theorem dX8_init_31 : decode cX8_init 31 = .ok (.aload_n 0, 1) := by decide +kernel
theorem dX8_init_32 : decode cX8_init 32 = .ok (.iconst 4, 1) := by decide +kernel
theorem dX8_init_33 : decode cX8_init 33 = .ok (.newarray .int, 2) := by decide +kernel
theorem dX8_init_35 : decode cX8_init 35 = .ok (.putfield 23, 3) := by decide +kernel
theorem dX8_init_38 : decode cX8_init 38 = .ok (.aload_n 0, 1) := by decide +kernel
theorem dX8_init_39 : decode cX8_init 39 = .ok (.iconst 4, 1) := by decide +kernel
theorem dX8_init_40 : decode cX8_init 40 = .ok (.newarray .int, 2) := by decide +kernel
theorem dX8_init_42 : decode cX8_init 42 = .ok (.putfield 26, 3) := by decide +kernel
theorem dX8_init_45 : decode cX8_init 45 = .ok (.aload_n 0, 1) := by decide +kernel
theorem dX8_init_46 : decode cX8_init 46 = .ok (.bipush 48, 2) := by decide +kernel
theorem dX8_init_48 : decode cX8_init 48 = .ok (.newarray .int, 2) := by decide +kernel
theorem dX8_init_50 : decode cX8_init 50 = .ok (.putfield 29, 3) := by decide +kernel
theorem dX8_init_53 : decode cX8_init 53 = .ok (.aload_n 0, 1) := by decide +kernel
theorem dX8_init_54 : decode cX8_init 54 = .ok (.iconst 4, 1) := by decide +kernel
theorem dX8_init_55 : decode cX8_init 55 = .ok (.newarray .int, 2) := by decide +kernel
theorem dX8_init_57 : decode cX8_init 57 = .ok (.putfield 32, 3) := by decide +kernel
theorem dX8_init_60 : decode cX8_init 60 = .ok (.aload_n 0, 1) := by decide +kernel
theorem dX8_init_61 : decode cX8_init 61 = .ok (.bipush 10, 2) := by decide +kernel
theorem dX8_init_63 : decode cX8_init 63 = .ok (.newarray .int, 2) := by decide +kernel
theorem dX8_init_65 : decode cX8_init 65 = .ok (.putfield 35, 3) := by decide +kernel
theorem dX8_init_68 : decode cX8_init 68 = .ok (.aload_n 0, 1) := by decide +kernel
theorem dX8_init_69 : decode cX8_init 69 = .ok (.iconst 2, 1) := by decide +kernel
theorem dX8_init_70 : decode cX8_init 70 = .ok (.newarray .boolean, 2) := by decide +kernel
theorem dX8_init_72 : decode cX8_init 72 = .ok (.putfield 38, 3) := by decide +kernel
theorem dX8_init_75 : decode cX8_init 75 = .ok (.aload_n 0, 1) := by decide +kernel
theorem dX8_init_76 : decode cX8_init 76 = .ok (.bipush 24, 2) := by decide +kernel
theorem dX8_init_78 : decode cX8_init 78 = .ok (.newarray .int, 2) := by decide +kernel
theorem dX8_init_80 : decode cX8_init 80 = .ok (.putfield 42, 3) := by decide +kernel
theorem dX8_init_83 : decode cX8_init 83 = .ok (.aload_n 0, 1) := by decide +kernel
theorem dX8_init_84 : decode cX8_init 84 = .ok (.ldc 45, 2) := by decide +kernel
theorem dX8_init_86 : decode cX8_init 86 = .ok (.newarray .int, 2) := by decide +kernel
theorem dX8_init_88 : decode cX8_init 88 = .ok (.putfield 46, 3) := by decide +kernel
theorem dX8_init_91 : decode cX8_init 91 = .ok (.aload_n 0, 1) := by decide +kernel
theorem dX8_init_92 : decode cX8_init 92 = .ok (.ldc 45, 2) := by decide +kernel
theorem dX8_init_94 : decode cX8_init 94 = .ok (.newarray .int, 2) := by decide +kernel
theorem dX8_init_96 : decode cX8_init 96 = .ok (.putfield 49, 3) := by decide +kernel
theorem dX8_init_99 : decode cX8_init 99 = .ok (.aload_n 0, 1) := by decide +kernel
theorem dX8_init_100 : decode cX8_init 100 = .ok (.ldc 45, 2) := by decide +kernel
theorem dX8_init_102 : decode cX8_init 102 = .ok (.newarray .int, 2) := by decide +kernel
theorem dX8_init_104 : decode cX8_init 104 = .ok (.putfield 52, 3) := by decide +kernel
theorem dX8_init_107 : decode cX8_init 107 = .ok (.aload_n 0, 1) := by decide +kernel
theorem dX8_init_108 : decode cX8_init 108 = .ok (.ldc 45, 2) := by decide +kernel
theorem dX8_init_110 : decode cX8_init 110 = .ok (.newarray .int, 2) := by decide +kernel
theorem dX8_init_112 : decode cX8_init 112 = .ok (.putfield 55, 3) := by decide +kernel
theorem dX8_init_115 : decode cX8_init 115 = .ok (.aload_n 0, 1) := by decide +kernel
theorem dX8_init_116 : decode cX8_init 116 = .ok (.iconst 4, 1) := by decide +kernel
theorem dX8_init_117 : decode cX8_init 117 = .ok (.newarray .int, 2) := by decide +kernel
theorem dX8_init_119 : decode cX8_init 119 = .ok (.putfield 58, 3) := by decide +kernel
theorem dX8_init_122 : decode cX8_init 122 = .ok (.aload_n 0, 1) := by decide +kernel
theorem dX8_init_123 : decode cX8_init 123 = .ok (.bipush 12, 2) := by decide +kernel
theorem dX8_init_125 : decode cX8_init 125 = .ok (.newarray .int, 2) := by decide +kernel
theorem dX8_init_127 : decode cX8_init 127 = .ok (.putfield 61, 3) := by decide +kernel
theorem dX8_init_130 : decode cX8_init 130 = .ok (.return_, 1) := by decide +kernel
theorem dX8_in_0 : decode cX8_in 0 = .ok (.iload_n 0, 1) := by decide +kernel
theorem dX8_in_1 : decode cX8_in 1 = .ok (.iload_n 1, 1) := by decide +kernel
theorem dX8_in_2 : decode cX8_in 2 = .ok (.if_icmp .lt 12, 3) := by decide +kernel
theorem dX8_in_5 : decode cX8_in 5 = .ok (.iload_n 0, 1) := by decide +kernel
theorem dX8_in_6 : decode cX8_in 6 = .ok (.iload_n 2, 1) := by decide +kernel
theorem dX8_in_7 : decode cX8_in 7 = .ok (.if_icmp .gt 7, 3) := by decide +kernel
theorem dX8_in_10 : decode cX8_in 10 = .ok (.iconst 1, 1) := by decide +kernel
theorem dX8_in_11 : decode cX8_in 11 = .ok (.goto 4, 3) := by decide +kernel
theorem dX8_in_14 : decode cX8_in 14 = .ok (.iconst 0, 1) := by decide +kernel
theorem dX8_in_15 : decode cX8_in 15 = .ok (.ireturn, 1) := by decide +kernel
theorem dX8_has_0 : decode cX8_has 0 = .ok (.iload_n 0, 1) := by decide +kernel
theorem dX8_has_1 : decode cX8_has 1 = .ok (.iload_n 1, 1) := by decide +kernel
theorem dX8_has_2 : decode cX8_has 2 = .ok (.ishr, 1) := by decide +kernel
theorem dX8_has_3 : decode cX8_has 3 = .ok (.iconst 1, 1) := by decide +kernel
theorem dX8_has_4 : decode cX8_has 4 = .ok (.iand, 1) := by decide +kernel
theorem dX8_has_5 : decode cX8_has 5 = .ok (.iconst 1, 1) := by decide +kernel
theorem dX8_has_6 : decode cX8_has 6 = .ok (.if_icmp .ne 7, 3) := by decide +kernel
theorem dX8_has_9 : decode cX8_has 9 = .ok (.iconst 1, 1) := by decide +kernel
theorem dX8_has_10 : decode cX8_has 10 = .ok (.goto 4, 3) := by decide +kernel
theorem dX8_has_13 : decode cX8_has 13 = .ok (.iconst 0, 1) := by decide +kernel
theorem dX8_has_14 : decode cX8_has 14 = .ok (.ireturn, 1) := by decide +kernel
theorem dX8_bits_0 : decode cX8_bits 0 = .ok (.iconst 0, 1) := by decide +kernel
theorem dX8_bits_1 : decode cX8_bits 1 = .ok (.istore_n 1, 1) := by decide +kernel
theorem dX8_bits_2 : decode cX8_bits 2 = .ok (.iconst 0, 1) := by decide +kernel
theorem dX8_bits_3 : decode cX8_bits 3 = .ok (.istore_n 2, 1) := by decide +kernel
theorem dX8_bits_4 : decode cX8_bits 4 = .ok (.iload_n 2, 1) := by decide +kernel
theorem dX8_bits_5 : decode cX8_bits 5 = .ok (.bipush 12, 2) := by decide +kernel
theorem dX8_bits_7 : decode cX8_bits 7 = .ok (.if_icmp .ge 17, 3) := by decide +kernel
theorem dX8_bits_10 : decode cX8_bits 10 = .ok (.iload_n 1, 1) := by decide +kernel
