theorem dX5_after_1 : decode cX5_after 1 = .ok (.getfield 12, 3) := by decide +kernel
theorem dX5_after_4 : decode cX5_after 4 = .ok (.aload_n 1, 1) := by decide +kernel
theorem dX5_after_5 : decode cX5_after 5 = .ok (.invokevirtual 26, 3) := by decide +kernel
theorem dX5_after_8 : decode cX5_after 8 = .ok (.iconst 1, 1) := by decide +kernel
theorem dX5_after_9 : decode cX5_after 9 = .ok (.istore_n 3, 1) := by decide +kernel
theorem dX5_after_10 : decode cX5_after 10 = .ok (.iload_n 3, 1) := by decide +kernel
theorem dX5_after_11 : decode cX5_after 11 = .ok (.iload_n 2, 1) := by decide +kernel
theorem dX5_after_12 : decode cX5_after 12 = .ok (.if_icmp .gt 32, 3) := by decide +kernel
theorem dX5_after_15 : decode cX5_after 15 = .ok (.aload_n 0, 1) := by decide +kernel
theorem dX5_after_16 : decode cX5_after 16 = .ok (.getfield 22, 3) := by decide +kernel
theorem dX5_after_19 : decode cX5_after 19 = .ok (.aload_n 0, 1) := by decide +kernel
theorem dX5_after_20 : decode cX5_after 20 = .ok (.getfield 12, 3) := by decide +kernel
theorem dX5_after_23 : decode cX5_after 23 = .ok (.invokevirtual 30, 3) := by decide +kernel
theorem dX5_after_26 : decode cX5_after 26 = .ok (.aload_n 0, 1) := by decide +kernel
theorem dX5_after_27 : decode cX5_after 27 = .ok (.getfield 22, 3) := by decide +kernel
theorem dX5_after_30 : decode cX5_after 30 = .ok (.aload_n 0, 1) := by decide +kernel
theorem dX5_after_31 : decode cX5_after 31 = .ok (.getfield 12, 3) := by decide +kernel
theorem dX5_after_34 : decode cX5_after 34 = .ok (.invokevirtual 35, 3) := by decide +kernel
theorem dX5_after_37 : decode cX5_after 37 = .ok (.pop, 1) := by decide +kernel
theorem dX5_after_38 : decode cX5_after 38 = .ok (.iinc 3 1, 3) := by decide +kernel
theorem dX5_after_41 : decode cX5_after 41 = .ok (.goto (-31), 3) := by decide +kernel
theorem dX5_after_44 : decode cX5_after 44 = .ok (.aload_n 0, 1) := by decide +kernel
theorem dX5_after_45 : decode cX5_after 45 = .ok (.getfield 12, 3) := by decide +kernel
theorem dX5_after_48 : decode cX5_after 48 = .ok (.areturn, 1) := by decide +kernel
set_option maxRecDepth 100000 in
theorem ggX5_nightDue_X3_howIs : GoodIn wsX5_nightDue wsX3_howIs := goodIn_r _ [7, 8, 9, 10, 11, 130, 131, 132, 133, 134, 135, 136, 137] rfl (by decide +kernel)
set_option maxRecDepth 100000 in
theorem gX5_nightDue_X3_howIs : GoodIn wsX5_nightDue (wsV RX5 39 RX3 yX3_howIs wsX3_howIs) := goodIn_app (goodIn_r ([.methodLink RX5 39 yX3_howIs, .instanceMethod yX3_howIs, .selects RX3 yX3_howIs yX3_howIs, .initialized RX3] : List Cond) [3, 4, 5, 6] rfl (by decide +kernel)) ggX5_nightDue_X3_howIs
set_option maxRecDepth 100000 in
theorem ggX5_nightDue_X3_copyFrom : GoodIn wsX5_nightDue wsX3_copyFrom := goodIn_r _ [15, 16, 17, 8, 18, 19, 20, 21, 22, 23, 10, 24, 130, 131, 132, 133, 134, 135, 136, 137] rfl (by decide +kernel)
set_option maxRecDepth 100000 in
theorem gX5_nightDue_X3_copyFrom : GoodIn wsX5_nightDue (wsV RX5 26 RX3 yX3_copyFrom wsX3_copyFrom) := goodIn_app (goodIn_r ([.methodLink RX5 26 yX3_copyFrom, .instanceMethod yX3_copyFrom, .selects RX3 yX3_copyFrom yX3_copyFrom, .initialized RX3] : List Cond) [12, 13, 14, 6] rfl (by decide +kernel)) ggX5_nightDue_X3_copyFrom
set_option maxRecDepth 100000 in
theorem ggX5_nightDue_X4_open : GoodIn wsX5_nightDue wsX4_open := goodIn_r _ [29, 30, 31, 32, 33, 34, 35, 36, 37, 38, 39, 40, 41, 42, 43, 44, 45, 46, 47, 9, 10, 11, 48, 49, 50, 6, 51, 17, 52, 53, 54, 55, 18, 16, 56, 57, 58, 59, 60, 61, 62, 138, 139, 140, 141, 142, 143, 144, 145, 146, 147, 148, 130, 131, 132, 133, 134, 135, 136, 137] rfl (by decide +kernel)
set_option maxRecDepth 100000 in
theorem gX5_nightDue_X4_open : GoodIn wsX5_nightDue (wsV RX5 30 RX4 yX4_open wsX4_open) := goodIn_app (goodIn_r ([.methodLink RX5 30 yX4_open, .instanceMethod yX4_open, .selects RX4 yX4_open yX4_open, .initialized RX4] : List Cond) [25, 26, 27, 28] rfl (by decide +kernel)) ggX5_nightDue_X4_open
set_option maxRecDepth 100000 in
theorem ggX5_nightDue_X4_close : GoodIn wsX5_nightDue wsX4_close := goodIn_r _ [66, 30, 67, 68, 69, 70, 71, 35, 72, 37, 73, 74, 75, 76, 77, 78, 79, 80, 81, 82, 83, 9, 10, 11, 84, 85, 86, 6, 87, 17, 61, 62, 88, 89, 90, 91, 60, 92, 93, 94, 28, 95, 31, 96, 97, 98, 99, 16, 18, 100, 101, 102, 45, 103, 47, 104, 105, 106, 107, 108, 109, 110, 111, 112, 113, 114, 115, 116, 117, 4, 5, 7, 8, 118, 119, 120, 121, 122, 49, 50, 51, 123, 124, 125, 126, 138, 139, 140, 141, 130, 131, 132, 133, 134, 135, 136, 137, 142, 143, 144, 145, 146, 147, 148] rfl (by decide +kernel)
set_option maxRecDepth 100000 in
theorem gX5_nightDue_X4_close : GoodIn wsX5_nightDue (wsV RX5 35 RX4 yX4_close wsX4_close) := goodIn_app (goodIn_r ([.methodLink RX5 35 yX4_close, .instanceMethod yX4_close, .selects RX4 yX4_close yX4_close, .initialized RX4] : List Cond) [63, 64, 65, 28] rfl (by decide +kernel)) ggX5_nightDue_X4_close
theorem dX5_nightDue_0 : decode cX5_nightDue 0 = .ok (.aload_n 1, 1) := by decide +kernel
theorem dX5_nightDue_1 : decode cX5_nightDue 1 = .ok (.iload_n 2, 1) := by decide +kernel
theorem dX5_nightDue_2 : decode cX5_nightDue 2 = .ok (.invokevirtual 39, 3) := by decide +kernel
theorem dX5_nightDue_5 : decode cX5_nightDue 5 = .ok (.ifCond .eq 5, 3) := by decide +kernel
theorem dX5_nightDue_8 : decode cX5_nightDue 8 = .ok (.iconst 0, 1) := by decide +kernel
theorem dX5_nightDue_9 : decode cX5_nightDue 9 = .ok (.ireturn, 1) := by decide +kernel
theorem dX5_nightDue_10 : decode cX5_nightDue 10 = .ok (.aload_n 0, 1) := by decide +kernel
theorem dX5_nightDue_11 : decode cX5_nightDue 11 = .ok (.getfield 12, 3) := by decide +kernel
theorem dX5_nightDue_14 : decode cX5_nightDue 14 = .ok (.aload_n 1, 1) := by decide +kernel
theorem dX5_nightDue_15 : decode cX5_nightDue 15 = .ok (.invokevirtual 26, 3) := by decide +kernel
theorem dX5_nightDue_18 : decode cX5_nightDue 18 = .ok (.iconst 1, 1) := by decide +kernel
theorem dX5_nightDue_19 : decode cX5_nightDue 19 = .ok (.istore 4, 2) := by decide +kernel
theorem dX5_nightDue_21 : decode cX5_nightDue 21 = .ok (.iload 4, 2) := by decide +kernel
theorem dX5_nightDue_23 : decode cX5_nightDue 23 = .ok (.iload_n 3, 1) := by decide +kernel
theorem dX5_nightDue_24 : decode cX5_nightDue 24 = .ok (.if_icmp .gt 46, 3) := by decide +kernel
theorem dX5_nightDue_27 : decode cX5_nightDue 27 = .ok (.aload_n 0, 1) := by decide +kernel
theorem dX5_nightDue_28 : decode cX5_nightDue 28 = .ok (.getfield 22, 3) := by decide +kernel
theorem dX5_nightDue_31 : decode cX5_nightDue 31 = .ok (.aload_n 0, 1) := by decide +kernel
theorem dX5_nightDue_32 : decode cX5_nightDue 32 = .ok (.getfield 12, 3) := by decide +kernel
theorem dX5_nightDue_35 : decode cX5_nightDue 35 = .ok (.invokevirtual 30, 3) := by decide +kernel
theorem dX5_nightDue_38 : decode cX5_nightDue 38 = .ok (.aload_n 0, 1) := by decide +kernel
theorem dX5_nightDue_39 : decode cX5_nightDue 39 = .ok (.getfield 22, 3) := by decide +kernel
theorem dX5_nightDue_42 : decode cX5_nightDue 42 = .ok (.aload_n 0, 1) := by decide +kernel
theorem dX5_nightDue_43 : decode cX5_nightDue 43 = .ok (.getfield 12, 3) := by decide +kernel
theorem dX5_nightDue_46 : decode cX5_nightDue 46 = .ok (.invokevirtual 35, 3) := by decide +kernel
theorem dX5_nightDue_49 : decode cX5_nightDue 49 = .ok (.pop, 1) := by decide +kernel
theorem dX5_nightDue_50 : decode cX5_nightDue 50 = .ok (.aload_n 0, 1) := by decide +kernel
theorem dX5_nightDue_51 : decode cX5_nightDue 51 = .ok (.getfield 12, 3) := by decide +kernel
theorem dX5_nightDue_54 : decode cX5_nightDue 54 = .ok (.iload_n 2, 1) := by decide +kernel
theorem dX5_nightDue_55 : decode cX5_nightDue 55 = .ok (.invokevirtual 39, 3) := by decide +kernel
theorem dX5_nightDue_58 : decode cX5_nightDue 58 = .ok (.ifCond .eq 6, 3) := by decide +kernel
theorem dX5_nightDue_61 : decode cX5_nightDue 61 = .ok (.iload 4, 2) := by decide +kernel
theorem dX5_nightDue_63 : decode cX5_nightDue 63 = .ok (.ireturn, 1) := by decide +kernel
theorem dX5_nightDue_64 : decode cX5_nightDue 64 = .ok (.iinc 4 1, 3) := by decide +kernel
theorem dX5_nightDue_67 : decode cX5_nightDue 67 = .ok (.goto (-46), 3) := by decide +kernel
theorem dX5_nightDue_70 : decode cX5_nightDue 70 = .ok (.bipush (-9), 2) := by decide +kernel
theorem dX5_nightDue_72 : decode cX5_nightDue 72 = .ok (.ireturn, 1) := by decide +kernel
set_option maxRecDepth 100000 in
theorem ggX5_cheapest_X3_copyFrom : GoodIn wsX5_cheapest wsX3_copyFrom := goodIn_r _ [8, 9, 10, 11, 12, 13, 14, 15, 16, 17, 18, 19, 145, 146, 147, 148, 149, 150, 151, 152] rfl (by decide +kernel)
set_option maxRecDepth 100000 in
theorem gX5_cheapest_X3_copyFrom : GoodIn wsX5_cheapest (wsV RX5 26 RX3 yX3_copyFrom wsX3_copyFrom) := goodIn_app (goodIn_r ([.methodLink RX5 26 yX3_copyFrom, .instanceMethod yX3_copyFrom, .selects RX3 yX3_copyFrom yX3_copyFrom, .initialized RX3] : List Cond) [4, 5, 6, 7] rfl (by decide +kernel)) ggX5_cheapest_X3_copyFrom
set_option maxRecDepth 100000 in
theorem ggX5_cheapest_X3_isBarred : GoodIn wsX5_cheapest wsX3_isBarred := goodIn_r _ [23, 12, 9, 24, 18, 25, 145, 146, 147, 148, 149, 150, 151, 152] rfl (by decide +kernel)
set_option maxRecDepth 100000 in
theorem gX5_cheapest_X3_isBarred : GoodIn wsX5_cheapest (wsV RX5 49 RX3 yX3_isBarred wsX3_isBarred) := goodIn_app (goodIn_r ([.methodLink RX5 49 yX3_isBarred, .instanceMethod yX3_isBarred, .selects RX3 yX3_isBarred yX3_isBarred, .initialized RX3] : List Cond) [20, 21, 22, 7] rfl (by decide +kernel)) ggX5_cheapest_X3_isBarred
set_option maxRecDepth 100000 in
theorem ggX5_cheapest_X4_open : GoodIn wsX5_cheapest wsX4_open := goodIn_r _ [30, 31, 32, 33, 34, 35, 36, 37, 38, 39, 40, 41, 42, 43, 44, 45, 46, 47, 48, 24, 18, 25, 49, 50, 51, 7, 52, 10, 53, 21, 22, 23, 12, 9, 54, 55, 56, 57, 58, 59, 60, 153, 154, 155, 156, 157, 158, 140, 141, 142, 143, 144, 145, 146, 147, 148, 149, 150, 151, 152] rfl (by decide +kernel)
set_option maxRecDepth 100000 in
theorem gX5_cheapest_X4_open : GoodIn wsX5_cheapest (wsV RX5 30 RX4 yX4_open wsX4_open) := goodIn_app (goodIn_r ([.methodLink RX5 30 yX4_open, .instanceMethod yX4_open, .selects RX4 yX4_open yX4_open, .initialized RX4] : List Cond) [26, 27, 28, 29] rfl (by decide +kernel)) ggX5_cheapest_X4_open
set_option maxRecDepth 100000 in
theorem ggX5_cheapest_X4_highestBid : GoodIn wsX5_cheapest wsX4_highestBid := goodIn_r _ [64, 31, 65, 66, 67, 36, 68, 38, 69, 70, 71, 72, 24, 18, 25, 153, 154, 155, 156, 157, 158] rfl (by decide +kernel)
set_option maxRecDepth 100000 in
theorem gX5_cheapest_X4_highestBid : GoodIn wsX5_cheapest (wsV RX5 53 RX4 yX4_highestBid wsX4_highestBid) := goodIn_app (goodIn_r ([.methodLink RX5 53 yX4_highestBid, .instanceMethod yX4_highestBid, .selects RX4 yX4_highestBid yX4_highestBid, .initialized RX4] : List Cond) [61, 62, 63, 29] rfl (by decide +kernel)) ggX5_cheapest_X4_highestBid
set_option maxRecDepth 100000 in
theorem ggX5_cheapest_X4_close : GoodIn wsX5_cheapest wsX4_close := goodIn_r _ [76, 31, 77, 78, 79, 70, 71, 36, 72, 38, 80, 81, 82, 83, 84, 85, 86, 87, 88, 89, 90, 24, 18, 25, 91, 92, 93, 7, 94, 10, 59, 60, 95, 96, 97, 98, 58, 99, 100, 101, 29, 102, 32, 103, 104, 105, 106, 9, 12, 107, 108, 109, 46, 110, 48, 111, 112, 113, 114, 115, 116, 117, 118, 119, 120, 121, 122, 123, 124, 125, 126, 127, 11, 128, 129, 130, 131, 132, 50, 51, 52, 133, 134, 135, 136, 153, 154, 155, 156, 145, 146, 147, 148, 149, 150, 151, 152, 157, 158, 140, 141, 142, 143, 144] rfl (by decide +kernel)
set_option maxRecDepth 100000 in
theorem gX5_cheapest_X4_close : GoodIn wsX5_cheapest (wsV RX5 35 RX4 yX4_close wsX4_close) := goodIn_app (goodIn_r ([.methodLink RX5 35 yX4_close, .instanceMethod yX4_close, .selects RX4 yX4_close yX4_close, .initialized RX4] : List Cond) [73, 74, 75, 29] rfl (by decide +kernel)) ggX5_cheapest_X4_close
theorem dX5_cheapest_0 : decode cX5_cheapest 0 = .ok (.bipush (-9), 2) := by decide +kernel
theorem dX5_cheapest_2 : decode cX5_cheapest 2 = .ok (.istore 5, 2) := by decide +kernel
theorem dX5_cheapest_4 : decode cX5_cheapest 4 = .ok (.bipush (-9), 2) := by decide +kernel
theorem dX5_cheapest_6 : decode cX5_cheapest 6 = .ok (.istore 6, 2) := by decide +kernel
theorem dX5_cheapest_8 : decode cX5_cheapest 8 = .ok (.aload_n 0, 1) := by decide +kernel
theorem dX5_cheapest_9 : decode cX5_cheapest 9 = .ok (.getfield 12, 3) := by decide +kernel
theorem dX5_cheapest_12 : decode cX5_cheapest 12 = .ok (.aload_n 1, 1) := by decide +kernel
theorem dX5_cheapest_13 : decode cX5_cheapest 13 = .ok (.invokevirtual 26, 3) := by decide +kernel
theorem dX5_cheapest_16 : decode cX5_cheapest 16 = .ok (.iconst 1, 1) := by decide +kernel
theorem dX5_cheapest_17 : decode cX5_cheapest 17 = .ok (.istore 7, 2) := by decide +kernel
theorem dX5_cheapest_19 : decode cX5_cheapest 19 = .ok (.iload 7, 2) := by decide +kernel
theorem dX5_cheapest_21 : decode cX5_cheapest 21 = .ok (.iload_n 3, 1) := by decide +kernel
theorem dX5_cheapest_22 : decode cX5_cheapest 22 = .ok (.if_icmp .gt 108, 3) := by decide +kernel
theorem dX5_cheapest_25 : decode cX5_cheapest 25 = .ok (.aload_n 0, 1) := by decide +kernel
theorem dX5_cheapest_26 : decode cX5_cheapest 26 = .ok (.getfield 12, 3) := by decide +kernel
theorem dX5_cheapest_29 : decode cX5_cheapest 29 = .ok (.iload_n 2, 1) := by decide +kernel
theorem dX5_cheapest_30 : decode cX5_cheapest 30 = .ok (.aload_n 0, 1) := by decide +kernel
theorem dX5_cheapest_31 : decode cX5_cheapest 31 = .ok (.getfield 18, 3) := by decide +kernel
theorem dX5_cheapest_34 : decode cX5_cheapest 34 = .ok (.getfield 43, 3) := by decide +kernel
theorem dX5_cheapest_37 : decode cX5_cheapest 37 = .ok (.invokevirtual 49, 3) := by decide +kernel
theorem dX5_cheapest_40 : decode cX5_cheapest 40 = .ok (.istore 8, 2) := by decide +kernel
theorem dX5_cheapest_42 : decode cX5_cheapest 42 = .ok (.aload_n 0, 1) := by decide +kernel
theorem dX5_cheapest_43 : decode cX5_cheapest 43 = .ok (.getfield 22, 3) := by decide +kernel
theorem dX5_cheapest_46 : decode cX5_cheapest 46 = .ok (.aload_n 0, 1) := by decide +kernel
theorem dX5_cheapest_47 : decode cX5_cheapest 47 = .ok (.getfield 12, 3) := by decide +kernel
theorem dX5_cheapest_50 : decode cX5_cheapest 50 = .ok (.invokevirtual 30, 3) := by decide +kernel
theorem dX5_cheapest_53 : decode cX5_cheapest 53 = .ok (.aload_n 0, 1) := by decide +kernel
theorem dX5_cheapest_54 : decode cX5_cheapest 54 = .ok (.getfield 22, 3) := by decide +kernel
theorem dX5_cheapest_57 : decode cX5_cheapest 57 = .ok (.invokevirtual 53, 3) := by decide +kernel
theorem dX5_cheapest_60 : decode cX5_cheapest 60 = .ok (.iconst 1, 1) := by decide +kernel
theorem dX5_cheapest_61 : decode cX5_cheapest 61 = .ok (.iadd, 1) := by decide +kernel
theorem dX5_cheapest_62 : decode cX5_cheapest 62 = .ok (.istore 9, 2) := by decide +kernel
theorem dX5_cheapest_64 : decode cX5_cheapest 64 = .ok (.aload_n 0, 1) := by decide +kernel
theorem dX5_cheapest_65 : decode cX5_cheapest 65 = .ok (.getfield 22, 3) := by decide +kernel
theorem dX5_cheapest_68 : decode cX5_cheapest 68 = .ok (.aload_n 0, 1) := by decide +kernel
theorem dX5_cheapest_69 : decode cX5_cheapest 69 = .ok (.getfield 12, 3) := by decide +kernel
theorem dX5_cheapest_72 : decode cX5_cheapest 72 = .ok (.invokevirtual 35, 3) := by decide +kernel
theorem dX5_cheapest_75 : decode cX5_cheapest 75 = .ok (.iload_n 2, 1) := by decide +kernel
theorem dX5_cheapest_76 : decode cX5_cheapest 76 = .ok (.if_icmp .ne 7, 3) := by decide +kernel
theorem dX5_cheapest_79 : decode cX5_cheapest 79 = .ok (.iconst 0, 1) := by decide +kernel
theorem dX5_cheapest_80 : decode cX5_cheapest 80 = .ok (.goto 5, 3) := by decide +kernel
theorem dX5_cheapest_83 : decode cX5_cheapest 83 = .ok (.iload 9, 2) := by decide +kernel
theorem dX5_cheapest_85 : decode cX5_cheapest 85 = .ok (.istore 10, 2) := by decide +kernel
theorem dX5_cheapest_87 : decode cX5_cheapest 87 = .ok (.iload 8, 2) := by decide +kernel
theorem dX5_cheapest_89 : decode cX5_cheapest 89 = .ok (.ifCond .ne 35, 3) := by decide +kernel
theorem dX5_cheapest_92 : decode cX5_cheapest 92 = .ok (.iload 10, 2) := by decide +kernel
theorem dX5_cheapest_94 : decode cX5_cheapest 94 = .ok (.bipush 40, 2) := by decide +kernel
theorem dX5_cheapest_96 : decode cX5_cheapest 96 = .ok (.if_icmp .le 6, 3) := by decide +kernel
theorem dX5_cheapest_99 : decode cX5_cheapest 99 = .ok (.goto 25, 3) := by decide +kernel
theorem dX5_cheapest_102 : decode cX5_cheapest 102 = .ok (.iload 5, 2) := by decide +kernel
theorem dX5_cheapest_104 : decode cX5_cheapest 104 = .ok (.bipush (-9), 2) := by decide +kernel
theorem dX5_cheapest_106 : decode cX5_cheapest 106 = .ok (.if_icmp .eq 10, 3) := by decide +kernel
theorem dX5_cheapest_109 : decode cX5_cheapest 109 = .ok (.iload 10, 2) := by decide +kernel
theorem dX5_cheapest_111 : decode cX5_cheapest 111 = .ok (.iload 6, 2) := by decide +kernel
theorem dX5_cheapest_113 : decode cX5_cheapest 113 = .ok (.if_icmp .ge 11, 3) := by decide +kernel
theorem dX5_cheapest_116 : decode cX5_cheapest 116 = .ok (.iload 7, 2) := by decide +kernel
theorem dX5_cheapest_118 : decode cX5_cheapest 118 = .ok (.istore 5, 2) := by decide +kernel
theorem dX5_cheapest_120 : decode cX5_cheapest 120 = .ok (.iload 10, 2) := by decide +kernel
theorem dX5_cheapest_122 : decode cX5_cheapest 122 = .ok (.istore 6, 2) := by decide +kernel
theorem dX5_cheapest_124 : decode cX5_cheapest 124 = .ok (.iinc 7 1, 3) := by decide +kernel
theorem dX5_cheapest_127 : decode cX5_cheapest 127 = .ok (.goto (-108), 3) := by decide +kernel
theorem dX5_cheapest_130 : decode cX5_cheapest 130 = .ok (.iload 4, 2) := by decide +kernel
theorem dX5_cheapest_132 : decode cX5_cheapest 132 = .ok (.ifCond .ne 8, 3) := by decide +kernel
theorem dX5_cheapest_135 : decode cX5_cheapest 135 = .ok (.iload 5, 2) := by decide +kernel
theorem dX5_cheapest_137 : decode cX5_cheapest 137 = .ok (.goto 5, 3) := by decide +kernel
theorem dX5_cheapest_140 : decode cX5_cheapest 140 = .ok (.iload 6, 2) := by decide +kernel
theorem dX5_cheapest_142 : decode cX5_cheapest 142 = .ok (.ireturn, 1) := by decide +kernel
set_option maxRecDepth 100000 in
theorem ggX5_holding_X3_copyFrom : GoodIn wsX5_holding wsX3_copyFrom := goodIn_r _ [8, 9, 10, 11, 12, 13, 14, 15, 16, 17, 18, 19, 156, 157, 158, 159, 160, 161, 162, 163] rfl (by decide +kernel)
set_option maxRecDepth 100000 in
theorem gX5_holding_X3_copyFrom : GoodIn wsX5_holding (wsV RX5 26 RX3 yX3_copyFrom wsX3_copyFrom) := goodIn_app (goodIn_r ([.methodLink RX5 26 yX3_copyFrom, .instanceMethod yX3_copyFrom, .selects RX3 yX3_copyFrom yX3_copyFrom, .initialized RX3] : List Cond) [4, 5, 6, 7] rfl (by decide +kernel)) ggX5_holding_X3_copyFrom
set_option maxRecDepth 100000 in
theorem ggX5_holding_X4_open : GoodIn wsX5_holding wsX4_open := goodIn_r _ [24, 25, 26, 27, 28, 29, 30, 31, 32, 33, 34, 35, 36, 37, 38, 39, 40, 41, 42, 43, 18, 44, 45, 46, 47, 7, 48, 10, 49, 50, 51, 52, 12, 9, 53, 54, 55, 56, 57, 58, 59, 164, 165, 166, 167, 168, 169, 151, 152, 153, 154, 155, 156, 157, 158, 159, 160, 161, 162, 163] rfl (by decide +kernel)
set_option maxRecDepth 100000 in
theorem gX5_holding_X4_open : GoodIn wsX5_holding (wsV RX5 30 RX4 yX4_open wsX4_open) := goodIn_app (goodIn_r ([.methodLink RX5 30 yX4_open, .instanceMethod yX4_open, .selects RX4 yX4_open yX4_open, .initialized RX4] : List Cond) [20, 21, 22, 23] rfl (by decide +kernel)) ggX5_holding_X4_open
set_option maxRecDepth 100000 in
theorem ggX5_holding_X3_isBarred : GoodIn wsX5_holding wsX3_isBarred := goodIn_r _ [52, 12, 9, 43, 18, 44, 156, 157, 158, 159, 160, 161, 162, 163] rfl (by decide +kernel)
set_option maxRecDepth 100000 in
theorem gX5_holding_X3_isBarred : GoodIn wsX5_holding (wsV RX5 49 RX3 yX3_isBarred wsX3_isBarred) := goodIn_app (goodIn_r ([.methodLink RX5 49 yX3_isBarred, .instanceMethod yX3_isBarred, .selects RX3 yX3_isBarred yX3_isBarred, .initialized RX3] : List Cond) [60, 50, 51, 7] rfl (by decide +kernel)) ggX5_holding_X3_isBarred
set_option maxRecDepth 100000 in
theorem ggX5_holding_X4_highestBid : GoodIn wsX5_holding wsX4_highestBid := goodIn_r _ [64, 25, 65, 66, 67, 30, 68, 32, 69, 70, 71, 72, 43, 18, 44, 164, 165, 166, 167, 168, 169] rfl (by decide +kernel)
set_option maxRecDepth 100000 in
theorem gX5_holding_X4_highestBid : GoodIn wsX5_holding (wsV RX5 53 RX4 yX4_highestBid wsX4_highestBid) := goodIn_app (goodIn_r ([.methodLink RX5 53 yX4_highestBid, .instanceMethod yX4_highestBid, .selects RX4 yX4_highestBid yX4_highestBid, .initialized RX4] : List Cond) [61, 62, 63, 23] rfl (by decide +kernel)) ggX5_holding_X4_highestBid
set_option maxRecDepth 100000 in
theorem ggX5_holding_X4_bidOwn : GoodIn wsX5_holding wsX4_bidOwn := goodIn_r _ [76, 26, 25, 77, 18, 78, 79, 80, 81, 82, 50, 51, 7, 52, 12, 9, 43, 44, 83, 54, 55, 30, 56, 57, 32, 58, 59, 164, 165, 166, 167, 151, 152, 153, 154, 155, 156, 157, 158, 159, 160, 161, 162, 163, 168, 169] rfl (by decide +kernel)
set_option maxRecDepth 100000 in
theorem gX5_holding_X4_bidOwn : GoodIn wsX5_holding (wsV RX5 57 RX4 yX4_bidOwn wsX4_bidOwn) := goodIn_app (goodIn_r ([.methodLink RX5 57 yX4_bidOwn, .instanceMethod yX4_bidOwn, .selects RX4 yX4_bidOwn yX4_bidOwn, .initialized RX4] : List Cond) [73, 74, 75, 23] rfl (by decide +kernel)) ggX5_holding_X4_bidOwn
set_option maxRecDepth 100000 in
theorem ggX5_holding_X4_close : GoodIn wsX5_holding wsX4_close := goodIn_r _ [87, 25, 88, 89, 90, 70, 71, 30, 72, 32, 91, 92, 93, 94, 95, 96, 97, 98, 99, 100, 101, 43, 18, 44, 102, 103, 104, 7, 105, 10, 58, 59, 106, 107, 108, 109, 57, 110, 111, 112, 23, 113, 26, 114, 115, 116, 117, 9, 12, 118, 119, 120, 40, 121, 42, 122, 123, 124, 125, 126, 127, 128, 129, 130, 131, 132, 133, 134, 135, 136, 137, 138, 11, 139, 140, 141, 142, 143, 46, 47, 48, 144, 145, 146, 147, 164, 165, 166, 167, 156, 157, 158, 159, 160, 161, 162, 163, 168, 169, 151, 152, 153, 154, 155] rfl (by decide +kernel)
set_option maxRecDepth 100000 in
theorem gX5_holding_X4_close : GoodIn wsX5_holding (wsV RX5 35 RX4 yX4_close wsX4_close) := goodIn_app (goodIn_r ([.methodLink RX5 35 yX4_close, .instanceMethod yX4_close, .selects RX4 yX4_close yX4_close, .initialized RX4] : List Cond) [84, 85, 86, 23] rfl (by decide +kernel)) ggX5_holding_X4_close
theorem dX5_holding_0 : decode cX5_holding 0 = .ok (.iconst 0, 1) := by decide +kernel
theorem dX5_holding_1 : decode cX5_holding 1 = .ok (.istore 5, 2) := by decide +kernel
theorem dX5_holding_3 : decode cX5_holding 3 = .ok (.aload_n 0, 1) := by decide +kernel
theorem dX5_holding_4 : decode cX5_holding 4 = .ok (.getfield 12, 3) := by decide +kernel
theorem dX5_holding_7 : decode cX5_holding 7 = .ok (.aload_n 1, 1) := by decide +kernel
theorem dX5_holding_8 : decode cX5_holding 8 = .ok (.invokevirtual 26, 3) := by decide +kernel
theorem dX5_holding_11 : decode cX5_holding 11 = .ok (.iconst 1, 1) := by decide +kernel
theorem dX5_holding_12 : decode cX5_holding 12 = .ok (.istore 6, 2) := by decide +kernel
theorem dX5_holding_14 : decode cX5_holding 14 = .ok (.iload 6, 2) := by decide +kernel
theorem dX5_holding_16 : decode cX5_holding 16 = .ok (.iload_n 3, 1) := by decide +kernel
theorem dX5_holding_17 : decode cX5_holding 17 = .ok (.if_icmp .gt 88, 3) := by decide +kernel
theorem dX5_holding_20 : decode cX5_holding 20 = .ok (.aload_n 0, 1) := by decide +kernel
theorem dX5_holding_21 : decode cX5_holding 21 = .ok (.getfield 22, 3) := by decide +kernel
theorem dX5_holding_24 : decode cX5_holding 24 = .ok (.aload_n 0, 1) := by decide +kernel
theorem dX5_holding_25 : decode cX5_holding 25 = .ok (.getfield 12, 3) := by decide +kernel
theorem dX5_holding_28 : decode cX5_holding 28 = .ok (.invokevirtual 30, 3) := by decide +kernel
theorem dX5_holding_31 : decode cX5_holding 31 = .ok (.aload_n 0, 1) := by decide +kernel
theorem dX5_holding_32 : decode cX5_holding 32 = .ok (.getfield 12, 3) := by decide +kernel
theorem dX5_holding_35 : decode cX5_holding 35 = .ok (.iload_n 2, 1) := by decide +kernel
theorem dX5_holding_36 : decode cX5_holding 36 = .ok (.aload_n 0, 1) := by decide +kernel
theorem dX5_holding_37 : decode cX5_holding 37 = .ok (.getfield 18, 3) := by decide +kernel
theorem dX5_holding_40 : decode cX5_holding 40 = .ok (.getfield 43, 3) := by decide +kernel
theorem dX5_holding_43 : decode cX5_holding 43 = .ok (.invokevirtual 49, 3) := by decide +kernel
theorem dX5_holding_46 : decode cX5_holding 46 = .ok (.ifCond .ne 41, 3) := by decide +kernel
theorem dX5_holding_49 : decode cX5_holding 49 = .ok (.aload_n 0, 1) := by decide +kernel
theorem dX5_holding_50 : decode cX5_holding 50 = .ok (.getfield 22, 3) := by decide +kernel
theorem dX5_holding_53 : decode cX5_holding 53 = .ok (.invokevirtual 53, 3) := by decide +kernel
theorem dX5_holding_56 : decode cX5_holding 56 = .ok (.iconst 1, 1) := by decide +kernel
theorem dX5_holding_57 : decode cX5_holding 57 = .ok (.iadd, 1) := by decide +kernel
theorem dX5_holding_58 : decode cX5_holding 58 = .ok (.istore 7, 2) := by decide +kernel
theorem dX5_holding_60 : decode cX5_holding 60 = .ok (.iload 7, 2) := by decide +kernel
theorem dX5_holding_62 : decode cX5_holding 62 = .ok (.bipush 40, 2) := by decide +kernel
theorem dX5_holding_64 : decode cX5_holding 64 = .ok (.if_icmp .le 6, 3) := by decide +kernel
theorem dX5_holding_67 : decode cX5_holding 67 = .ok (.bipush (-9), 2) := by decide +kernel
theorem dX5_holding_69 : decode cX5_holding 69 = .ok (.ireturn, 1) := by decide +kernel
theorem dX5_holding_70 : decode cX5_holding 70 = .ok (.aload_n 0, 1) := by decide +kernel
theorem dX5_holding_71 : decode cX5_holding 71 = .ok (.getfield 22, 3) := by decide +kernel
theorem dX5_holding_74 : decode cX5_holding 74 = .ok (.aload_n 0, 1) := by decide +kernel
theorem dX5_holding_75 : decode cX5_holding 75 = .ok (.getfield 12, 3) := by decide +kernel
theorem dX5_holding_78 : decode cX5_holding 78 = .ok (.iload_n 2, 1) := by decide +kernel
theorem dX5_holding_79 : decode cX5_holding 79 = .ok (.iload 7, 2) := by decide +kernel
theorem dX5_holding_81 : decode cX5_holding 81 = .ok (.invokevirtual 57, 3) := by decide +kernel
theorem dX5_holding_84 : decode cX5_holding 84 = .ok (.iinc 5 1, 3) := by decide +kernel
theorem dX5_holding_87 : decode cX5_holding 87 = .ok (.aload_n 0, 1) := by decide +kernel
theorem dX5_holding_88 : decode cX5_holding 88 = .ok (.getfield 22, 3) := by decide +kernel
theorem dX5_holding_91 : decode cX5_holding 91 = .ok (.aload_n 0, 1) := by decide +kernel
theorem dX5_holding_92 : decode cX5_holding 92 = .ok (.getfield 12, 3) := by decide +kernel
theorem dX5_holding_95 : decode cX5_holding 95 = .ok (.invokevirtual 35, 3) := by decide +kernel
theorem dX5_holding_98 : decode cX5_holding 98 = .ok (.pop, 1) := by decide +kernel
theorem dX5_holding_99 : decode cX5_holding 99 = .ok (.iinc 6 1, 3) := by decide +kernel
theorem dX5_holding_102 : decode cX5_holding 102 = .ok (.goto (-88), 3) := by decide +kernel
theorem dX5_holding_105 : decode cX5_holding 105 = .ok (.iload 4, 2) := by decide +kernel
theorem dX5_holding_107 : decode cX5_holding 107 = .ok (.ifCond .ne 18, 3) := by decide +kernel
theorem dX5_holding_110 : decode cX5_holding 110 = .ok (.aload_n 0, 1) := by decide +kernel
theorem dX5_holding_111 : decode cX5_holding 111 = .ok (.getfield 12, 3) := by decide +kernel
theorem dX5_holding_114 : decode cX5_holding 114 = .ok (.getfield 61, 3) := by decide +kernel
theorem dX5_holding_117 : decode cX5_holding 117 = .ok (.aload_n 1, 1) := by decide +kernel
theorem dX5_holding_118 : decode cX5_holding 118 = .ok (.getfield 61, 3) := by decide +kernel
theorem dX5_holding_121 : decode cX5_holding 121 = .ok (.isub, 1) := by decide +kernel
theorem dX5_holding_122 : decode cX5_holding 122 = .ok (.goto 5, 3) := by decide +kernel
theorem dX5_holding_125 : decode cX5_holding 125 = .ok (.iload 5, 2) := by decide +kernel
theorem dX5_holding_127 : decode cX5_holding 127 = .ok (.ireturn, 1) := by decide +kernel
set_option maxRecDepth 100000 in
theorem ggX5_paidBy_X3_copyFrom : GoodIn wsX5_paidBy wsX3_copyFrom := goodIn_r _ [7, 8, 9, 10, 11, 12, 13, 14, 15, 16, 17, 18, 141, 142, 143, 144, 145, 146, 147, 148] rfl (by decide +kernel)
set_option maxRecDepth 100000 in
theorem gX5_paidBy_X3_copyFrom : GoodIn wsX5_paidBy (wsV RX5 26 RX3 yX3_copyFrom wsX3_copyFrom) := goodIn_app (goodIn_r ([.methodLink RX5 26 yX3_copyFrom, .instanceMethod yX3_copyFrom, .selects RX3 yX3_copyFrom yX3_copyFrom, .initialized RX3] : List Cond) [3, 4, 5, 6] rfl (by decide +kernel)) ggX5_paidBy_X3_copyFrom
set_option maxRecDepth 100000 in
theorem ggX5_paidBy_X4_open : GoodIn wsX5_paidBy wsX4_open := goodIn_r _ [23, 24, 25, 26, 27, 28, 29, 30, 31, 32, 33, 34, 35, 36, 37, 38, 39, 40, 41, 42, 17, 43, 44, 45, 46, 6, 47, 9, 48, 49, 50, 51, 11, 8, 52, 53, 54, 55, 56, 57, 58, 149, 150, 151, 152, 153, 154, 155, 156, 157, 158, 159, 141, 142, 143, 144, 145, 146, 147, 148] rfl (by decide +kernel)
set_option maxRecDepth 100000 in
theorem gX5_paidBy_X4_open : GoodIn wsX5_paidBy (wsV RX5 30 RX4 yX4_open wsX4_open) := goodIn_app (goodIn_r ([.methodLink RX5 30 yX4_open, .instanceMethod yX4_open, .selects RX4 yX4_open yX4_open, .initialized RX4] : List Cond) [19, 20, 21, 22] rfl (by decide +kernel)) ggX5_paidBy_X4_open
set_option maxRecDepth 100000 in
theorem ggX5_paidBy_X4_silenceLower : GoodIn wsX5_paidBy wsX4_silenceLower := goodIn_r _ [62, 24, 63, 64, 65, 29, 66, 67, 68, 69, 70, 71, 72, 73, 31, 42, 17, 43, 57, 58, 149, 150, 151, 152, 153, 154] rfl (by decide +kernel)
set_option maxRecDepth 100000 in
theorem gX5_paidBy_X4_silenceLower : GoodIn wsX5_paidBy (wsV RX5 64 RX4 yX4_silenceLower wsX4_silenceLower) := goodIn_app (goodIn_r ([.methodLink RX5 64 yX4_silenceLower, .instanceMethod yX4_silenceLower, .selects RX4 yX4_silenceLower yX4_silenceLower, .initialized RX4] : List Cond) [59, 60, 61, 22] rfl (by decide +kernel)) ggX5_paidBy_X4_silenceLower
set_option maxRecDepth 100000 in
theorem ggX5_paidBy_X4_close : GoodIn wsX5_paidBy wsX4_close := goodIn_r _ [77, 24, 78, 79, 80, 81, 82, 29, 83, 31, 84, 85, 86, 87, 71, 72, 69, 73, 67, 68, 70, 42, 17, 43, 88, 89, 90, 6, 91, 9, 57, 58, 92, 93, 94, 95, 56, 96, 97, 98, 22, 99, 25, 100, 101, 102, 103, 8, 11, 104, 105, 106, 39, 107, 41, 108, 109, 110, 111, 112, 113, 114, 115, 116, 117, 118, 119, 120, 121, 122, 123, 124, 10, 125, 126, 127, 128, 129, 45, 46, 47, 130, 131, 132, 133, 149, 150, 151, 152, 141, 142, 143, 144, 145, 146, 147, 148, 153, 154, 155, 156, 157, 158, 159] rfl (by decide +kernel)
set_option maxRecDepth 100000 in
theorem gX5_paidBy_X4_close : GoodIn wsX5_paidBy (wsV RX5 35 RX4 yX4_close wsX4_close) := goodIn_app (goodIn_r ([.methodLink RX5 35 yX4_close, .instanceMethod yX4_close, .selects RX4 yX4_close yX4_close, .initialized RX4] : List Cond) [74, 75, 76, 22] rfl (by decide +kernel)) ggX5_paidBy_X4_close
set_option maxRecDepth 100000 in
theorem ggX5_paidBy_X4_paidLast : GoodIn wsX5_paidBy wsX4_paidLast := goodIn_r _ [137, 78, 79, 149, 150, 151, 152] rfl (by decide +kernel)
set_option maxRecDepth 100000 in
theorem gX5_paidBy_X4_paidLast : GoodIn wsX5_paidBy (wsV RX5 68 RX4 yX4_paidLast wsX4_paidLast) := goodIn_app (goodIn_r ([.methodLink RX5 68 yX4_paidLast, .instanceMethod yX4_paidLast, .selects RX4 yX4_paidLast yX4_paidLast, .initialized RX4] : List Cond) [134, 135, 136, 22] rfl (by decide +kernel)) ggX5_paidBy_X4_paidLast
theorem dX5_paidBy_0 : decode cX5_paidBy 0 = .ok (.iconst 0, 1) := by decide +kernel
theorem dX5_paidBy_1 : decode cX5_paidBy 1 = .ok (.istore 6, 2) := by decide +kernel
theorem dX5_paidBy_3 : decode cX5_paidBy 3 = .ok (.aload_n 0, 1) := by decide +kernel
theorem dX5_paidBy_4 : decode cX5_paidBy 4 = .ok (.getfield 12, 3) := by decide +kernel
theorem dX5_paidBy_7 : decode cX5_paidBy 7 = .ok (.aload_n 1, 1) := by decide +kernel
theorem dX5_paidBy_8 : decode cX5_paidBy 8 = .ok (.invokevirtual 26, 3) := by decide +kernel
theorem dX5_paidBy_11 : decode cX5_paidBy 11 = .ok (.iconst 1, 1) := by decide +kernel
theorem dX5_paidBy_12 : decode cX5_paidBy 12 = .ok (.istore 7, 2) := by decide +kernel
theorem dX5_paidBy_14 : decode cX5_paidBy 14 = .ok (.iload 7, 2) := by decide +kernel
theorem dX5_paidBy_16 : decode cX5_paidBy 16 = .ok (.iload 4, 2) := by decide +kernel
theorem dX5_paidBy_18 : decode cX5_paidBy 18 = .ok (.if_icmp .gt 60, 3) := by decide +kernel
theorem dX5_paidBy_21 : decode cX5_paidBy 21 = .ok (.aload_n 0, 1) := by decide +kernel
theorem dX5_paidBy_22 : decode cX5_paidBy 22 = .ok (.getfield 22, 3) := by decide +kernel
theorem dX5_paidBy_25 : decode cX5_paidBy 25 = .ok (.aload_n 0, 1) := by decide +kernel
theorem dX5_paidBy_26 : decode cX5_paidBy 26 = .ok (.getfield 12, 3) := by decide +kernel
theorem dX5_paidBy_29 : decode cX5_paidBy 29 = .ok (.invokevirtual 30, 3) := by decide +kernel
theorem dX5_paidBy_32 : decode cX5_paidBy 32 = .ok (.iload 5, 2) := by decide +kernel
theorem dX5_paidBy_34 : decode cX5_paidBy 34 = .ok (.ifCond .eq 12, 3) := by decide +kernel
theorem dX5_paidBy_37 : decode cX5_paidBy 37 = .ok (.aload_n 0, 1) := by decide +kernel
theorem dX5_paidBy_38 : decode cX5_paidBy 38 = .ok (.getfield 22, 3) := by decide +kernel
theorem dX5_paidBy_41 : decode cX5_paidBy 41 = .ok (.iload_n 2, 1) := by decide +kernel
theorem dX5_paidBy_42 : decode cX5_paidBy 42 = .ok (.iload_n 3, 1) := by decide +kernel
theorem dX5_paidBy_43 : decode cX5_paidBy 43 = .ok (.invokevirtual 64, 3) := by decide +kernel
theorem dX5_paidBy_46 : decode cX5_paidBy 46 = .ok (.aload_n 0, 1) := by decide +kernel
theorem dX5_paidBy_47 : decode cX5_paidBy 47 = .ok (.getfield 22, 3) := by decide +kernel
theorem dX5_paidBy_50 : decode cX5_paidBy 50 = .ok (.aload_n 0, 1) := by decide +kernel
theorem dX5_paidBy_51 : decode cX5_paidBy 51 = .ok (.getfield 12, 3) := by decide +kernel
theorem dX5_paidBy_54 : decode cX5_paidBy 54 = .ok (.invokevirtual 35, 3) := by decide +kernel
theorem dX5_paidBy_57 : decode cX5_paidBy 57 = .ok (.pop, 1) := by decide +kernel
theorem dX5_paidBy_58 : decode cX5_paidBy 58 = .ok (.iload 6, 2) := by decide +kernel
theorem dX5_paidBy_60 : decode cX5_paidBy 60 = .ok (.aload_n 0, 1) := by decide +kernel
theorem dX5_paidBy_61 : decode cX5_paidBy 61 = .ok (.getfield 22, 3) := by decide +kernel
theorem dX5_paidBy_64 : decode cX5_paidBy 64 = .ok (.iload_n 2, 1) := by decide +kernel
theorem dX5_paidBy_65 : decode cX5_paidBy 65 = .ok (.iload_n 3, 1) := by decide +kernel
theorem dX5_paidBy_66 : decode cX5_paidBy 66 = .ok (.invokevirtual 68, 3) := by decide +kernel
theorem dX5_paidBy_69 : decode cX5_paidBy 69 = .ok (.iadd, 1) := by decide +kernel
theorem dX5_paidBy_70 : decode cX5_paidBy 70 = .ok (.istore 6, 2) := by decide +kernel
theorem dX5_paidBy_72 : decode cX5_paidBy 72 = .ok (.iinc 7 1, 3) := by decide +kernel
theorem dX5_paidBy_75 : decode cX5_paidBy 75 = .ok (.goto (-61), 3) := by decide +kernel
theorem dX5_paidBy_78 : decode cX5_paidBy 78 = .ok (.iload 6, 2) := by decide +kernel
theorem dX5_paidBy_80 : decode cX5_paidBy 80 = .ok (.ireturn, 1) := by decide +kernel
set_option maxRecDepth 100000 in
theorem ggX6_init_X3_init : GoodIn wsX6_init wsX3_init := goodIn_r _ [12, 13, 2, 3, 14, 15, 16, 17, 23, 24, 25, 26, 27, 28, 29, 30] rfl (by decide +kernel)
set_option maxRecDepth 100000 in
theorem gX6_init_X3_init_n24 : GoodIn wsX6_init (wsX3_init) := ggX6_init_X3_init
theorem dX6_init_0 : decode cX6_init 0 = .ok (.aload_n 0, 1) := by decide +kernel
theorem dX6_init_1 : decode cX6_init 1 = .ok (.invokespecial 3, 3) := by decide +kernel
theorem dX6_init_4 : decode cX6_init 4 = .ok (.aload_n 0, 1) := by decide +kernel
theorem dX6_init_5 : decode cX6_init 5 = .ok (.bipush 10, 2) := by decide +kernel
theorem dX6_init_7 : decode cX6_init 7 = .ok (.anewarray 9, 3) := by decide +kernel
theorem dX6_init_10 : decode cX6_init 10 = .ok (.putfield 11, 3) := by decide +kernel
theorem dX6_init_13 : decode cX6_init 13 = .ok (.aload_n 0, 1) := by decide +kernel
theorem dX6_init_14 : decode cX6_init 14 = .ok (.iconst 2, 1) := by decide +kernel
theorem dX6_init_15 : decode cX6_init 15 = .ok (.anewarray 9, 3) := by decide +kernel
theorem dX6_init_18 : decode cX6_init 18 = .ok (.putfield 17, 3) := by decide +kernel
theorem dX6_init_21 : decode cX6_init 21 = .ok (.aload_n 0, 1) := by decide +kernel
theorem dX6_init_22 : decode cX6_init 22 = .ok (.iconst 2, 1) := by decide +kernel
theorem dX6_init_23 : decode cX6_init 23 = .ok (.newarray .boolean, 2) := by decide +kernel
theorem dX6_init_25 : decode cX6_init 25 = .ok (.putfield 20, 3) := by decide +kernel
theorem dX6_init_28 : decode cX6_init 28 = .ok (.iconst 0, 1) := by decide +kernel
theorem dX6_init_29 : decode cX6_init 29 = .ok (.istore_n 1, 1) := by decide +kernel
theorem dX6_init_30 : decode cX6_init 30 = .ok (.iload_n 1, 1) := by decide +kernel
theorem dX6_init_31 : decode cX6_init 31 = .ok (.aload_n 0, 1) := by decide +kernel
theorem dX6_init_32 : decode cX6_init 32 = .ok (.getfield 11, 3) := by decide +kernel
theorem dX6_init_35 : decode cX6_init 35 = .ok (.arraylength, 1) := by decide +kernel
theorem dX6_init_36 : decode cX6_init 36 = .ok (.if_icmp .ge 22, 3) := by decide +kernel
theorem dX6_init_39 : decode cX6_init 39 = .ok (.aload_n 0, 1) := by decide +kernel
theorem dX6_init_40 : decode cX6_init 40 = .ok (.getfield 11, 3) := by decide +kernel
theorem dX6_init_43 : decode cX6_init 43 = .ok (.iload_n 1, 1) := by decide +kernel
theorem dX6_init_44 : decode cX6_init 44 = .ok (.new 9, 3) := by decide +kernel
theorem dX6_init_47 : decode cX6_init 47 = .ok (.dup, 1) := by decide +kernel
theorem dX6_init_48 : decode cX6_init 48 = .ok (.invokespecial 24, 3) := by decide +kernel
theorem dX6_init_51 : decode cX6_init 51 = .ok (.aastore, 1) := by decide +kernel
theorem dX6_init_52 : decode cX6_init 52 = .ok (.iinc 1 1, 3) := by decide +kernel
theorem dX6_init_55 : decode cX6_init 55 = .ok (.goto (-25), 3) := by decide +kernel
theorem dX6_init_58 : decode cX6_init 58 = .ok (.iconst 0, 1) := by decide +kernel
theorem dX6_init_59 : decode cX6_init 59 = .ok (.istore_n 1, 1) := by decide +kernel
theorem dX6_init_60 : decode cX6_init 60 = .ok (.iload_n 1, 1) := by decide +kernel
theorem dX6_init_61 : decode cX6_init 61 = .ok (.aload_n 0, 1) := by decide +kernel
theorem dX6_init_62 : decode cX6_init 62 = .ok (.getfield 17, 3) := by decide +kernel
theorem dX6_init_65 : decode cX6_init 65 = .ok (.arraylength, 1) := by decide +kernel
theorem dX6_init_66 : decode cX6_init 66 = .ok (.if_icmp .ge 22, 3) := by decide +kernel
theorem dX6_init_69 : decode cX6_init 69 = .ok (.aload_n 0, 1) := by decide +kernel
theorem dX6_init_70 : decode cX6_init 70 = .ok (.getfield 17, 3) := by decide +kernel
theorem dX6_init_73 : decode cX6_init 73 = .ok (.iload_n 1, 1) := by decide +kernel
theorem dX6_init_74 : decode cX6_init 74 = .ok (.new 9, 3) := by decide +kernel
theorem dX6_init_77 : decode cX6_init 77 = .ok (.dup, 1) := by decide +kernel
theorem dX6_init_78 : decode cX6_init 78 = .ok (.invokespecial 24, 3) := by decide +kernel
theorem dX6_init_81 : decode cX6_init 81 = .ok (.aastore, 1) := by decide +kernel
theorem dX6_init_82 : decode cX6_init 82 = .ok (.iinc 1 1, 3) := by decide +kernel
theorem dX6_init_85 : decode cX6_init 85 = .ok (.goto (-25), 3) := by decide +kernel
theorem dX6_init_88 : decode cX6_init 88 = .ok (.return_, 1) := by decide +kernel
theorem dX6_loseAll_0 : decode cX6_loseAll 0 = .ok (.aload_n 0, 1) := by decide +kernel
theorem dX6_loseAll_1 : decode cX6_loseAll 1 = .ok (.iconst 0, 1) := by decide +kernel
theorem dX6_loseAll_2 : decode cX6_loseAll 2 = .ok (.putfield 25, 3) := by decide +kernel
theorem dX6_loseAll_5 : decode cX6_loseAll 5 = .ok (.iconst 0, 1) := by decide +kernel
theorem dX6_loseAll_6 : decode cX6_loseAll 6 = .ok (.istore_n 1, 1) := by decide +kernel
theorem dX6_loseAll_7 : decode cX6_loseAll 7 = .ok (.iload_n 1, 1) := by decide +kernel
theorem dX6_loseAll_8 : decode cX6_loseAll 8 = .ok (.aload_n 0, 1) := by decide +kernel
theorem dX6_loseAll_9 : decode cX6_loseAll 9 = .ok (.getfield 20, 3) := by decide +kernel
theorem dX6_loseAll_12 : decode cX6_loseAll 12 = .ok (.arraylength, 1) := by decide +kernel
theorem dX6_loseAll_13 : decode cX6_loseAll 13 = .ok (.if_icmp .ge 16, 3) := by decide +kernel
theorem dX6_loseAll_16 : decode cX6_loseAll 16 = .ok (.aload_n 0, 1) := by decide +kernel
theorem dX6_loseAll_17 : decode cX6_loseAll 17 = .ok (.getfield 20, 3) := by decide +kernel
theorem dX6_loseAll_20 : decode cX6_loseAll 20 = .ok (.iload_n 1, 1) := by decide +kernel
theorem dX6_loseAll_21 : decode cX6_loseAll 21 = .ok (.iconst 0, 1) := by decide +kernel
theorem dX6_loseAll_22 : decode cX6_loseAll 22 = .ok (.bastore, 1) := by decide +kernel
theorem dX6_loseAll_23 : decode cX6_loseAll 23 = .ok (.iinc 1 1, 3) := by decide +kernel
theorem dX6_loseAll_26 : decode cX6_loseAll 26 = .ok (.goto (-19), 3) := by decide +kernel
theorem dX6_loseAll_29 : decode cX6_loseAll 29 = .ok (.return_, 1) := by decide +kernel
set_option maxRecDepth 100000 in
theorem ggX6_remember_X6_momentAt : GoodIn wsX6_remember wsX6_momentAt := goodIn_r _ [11] rfl (by decide +kernel)
set_option maxRecDepth 100000 in
theorem gX6_remember_X6_momentAt : GoodIn wsX6_remember (va_wsS RX6 32 yX6_momentAt wsX6_momentAt) := goodIn_app (goodIn_r ([.methodLink RX6 32 yX6_momentAt, .static yX6_momentAt, .initialized RX6] : List Cond) [8, 9, 10] rfl (by decide +kernel)) ggX6_remember_X6_momentAt
set_option maxRecDepth 100000 in
theorem ggX6_remember_X3_copyFrom : GoodIn wsX6_remember wsX3_copyFrom := goodIn_r _ [16, 17, 18, 19, 20, 21, 22, 23, 24, 25, 26, 27, 33, 34, 35, 36, 37, 38, 39, 40] rfl (by decide +kernel)
set_option maxRecDepth 100000 in
theorem gX6_remember_X3_copyFrom : GoodIn wsX6_remember (wsV RX6 36 RX3 yX3_copyFrom wsX3_copyFrom) := goodIn_app (goodIn_r ([.methodLink RX6 36 yX3_copyFrom, .instanceMethod yX3_copyFrom, .selects RX3 yX3_copyFrom yX3_copyFrom, .initialized RX3] : List Cond) [12, 13, 14, 15] rfl (by decide +kernel)) ggX6_remember_X3_copyFrom
theorem dX6_remember_0 : decode cX6_remember 0 = .ok (.aload_n 0, 1) := by decide +kernel
theorem dX6_remember_1 : decode cX6_remember 1 = .ok (.getfield 11, 3) := by decide +kernel
theorem dX6_remember_4 : decode cX6_remember 4 = .ok (.aload_n 0, 1) := by decide +kernel
theorem dX6_remember_5 : decode cX6_remember 5 = .ok (.getfield 29, 3) := by decide +kernel
theorem dX6_remember_8 : decode cX6_remember 8 = .ok (.invokestatic 32, 3) := by decide +kernel
theorem dX6_remember_11 : decode cX6_remember 11 = .ok (.astore_n 2, 1) := by decide +kernel
theorem dX6_remember_12 : decode cX6_remember 12 = .ok (.aload_n 2, 1) := by decide +kernel
theorem dX6_remember_13 : decode cX6_remember 13 = .ok (.ifnonnull 4, 3) := by decide +kernel
theorem dX6_remember_16 : decode cX6_remember 16 = .ok (.return_, 1) := by decide +kernel
theorem dX6_remember_17 : decode cX6_remember 17 = .ok (.aload_n 2, 1) := by decide +kernel
theorem dX6_remember_18 : decode cX6_remember 18 = .ok (.aload_n 1, 1) := by decide +kernel
theorem dX6_remember_19 : decode cX6_remember 19 = .ok (.invokevirtual 36, 3) := by decide +kernel
theorem dX6_remember_22 : decode cX6_remember 22 = .ok (.aload_n 0, 1) := by decide +kernel
theorem dX6_remember_23 : decode cX6_remember 23 = .ok (.aload_n 0, 1) := by decide +kernel
theorem dX6_remember_24 : decode cX6_remember 24 = .ok (.getfield 29, 3) := by decide +kernel
theorem dX6_remember_27 : decode cX6_remember 27 = .ok (.iconst 1, 1) := by decide +kernel
theorem dX6_remember_28 : decode cX6_remember 28 = .ok (.iadd, 1) := by decide +kernel
theorem dX6_remember_29 : decode cX6_remember 29 = .ok (.bipush 10, 2) := by decide +kernel
theorem dX6_remember_31 : decode cX6_remember 31 = .ok (.irem, 1) := by decide +kernel
theorem dX6_remember_32 : decode cX6_remember 32 = .ok (.putfield 29, 3) := by decide +kernel
theorem dX6_remember_35 : decode cX6_remember 35 = .ok (.aload_n 0, 1) := by decide +kernel
theorem dX6_remember_36 : decode cX6_remember 36 = .ok (.bipush 10, 2) := by decide +kernel
theorem dX6_remember_38 : decode cX6_remember 38 = .ok (.aload_n 0, 1) := by decide +kernel
theorem dX6_remember_39 : decode cX6_remember 39 = .ok (.getfield 25, 3) := by decide +kernel
theorem dX6_remember_42 : decode cX6_remember 42 = .ok (.iconst 1, 1) := by decide +kernel
theorem dX6_remember_43 : decode cX6_remember 43 = .ok (.iadd, 1) := by decide +kernel
theorem dX6_remember_44 : decode cX6_remember 44 = .ok (.invokestatic 40, 3) := by decide +kernel
theorem dX6_remember_47 : decode cX6_remember 47 = .ok (.putfield 25, 3) := by decide +kernel
theorem dX6_remember_50 : decode cX6_remember 50 = .ok (.return_, 1) := by decide +kernel
set_option maxRecDepth 100000 in
theorem ggX6_stepBack_X6_momentAt : GoodIn wsX6_stepBack wsX6_momentAt := goodIn_r _ [7] rfl (by decide +kernel)
set_option maxRecDepth 100000 in
theorem gX6_stepBack_X6_momentAt : GoodIn wsX6_stepBack (va_wsS RX6 32 yX6_momentAt wsX6_momentAt) := goodIn_app (goodIn_r ([.methodLink RX6 32 yX6_momentAt, .static yX6_momentAt, .initialized RX6] : List Cond) [4, 5, 6] rfl (by decide +kernel)) ggX6_stepBack_X6_momentAt
set_option maxRecDepth 100000 in
theorem ggX6_stepBack_X3_copyFrom : GoodIn wsX6_stepBack wsX3_copyFrom := goodIn_r _ [12, 13, 14, 15, 16, 17, 18, 19, 20, 21, 22, 23, 29, 30, 31, 32, 33, 34, 35, 36] rfl (by decide +kernel)
set_option maxRecDepth 100000 in
theorem gX6_stepBack_X3_copyFrom : GoodIn wsX6_stepBack (wsV RX6 36 RX3 yX3_copyFrom wsX3_copyFrom) := goodIn_app (goodIn_r ([.methodLink RX6 36 yX3_copyFrom, .instanceMethod yX3_copyFrom, .selects RX3 yX3_copyFrom yX3_copyFrom, .initialized RX3] : List Cond) [8, 9, 10, 11] rfl (by decide +kernel)) ggX6_stepBack_X3_copyFrom
theorem dX6_stepBack_0 : decode cX6_stepBack 0 = .ok (.aload_n 0, 1) := by decide +kernel
theorem dX6_stepBack_1 : decode cX6_stepBack 1 = .ok (.getfield 25, 3) := by decide +kernel
theorem dX6_stepBack_4 : decode cX6_stepBack 4 = .ok (.ifCond .ne 5, 3) := by decide +kernel
theorem dX6_stepBack_7 : decode cX6_stepBack 7 = .ok (.iconst 0, 1) := by decide +kernel
theorem dX6_stepBack_8 : decode cX6_stepBack 8 = .ok (.ireturn, 1) := by decide +kernel
theorem dX6_stepBack_9 : decode cX6_stepBack 9 = .ok (.aload_n 0, 1) := by decide +kernel
theorem dX6_stepBack_10 : decode cX6_stepBack 10 = .ok (.getfield 29, 3) := by decide +kernel
theorem dX6_stepBack_13 : decode cX6_stepBack 13 = .ok (.bipush 10, 2) := by decide +kernel
theorem dX6_stepBack_15 : decode cX6_stepBack 15 = .ok (.iadd, 1) := by decide +kernel
theorem dX6_stepBack_16 : decode cX6_stepBack 16 = .ok (.iconst 1, 1) := by decide +kernel
theorem dX6_stepBack_17 : decode cX6_stepBack 17 = .ok (.isub, 1) := by decide +kernel
theorem dX6_stepBack_18 : decode cX6_stepBack 18 = .ok (.bipush 10, 2) := by decide +kernel
theorem dX6_stepBack_20 : decode cX6_stepBack 20 = .ok (.irem, 1) := by decide +kernel
theorem dX6_stepBack_21 : decode cX6_stepBack 21 = .ok (.istore_n 2, 1) := by decide +kernel
theorem dX6_stepBack_22 : decode cX6_stepBack 22 = .ok (.aload_n 0, 1) := by decide +kernel
theorem dX6_stepBack_23 : decode cX6_stepBack 23 = .ok (.getfield 11, 3) := by decide +kernel
theorem dX6_stepBack_26 : decode cX6_stepBack 26 = .ok (.iload_n 2, 1) := by decide +kernel
theorem dX6_stepBack_27 : decode cX6_stepBack 27 = .ok (.invokestatic 32, 3) := by decide +kernel
theorem dX6_stepBack_30 : decode cX6_stepBack 30 = .ok (.astore_n 3, 1) := by decide +kernel
theorem dX6_stepBack_31 : decode cX6_stepBack 31 = .ok (.aload_n 3, 1) := by decide +kernel
theorem dX6_stepBack_32 : decode cX6_stepBack 32 = .ok (.ifnonnull 5, 3) := by decide +kernel
theorem dX6_stepBack_35 : decode cX6_stepBack 35 = .ok (.iconst 0, 1) := by decide +kernel
theorem dX6_stepBack_36 : decode cX6_stepBack 36 = .ok (.ireturn, 1) := by decide +kernel
theorem dX6_stepBack_37 : decode cX6_stepBack 37 = .ok (.aload_n 1, 1) := by decide +kernel
theorem dX6_stepBack_38 : decode cX6_stepBack 38 = .ok (.aload_n 3, 1) := by decide +kernel
theorem dX6_stepBack_39 : decode cX6_stepBack 39 = .ok (.invokevirtual 36, 3) := by decide +kernel
theorem dX6_stepBack_42 : decode cX6_stepBack 42 = .ok (.aload_n 0, 1) := by decide +kernel
theorem dX6_stepBack_43 : decode cX6_stepBack 43 = .ok (.iload_n 2, 1) := by decide +kernel
theorem dX6_stepBack_44 : decode cX6_stepBack 44 = .ok (.putfield 29, 3) := by decide +kernel
theorem dX6_stepBack_47 : decode cX6_stepBack 47 = .ok (.aload_n 0, 1) := by decide +kernel
theorem dX6_stepBack_48 : decode cX6_stepBack 48 = .ok (.dup, 1) := by decide +kernel
theorem dX6_stepBack_49 : decode cX6_stepBack 49 = .ok (.getfield 25, 3) := by decide +kernel
theorem dX6_stepBack_52 : decode cX6_stepBack 52 = .ok (.iconst 1, 1) := by decide +kernel
theorem dX6_stepBack_53 : decode cX6_stepBack 53 = .ok (.isub, 1) := by decide +kernel
theorem dX6_stepBack_54 : decode cX6_stepBack 54 = .ok (.putfield 25, 3) := by decide +kernel
theorem dX6_stepBack_57 : decode cX6_stepBack 57 = .ok (.iconst 1, 1) := by decide +kernel
theorem dX6_stepBack_58 : decode cX6_stepBack 58 = .ok (.ireturn, 1) := by decide +kernel
set_option maxRecDepth 100000 in
theorem ggX6_keepImage_X6_momentAt : GoodIn wsX6_keepImage wsX6_momentAt := goodIn_r _ [6] rfl (by decide +kernel)
set_option maxRecDepth 100000 in
theorem gX6_keepImage_X6_momentAt : GoodIn wsX6_keepImage (va_wsS RX6 32 yX6_momentAt wsX6_momentAt) := goodIn_app (goodIn_r ([.methodLink RX6 32 yX6_momentAt, .static yX6_momentAt, .initialized RX6] : List Cond) [3, 4, 5] rfl (by decide +kernel)) ggX6_keepImage_X6_momentAt
set_option maxRecDepth 100000 in
theorem ggX6_keepImage_X3_copyFrom : GoodIn wsX6_keepImage wsX3_copyFrom := goodIn_r _ [11, 12, 13, 14, 15, 16, 17, 18, 19, 20, 21, 22, 28, 29, 30, 31, 32, 33, 34, 35] rfl (by decide +kernel)
set_option maxRecDepth 100000 in
theorem gX6_keepImage_X3_copyFrom : GoodIn wsX6_keepImage (wsV RX6 36 RX3 yX3_copyFrom wsX3_copyFrom) := goodIn_app (goodIn_r ([.methodLink RX6 36 yX3_copyFrom, .instanceMethod yX3_copyFrom, .selects RX3 yX3_copyFrom yX3_copyFrom, .initialized RX3] : List Cond) [7, 8, 9, 10] rfl (by decide +kernel)) ggX6_keepImage_X3_copyFrom
theorem dX6_keepImage_0 : decode cX6_keepImage 0 = .ok (.aload_n 0, 1) := by decide +kernel
theorem dX6_keepImage_1 : decode cX6_keepImage 1 = .ok (.getfield 17, 3) := by decide +kernel
theorem dX6_keepImage_4 : decode cX6_keepImage 4 = .ok (.iload_n 1, 1) := by decide +kernel
theorem dX6_keepImage_5 : decode cX6_keepImage 5 = .ok (.invokestatic 32, 3) := by decide +kernel
theorem dX6_keepImage_8 : decode cX6_keepImage 8 = .ok (.astore_n 3, 1) := by decide +kernel
theorem dX6_keepImage_9 : decode cX6_keepImage 9 = .ok (.aload_n 3, 1) := by decide +kernel
theorem dX6_keepImage_10 : decode cX6_keepImage 10 = .ok (.ifnull 12, 3) := by decide +kernel
theorem dX6_keepImage_13 : decode cX6_keepImage 13 = .ok (.iload_n 1, 1) := by decide +kernel
theorem dX6_keepImage_14 : decode cX6_keepImage 14 = .ok (.aload_n 0, 1) := by decide +kernel
theorem dX6_keepImage_15 : decode cX6_keepImage 15 = .ok (.getfield 20, 3) := by decide +kernel
theorem dX6_keepImage_18 : decode cX6_keepImage 18 = .ok (.arraylength, 1) := by decide +kernel
theorem dX6_keepImage_19 : decode cX6_keepImage 19 = .ok (.if_icmp .lt 4, 3) := by decide +kernel
theorem dX6_keepImage_22 : decode cX6_keepImage 22 = .ok (.return_, 1) := by decide +kernel
theorem dX6_keepImage_23 : decode cX6_keepImage 23 = .ok (.aload_n 3, 1) := by decide +kernel
theorem dX6_keepImage_24 : decode cX6_keepImage 24 = .ok (.aload_n 2, 1) := by decide +kernel
theorem dX6_keepImage_25 : decode cX6_keepImage 25 = .ok (.invokevirtual 36, 3) := by decide +kernel
theorem dX6_keepImage_28 : decode cX6_keepImage 28 = .ok (.aload_n 0, 1) := by decide +kernel
theorem dX6_keepImage_29 : decode cX6_keepImage 29 = .ok (.getfield 20, 3) := by decide +kernel
theorem dX6_keepImage_32 : decode cX6_keepImage 32 = .ok (.iload_n 1, 1) := by decide +kernel
theorem dX6_keepImage_33 : decode cX6_keepImage 33 = .ok (.iconst 1, 1) := by decide +kernel
theorem dX6_keepImage_34 : decode cX6_keepImage 34 = .ok (.bastore, 1) := by decide +kernel
theorem dX6_keepImage_35 : decode cX6_keepImage 35 = .ok (.return_, 1) := by decide +kernel
set_option maxRecDepth 100000 in
theorem ggX6_backTo_X6_momentAt : GoodIn wsX6_backTo wsX6_momentAt := goodIn_r _ [7] rfl (by decide +kernel)
set_option maxRecDepth 100000 in
theorem gX6_backTo_X6_momentAt : GoodIn wsX6_backTo (va_wsS RX6 32 yX6_momentAt wsX6_momentAt) := goodIn_app (goodIn_r ([.methodLink RX6 32 yX6_momentAt, .static yX6_momentAt, .initialized RX6] : List Cond) [4, 5, 6] rfl (by decide +kernel)) ggX6_backTo_X6_momentAt
set_option maxRecDepth 100000 in
theorem ggX6_backTo_X3_copyFrom : GoodIn wsX6_backTo wsX3_copyFrom := goodIn_r _ [12, 13, 14, 15, 16, 17, 18, 19, 20, 21, 22, 23, 29, 30, 31, 32, 33, 34, 35, 36] rfl (by decide +kernel)
set_option maxRecDepth 100000 in
theorem gX6_backTo_X3_copyFrom : GoodIn wsX6_backTo (wsV RX6 36 RX3 yX3_copyFrom wsX3_copyFrom) := goodIn_app (goodIn_r ([.methodLink RX6 36 yX3_copyFrom, .instanceMethod yX3_copyFrom, .selects RX3 yX3_copyFrom yX3_copyFrom, .initialized RX3] : List Cond) [8, 9, 10, 11] rfl (by decide +kernel)) ggX6_backTo_X3_copyFrom
theorem dX6_backTo_0 : decode cX6_backTo 0 = .ok (.aload_n 0, 1) := by decide +kernel
theorem dX6_backTo_1 : decode cX6_backTo 1 = .ok (.getfield 17, 3) := by decide +kernel
theorem dX6_backTo_4 : decode cX6_backTo 4 = .ok (.iload_n 1, 1) := by decide +kernel
theorem dX6_backTo_5 : decode cX6_backTo 5 = .ok (.invokestatic 32, 3) := by decide +kernel
theorem dX6_backTo_8 : decode cX6_backTo 8 = .ok (.astore_n 3, 1) := by decide +kernel
theorem dX6_backTo_9 : decode cX6_backTo 9 = .ok (.aload_n 3, 1) := by decide +kernel
theorem dX6_backTo_10 : decode cX6_backTo 10 = .ok (.ifnull 21, 3) := by decide +kernel
theorem dX6_backTo_13 : decode cX6_backTo 13 = .ok (.iload_n 1, 1) := by decide +kernel
theorem dX6_backTo_14 : decode cX6_backTo 14 = .ok (.aload_n 0, 1) := by decide +kernel
theorem dX6_backTo_15 : decode cX6_backTo 15 = .ok (.getfield 20, 3) := by decide +kernel
theorem dX6_backTo_18 : decode cX6_backTo 18 = .ok (.arraylength, 1) := by decide +kernel
theorem dX6_backTo_19 : decode cX6_backTo 19 = .ok (.if_icmp .ge 12, 3) := by decide +kernel
theorem dX6_backTo_22 : decode cX6_backTo 22 = .ok (.aload_n 0, 1) := by decide +kernel
theorem dX6_backTo_23 : decode cX6_backTo 23 = .ok (.getfield 20, 3) := by decide +kernel
theorem dX6_backTo_26 : decode cX6_backTo 26 = .ok (.iload_n 1, 1) := by decide +kernel
theorem dX6_backTo_27 : decode cX6_backTo 27 = .ok (.baload, 1) := by decide +kernel
theorem dX6_backTo_28 : decode cX6_backTo 28 = .ok (.ifCond .ne 5, 3) := by decide +kernel
theorem dX6_backTo_31 : decode cX6_backTo 31 = .ok (.iconst 0, 1) := by decide +kernel
theorem dX6_backTo_32 : decode cX6_backTo 32 = .ok (.ireturn, 1) := by decide +kernel
theorem dX6_backTo_33 : decode cX6_backTo 33 = .ok (.aload_n 2, 1) := by decide +kernel
theorem dX6_backTo_34 : decode cX6_backTo 34 = .ok (.aload_n 3, 1) := by decide +kernel
theorem dX6_backTo_35 : decode cX6_backTo 35 = .ok (.invokevirtual 36, 3) := by decide +kernel
theorem dX6_backTo_38 : decode cX6_backTo 38 = .ok (.aload_n 0, 1) := by decide +kernel
theorem dX6_backTo_39 : decode cX6_backTo 39 = .ok (.iconst 0, 1) := by decide +kernel
theorem dX6_backTo_40 : decode cX6_backTo 40 = .ok (.putfield 25, 3) := by decide +kernel
theorem dX6_backTo_43 : decode cX6_backTo 43 = .ok (.iconst 1, 1) := by decide +kernel
theorem dX6_backTo_44 : decode cX6_backTo 44 = .ok (.ireturn, 1) := by decide +kernel
theorem dX6_momentAt_0 : decode cX6_momentAt 0 = .ok (.iload_n 1, 1) := by decide +kernel
theorem dX6_momentAt_1 : decode cX6_momentAt 1 = .ok (.ifCond .lt 15, 3) := by decide +kernel
theorem dX6_momentAt_4 : decode cX6_momentAt 4 = .ok (.iload_n 1, 1) := by decide +kernel
theorem dX6_momentAt_5 : decode cX6_momentAt 5 = .ok (.aload_n 0, 1) := by decide +kernel
theorem dX6_momentAt_6 : decode cX6_momentAt 6 = .ok (.arraylength, 1) := by decide +kernel
theorem dX6_momentAt_7 : decode cX6_momentAt 7 = .ok (.if_icmp .ge 9, 3) := by decide +kernel
theorem dX6_momentAt_10 : decode cX6_momentAt 10 = .ok (.aload_n 0, 1) := by decide +kernel
theorem dX6_momentAt_11 : decode cX6_momentAt 11 = .ok (.iload_n 1, 1) := by decide +kernel
theorem dX6_momentAt_12 : decode cX6_momentAt 12 = .ok (.aaload, 1) := by decide +kernel
theorem dX6_momentAt_13 : decode cX6_momentAt 13 = .ok (.goto 4, 3) := by decide +kernel
theorem dX6_momentAt_16 : decode cX6_momentAt 16 = .ok (.aconst_null, 1) := by decide +kernel
theorem dX6_momentAt_17 : decode cX6_momentAt 17 = .ok (.areturn, 1) := by decide +kernel
theorem dX7_init_0 : decode cX7_init 0 = .ok (.aload_n 0, 1) := by decide +kernel
theorem dX7_init_1 : decode cX7_init 1 = .ok (.invokespecial 3, 3) := by decide +kernel
theorem dX7_init_4 : decode cX7_init 4 = .ok (.aload_n 0, 1) := by decide +kernel
theorem dX7_init_5 : decode cX7_init 5 = .ok (.aload_n 1, 1) := by decide +kernel
theorem dX7_init_6 : decode cX7_init 6 = .ok (.putfield 9, 3) := by decide +kernel
theorem dX7_init_9 : decode cX7_init 9 = .ok (.aload_n 0, 1) := by decide +kernel
theorem dX7_init_10 : decode cX7_init 10 = .ok (.aload_n 2, 1) := by decide +kernel
theorem dX7_init_11 : decode cX7_init 11 = .ok (.putfield 15, 3) := by decide +kernel
theorem dX7_init_14 : decode cX7_init 14 = .ok (.return_, 1) := by decide +kernel
set_option maxRecDepth 100000 in
theorem ggX7_asIf_X7_asBidder : GoodIn wsX7_asIf wsX7_asBidder := goodIn_r _ [6, 7, 8, 9, 10, 11, 12, 13, 14, 15, 16, 17, 64, 65, 66, 67, 68, 69, 70, 71, 72, 73, 74] rfl (by decide +kernel)
set_option maxRecDepth 100000 in
theorem gX7_asIf_X7_asBidder : GoodIn wsX7_asIf (wsV RX7 19 RX7 yX7_asBidder wsX7_asBidder) := goodIn_app (goodIn_r ([.methodLink RX7 19 yX7_asBidder, .instanceMethod yX7_asBidder, .selects RX7 yX7_asBidder yX7_asBidder, .initialized RX7] : List Cond) [2, 3, 4, 5] rfl (by decide +kernel)) ggX7_asIf_X7_asBidder
set_option maxRecDepth 100000 in
theorem ggX7_asIf_X7_asBrewer : GoodIn wsX7_asIf wsX7_asBrewer := goodIn_r _ [21, 7, 22, 23, 2, 3, 4, 5, 6, 8, 9, 10, 11, 12, 13, 14, 15, 16, 17, 24, 25, 26, 27, 28, 29, 64, 65, 66, 67, 68, 69, 70, 71, 72, 73, 74, 75, 76, 77, 78, 79] rfl (by decide +kernel)
set_option maxRecDepth 100000 in
theorem gX7_asIf_X7_asBrewer : GoodIn wsX7_asIf (wsV RX7 23 RX7 yX7_asBrewer wsX7_asBrewer) := goodIn_app (goodIn_r ([.methodLink RX7 23 yX7_asBrewer, .instanceMethod yX7_asBrewer, .selects RX7 yX7_asBrewer yX7_asBrewer, .initialized RX7] : List Cond) [18, 19, 20, 5] rfl (by decide +kernel)) ggX7_asIf_X7_asBrewer
set_option maxRecDepth 100000 in
theorem ggX7_asIf_X7_asLover : GoodIn wsX7_asIf wsX7_asLover := goodIn_r _ [33, 7, 34, 2, 3, 4, 5, 6, 8, 9, 10, 11, 12, 13, 14, 15, 16, 17, 35, 36, 37, 38, 23, 39, 40, 41, 27, 42, 43, 44, 45, 46, 47, 48, 64, 65, 66, 67, 68, 69, 70, 71, 72, 73, 74, 75, 76, 77, 78, 79] rfl (by decide +kernel)
set_option maxRecDepth 100000 in
theorem gX7_asIf_X7_asLover : GoodIn wsX7_asIf (wsV RX7 26 RX7 yX7_asLover wsX7_asLover) := goodIn_app (goodIn_r ([.methodLink RX7 26 yX7_asLover, .instanceMethod yX7_asLover, .selects RX7 yX7_asLover yX7_asLover, .initialized RX7] : List Cond) [30, 31, 32, 5] rfl (by decide +kernel)) ggX7_asIf_X7_asLover
set_option maxRecDepth 100000 in
theorem ggX7_asIf_X7_asRival : GoodIn wsX7_asIf wsX7_asRival := goodIn_r _ [52, 7, 53, 18, 19, 20, 5, 21, 22, 23, 2, 3, 4, 6, 8, 9, 10, 11, 12, 13, 14, 15, 16, 17, 24, 25, 26, 27, 28, 29, 64, 65, 66, 67, 68, 69, 70, 71, 72, 73, 74, 75, 76, 77, 78, 79] rfl (by decide +kernel)
set_option maxRecDepth 100000 in
theorem gX7_asIf_X7_asRival : GoodIn wsX7_asIf (wsV RX7 29 RX7 yX7_asRival wsX7_asRival) := goodIn_app (goodIn_r ([.methodLink RX7 29 yX7_asRival, .instanceMethod yX7_asRival, .selects RX7 yX7_asRival yX7_asRival, .initialized RX7] : List Cond) [49, 50, 51, 5] rfl (by decide +kernel)) ggX7_asIf_X7_asRival
set_option maxRecDepth 100000 in
theorem ggX7_asIf_X7_asPoet : GoodIn wsX7_asIf wsX7_asPoet := goodIn_r _ [57, 7, 58, 30, 31, 32, 5, 33, 34, 2, 3, 4, 6, 8, 9, 10, 11, 12, 13, 14, 15, 16, 17, 35, 36, 37, 38, 23, 39, 40, 41, 27, 42, 43, 44, 45, 46, 47, 48, 64, 65, 66, 67, 68, 69, 70, 71, 72, 73, 74, 75, 76, 77, 78, 79] rfl (by decide +kernel)
set_option maxRecDepth 100000 in
theorem gX7_asIf_X7_asPoet : GoodIn wsX7_asIf (wsV RX7 32 RX7 yX7_asPoet wsX7_asPoet) := goodIn_app (goodIn_r ([.methodLink RX7 32 yX7_asPoet, .instanceMethod yX7_asPoet, .selects RX7 yX7_asPoet yX7_asPoet, .initialized RX7] : List Cond) [54, 55, 56, 5] rfl (by decide +kernel)) ggX7_asIf_X7_asPoet
set_option maxRecDepth 100000 in
theorem ggX7_asIf_X7_asHeir : GoodIn wsX7_asIf wsX7_asHeir := goodIn_r _ [62, 7, 63, 8, 2, 3, 4, 5, 6, 9, 10, 11, 12, 13, 14, 15, 16, 17, 64, 65, 66, 67, 68, 69, 70, 71, 72, 73, 74] rfl (by decide +kernel)
set_option maxRecDepth 100000 in
theorem gX7_asIf_X7_asHeir : GoodIn wsX7_asIf (wsV RX7 35 RX7 yX7_asHeir wsX7_asHeir) := goodIn_app (goodIn_r ([.methodLink RX7 35 yX7_asHeir, .instanceMethod yX7_asHeir, .selects RX7 yX7_asHeir yX7_asHeir, .initialized RX7] : List Cond) [59, 60, 61, 5] rfl (by decide +kernel)) ggX7_asIf_X7_asHeir
theorem dX7_asIf_0 : decode cX7_asIf 0 = .ok (.iload_n 1, 1) := by decide +kernel
theorem dX7_asIf_1 : decode cX7_asIf 1 = .ok (.tableswitch 75 0 5 #[39, 45, 51, 57, 63, 69], 39) := by decide +kernel
theorem dX7_asIf_40 : decode cX7_asIf 40 = .ok (.aload_n 0, 1) := by decide +kernel
theorem dX7_asIf_41 : decode cX7_asIf 41 = .ok (.iload_n 2, 1) := by decide +kernel
theorem dX7_asIf_42 : decode cX7_asIf 42 = .ok (.invokevirtual 19, 3) := by decide +kernel
theorem dX7_asIf_45 : decode cX7_asIf 45 = .ok (.ireturn, 1) := by decide +kernel
theorem dX7_asIf_46 : decode cX7_asIf 46 = .ok (.aload_n 0, 1) := by decide +kernel
theorem dX7_asIf_47 : decode cX7_asIf 47 = .ok (.iload_n 2, 1) := by decide +kernel
theorem dX7_asIf_48 : decode cX7_asIf 48 = .ok (.invokevirtual 23, 3) := by decide +kernel
theorem dX7_asIf_51 : decode cX7_asIf 51 = .ok (.ireturn, 1) := by decide +kernel
theorem dX7_asIf_52 : decode cX7_asIf 52 = .ok (.aload_n 0, 1) := by decide +kernel
theorem dX7_asIf_53 : decode cX7_asIf 53 = .ok (.iload_n 2, 1) := by decide +kernel
theorem dX7_asIf_54 : decode cX7_asIf 54 = .ok (.invokevirtual 26, 3) := by decide +kernel
theorem dX7_asIf_57 : decode cX7_asIf 57 = .ok (.ireturn, 1) := by decide +kernel
theorem dX7_asIf_58 : decode cX7_asIf 58 = .ok (.aload_n 0, 1) := by decide +kernel
theorem dX7_asIf_59 : decode cX7_asIf 59 = .ok (.iload_n 2, 1) := by decide +kernel
theorem dX7_asIf_60 : decode cX7_asIf 60 = .ok (.invokevirtual 29, 3) := by decide +kernel
theorem dX7_asIf_63 : decode cX7_asIf 63 = .ok (.ireturn, 1) := by decide +kernel
theorem dX7_asIf_64 : decode cX7_asIf 64 = .ok (.aload_n 0, 1) := by decide +kernel
theorem dX7_asIf_65 : decode cX7_asIf 65 = .ok (.iload_n 2, 1) := by decide +kernel
theorem dX7_asIf_66 : decode cX7_asIf 66 = .ok (.invokevirtual 32, 3) := by decide +kernel
theorem dX7_asIf_69 : decode cX7_asIf 69 = .ok (.ireturn, 1) := by decide +kernel
theorem dX7_asIf_70 : decode cX7_asIf 70 = .ok (.aload_n 0, 1) := by decide +kernel
theorem dX7_asIf_71 : decode cX7_asIf 71 = .ok (.iload_n 2, 1) := by decide +kernel
theorem dX7_asIf_72 : decode cX7_asIf 72 = .ok (.invokevirtual 35, 3) := by decide +kernel
theorem dX7_asIf_75 : decode cX7_asIf 75 = .ok (.ireturn, 1) := by decide +kernel
theorem dX7_asIf_76 : decode cX7_asIf 76 = .ok (.ldc 38, 2) := by decide +kernel
theorem dX7_asIf_78 : decode cX7_asIf 78 = .ok (.ireturn, 1) := by decide +kernel
set_option maxRecDepth 100000 in
theorem ggX7_asBidder_X3_purse : GoodIn wsX7_asBidder wsX3_purse := goodIn_r _ [7, 8, 9, 10, 11, 15, 16, 17, 18, 19, 20, 21, 22] rfl (by decide +kernel)
set_option maxRecDepth 100000 in
theorem gX7_asBidder_X3_purse : GoodIn wsX7_asBidder (wsV RX7 43 RX3 yX3_purse wsX3_purse) := goodIn_app (goodIn_r ([.methodLink RX7 43 yX3_purse, .instanceMethod yX3_purse, .selects RX3 yX3_purse yX3_purse, .initialized RX3] : List Cond) [3, 4, 5, 6] rfl (by decide +kernel)) ggX7_asBidder_X3_purse
theorem dX7_asBidder_0 : decode cX7_asBidder 0 = .ok (.aload_n 0, 1) := by decide +kernel
theorem dX7_asBidder_1 : decode cX7_asBidder 1 = .ok (.dup, 1) := by decide +kernel
theorem dX7_asBidder_2 : decode cX7_asBidder 2 = .ok (.getfield 39, 3) := by decide +kernel
theorem dX7_asBidder_5 : decode cX7_asBidder 5 = .ok (.lconst 1, 1) := by decide +kernel
theorem dX7_asBidder_6 : decode cX7_asBidder 6 = .ok (.ladd, 1) := by decide +kernel
theorem dX7_asBidder_7 : decode cX7_asBidder 7 = .ok (.putfield 39, 3) := by decide +kernel
theorem dX7_asBidder_10 : decode cX7_asBidder 10 = .ok (.aload_n 0, 1) := by decide +kernel
theorem dX7_asBidder_11 : decode cX7_asBidder 11 = .ok (.getfield 15, 3) := by decide +kernel
theorem dX7_asBidder_14 : decode cX7_asBidder 14 = .ok (.iload_n 1, 1) := by decide +kernel
theorem dX7_asBidder_15 : decode cX7_asBidder 15 = .ok (.invokevirtual 43, 3) := by decide +kernel
theorem dX7_asBidder_18 : decode cX7_asBidder 18 = .ok (.ireturn, 1) := by decide +kernel
set_option maxRecDepth 100000 in
theorem ggX7_asBrewer_X7_asBidder : GoodIn wsX7_asBrewer wsX7_asBidder := goodIn_r _ [8, 1, 9, 10, 11, 12, 13, 14, 15, 16, 17, 18, 25, 26, 27, 28, 29, 30, 31, 32, 33, 34, 35] rfl (by decide +kernel)
set_option maxRecDepth 100000 in
theorem gX7_asBrewer_X7_asBidder : GoodIn wsX7_asBrewer (wsV RX7 19 RX7 yX7_asBidder wsX7_asBidder) := goodIn_app (goodIn_r ([.methodLink RX7 19 yX7_asBidder, .instanceMethod yX7_asBidder, .selects RX7 yX7_asBidder yX7_asBidder, .initialized RX7] : List Cond) [4, 5, 6, 7] rfl (by decide +kernel)) ggX7_asBrewer_X7_asBidder
set_option maxRecDepth 100000 in
theorem ggX7_asBrewer_X10_ofBidder : GoodIn wsX7_asBrewer wsX10_ofBidder := goodIn_r _ [23, 24, 16, 17, 18, 36, 37, 38, 39, 40] rfl (by decide +kernel)
set_option maxRecDepth 100000 in
theorem gX7_asBrewer_X10_ofBidder : GoodIn wsX7_asBrewer (wsV RX7 52 RX10 yX10_ofBidder wsX10_ofBidder) := goodIn_app (goodIn_r ([.methodLink RX7 52 yX10_ofBidder, .instanceMethod yX10_ofBidder, .selects RX10 yX10_ofBidder yX10_ofBidder, .initialized RX10] : List Cond) [19, 20, 21, 22] rfl (by decide +kernel)) ggX7_asBrewer_X10_ofBidder
theorem dX7_asBrewer_0 : decode cX7_asBrewer 0 = .ok (.aload_n 0, 1) := by decide +kernel
theorem dX7_asBrewer_1 : decode cX7_asBrewer 1 = .ok (.dup, 1) := by decide +kernel
theorem dX7_asBrewer_2 : decode cX7_asBrewer 2 = .ok (.getfield 39, 3) := by decide +kernel
theorem dX7_asBrewer_5 : decode cX7_asBrewer 5 = .ok (.ldc2_w 48, 3) := by decide +kernel
theorem dX7_asBrewer_8 : decode cX7_asBrewer 8 = .ok (.ladd, 1) := by decide +kernel
theorem dX7_asBrewer_9 : decode cX7_asBrewer 9 = .ok (.putfield 39, 3) := by decide +kernel
theorem dX7_asBrewer_12 : decode cX7_asBrewer 12 = .ok (.aload_n 0, 1) := by decide +kernel
theorem dX7_asBrewer_13 : decode cX7_asBrewer 13 = .ok (.iload_n 1, 1) := by decide +kernel
theorem dX7_asBrewer_14 : decode cX7_asBrewer 14 = .ok (.invokevirtual 19, 3) := by decide +kernel
theorem dX7_asBrewer_17 : decode cX7_asBrewer 17 = .ok (.aload_n 0, 1) := by decide +kernel
theorem dX7_asBrewer_18 : decode cX7_asBrewer 18 = .ok (.getfield 9, 3) := by decide +kernel
theorem dX7_asBrewer_21 : decode cX7_asBrewer 21 = .ok (.iload_n 1, 1) := by decide +kernel
theorem dX7_asBrewer_22 : decode cX7_asBrewer 22 = .ok (.iconst 1, 1) := by decide +kernel
theorem dX7_asBrewer_23 : decode cX7_asBrewer 23 = .ok (.invokevirtual 52, 3) := by decide +kernel
theorem dX7_asBrewer_26 : decode cX7_asBrewer 26 = .ok (.iadd, 1) := by decide +kernel
theorem dX7_asBrewer_27 : decode cX7_asBrewer 27 = .ok (.ireturn, 1) := by decide +kernel
set_option maxRecDepth 100000 in
theorem ggX7_asLover_X7_asBidder : GoodIn wsX7_asLover wsX7_asBidder := goodIn_r _ [7, 1, 8, 9, 10, 11, 12, 13, 14, 15, 16, 17, 34, 35, 36, 37, 38, 39, 40, 41, 42, 43, 44] rfl (by decide +kernel)
set_option maxRecDepth 100000 in
theorem gX7_asLover_X7_asBidder : GoodIn wsX7_asLover (wsV RX7 19 RX7 yX7_asBidder wsX7_asBidder) := goodIn_app (goodIn_r ([.methodLink RX7 19 yX7_asBidder, .instanceMethod yX7_asBidder, .selects RX7 yX7_asBidder yX7_asBidder, .initialized RX7] : List Cond) [3, 4, 5, 6] rfl (by decide +kernel)) ggX7_asLover_X7_asBidder
set_option maxRecDepth 100000 in
theorem ggX7_asLover_X7_owedYet : GoodIn wsX7_asLover wsX7_owedYet := goodIn_r _ [21, 22, 8, 23, 24, 25, 26, 27, 28, 15, 16, 17, 29, 30, 31, 12, 32, 33, 34, 35, 36, 45, 46, 47, 48, 49, 37, 38, 39, 40, 41, 42, 43, 44] rfl (by decide +kernel)
set_option maxRecDepth 100000 in
theorem gX7_asLover_X7_owedYet : GoodIn wsX7_asLover (wsV RX7 58 RX7 yX7_owedYet wsX7_owedYet) := goodIn_app (goodIn_r ([.methodLink RX7 58 yX7_owedYet, .instanceMethod yX7_owedYet, .selects RX7 yX7_owedYet yX7_owedYet, .initialized RX7] : List Cond) [18, 19, 20, 6] rfl (by decide +kernel)) ggX7_asLover_X7_owedYet
theorem dX7_asLover_0 : decode cX7_asLover 0 = .ok (.aload_n 0, 1) := by decide +kernel
theorem dX7_asLover_1 : decode cX7_asLover 1 = .ok (.dup, 1) := by decide +kernel
theorem dX7_asLover_2 : decode cX7_asLover 2 = .ok (.getfield 39, 3) := by decide +kernel
theorem dX7_asLover_5 : decode cX7_asLover 5 = .ok (.ldc2_w 56, 3) := by decide +kernel
theorem dX7_asLover_8 : decode cX7_asLover 8 = .ok (.ladd, 1) := by decide +kernel
theorem dX7_asLover_9 : decode cX7_asLover 9 = .ok (.putfield 39, 3) := by decide +kernel
theorem dX7_asLover_12 : decode cX7_asLover 12 = .ok (.aload_n 0, 1) := by decide +kernel
theorem dX7_asLover_13 : decode cX7_asLover 13 = .ok (.iload_n 1, 1) := by decide +kernel
theorem dX7_asLover_14 : decode cX7_asLover 14 = .ok (.invokevirtual 19, 3) := by decide +kernel
theorem dX7_asLover_17 : decode cX7_asLover 17 = .ok (.aload_n 0, 1) := by decide +kernel
theorem dX7_asLover_18 : decode cX7_asLover 18 = .ok (.iload_n 1, 1) := by decide +kernel
theorem dX7_asLover_19 : decode cX7_asLover 19 = .ok (.invokevirtual 58, 3) := by decide +kernel
theorem dX7_asLover_22 : decode cX7_asLover 22 = .ok (.isub, 1) := by decide +kernel
theorem dX7_asLover_23 : decode cX7_asLover 23 = .ok (.ireturn, 1) := by decide +kernel
set_option maxRecDepth 100000 in
theorem ggX7_asRival_X7_asBrewer : GoodIn wsX7_asRival wsX7_asBrewer := goodIn_r _ [7, 1, 8, 9, 10, 11, 12, 6, 13, 14, 15, 16, 17, 18, 19, 20, 21, 22, 23, 24, 25, 26, 27, 28, 29, 30, 31, 32, 33, 34, 35, 36, 37, 38, 39, 40, 41, 42, 43, 44, 45] rfl (by decide +kernel)
set_option maxRecDepth 100000 in
theorem gX7_asRival_X7_asBrewer : GoodIn wsX7_asRival (wsV RX7 23 RX7 yX7_asBrewer wsX7_asBrewer) := goodIn_app (goodIn_r ([.methodLink RX7 23 yX7_asBrewer, .instanceMethod yX7_asBrewer, .selects RX7 yX7_asBrewer yX7_asBrewer, .initialized RX7] : List Cond) [3, 4, 5, 6] rfl (by decide +kernel)) ggX7_asRival_X7_asBrewer
theorem dX7_asRival_0 : decode cX7_asRival 0 = .ok (.aload_n 0, 1) := by decide +kernel
theorem dX7_asRival_1 : decode cX7_asRival 1 = .ok (.dup, 1) := by decide +kernel
theorem dX7_asRival_2 : decode cX7_asRival 2 = .ok (.getfield 39, 3) := by decide +kernel
theorem dX7_asRival_5 : decode cX7_asRival 5 = .ok (.ldc2_w 61, 3) := by decide +kernel
theorem dX7_asRival_8 : decode cX7_asRival 8 = .ok (.ladd, 1) := by decide +kernel
theorem dX7_asRival_9 : decode cX7_asRival 9 = .ok (.putfield 39, 3) := by decide +kernel
theorem dX7_asRival_12 : decode cX7_asRival 12 = .ok (.iconst 2, 1) := by decide +kernel
theorem dX7_asRival_13 : decode cX7_asRival 13 = .ok (.aload_n 0, 1) := by decide +kernel
theorem dX7_asRival_14 : decode cX7_asRival 14 = .ok (.iload_n 1, 1) := by decide +kernel
theorem dX7_asRival_15 : decode cX7_asRival 15 = .ok (.invokevirtual 23, 3) := by decide +kernel
theorem dX7_asRival_18 : decode cX7_asRival 18 = .ok (.imul, 1) := by decide +kernel
theorem dX7_asRival_19 : decode cX7_asRival 19 = .ok (.ireturn, 1) := by decide +kernel
set_option maxRecDepth 100000 in
theorem ggX7_asPoet_X7_asLover : GoodIn wsX7_asPoet wsX7_asLover := goodIn_r _ [7, 1, 8, 9, 10, 11, 6, 12, 13, 14, 15, 16, 17, 18, 19, 20, 21, 22, 23, 24, 25, 26, 27, 28, 29, 30, 31, 32, 33, 34, 35, 36, 37, 38, 39, 40, 41, 42, 43, 44, 45, 46, 47, 48, 49, 50, 51, 52, 53, 54] rfl (by decide +kernel)
set_option maxRecDepth 100000 in
theorem gX7_asPoet_X7_asLover : GoodIn wsX7_asPoet (wsV RX7 26 RX7 yX7_asLover wsX7_asLover) := goodIn_app (goodIn_r ([.methodLink RX7 26 yX7_asLover, .instanceMethod yX7_asLover, .selects RX7 yX7_asLover yX7_asLover, .initialized RX7] : List Cond) [3, 4, 5, 6] rfl (by decide +kernel)) ggX7_asPoet_X7_asLover
theorem dX7_asPoet_0 : decode cX7_asPoet 0 = .ok (.aload_n 0, 1) := by decide +kernel
theorem dX7_asPoet_1 : decode cX7_asPoet 1 = .ok (.dup, 1) := by decide +kernel
theorem dX7_asPoet_2 : decode cX7_asPoet 2 = .ok (.getfield 39, 3) := by decide +kernel
theorem dX7_asPoet_5 : decode cX7_asPoet 5 = .ok (.ldc2_w 63, 3) := by decide +kernel
theorem dX7_asPoet_8 : decode cX7_asPoet 8 = .ok (.ladd, 1) := by decide +kernel
theorem dX7_asPoet_9 : decode cX7_asPoet 9 = .ok (.putfield 39, 3) := by decide +kernel
theorem dX7_asPoet_12 : decode cX7_asPoet 12 = .ok (.aload_n 0, 1) := by decide +kernel
theorem dX7_asPoet_13 : decode cX7_asPoet 13 = .ok (.iload_n 1, 1) := by decide +kernel
theorem dX7_asPoet_14 : decode cX7_asPoet 14 = .ok (.invokevirtual 26, 3) := by decide +kernel
theorem dX7_asPoet_17 : decode cX7_asPoet 17 = .ok (.iload_n 1, 1) := by decide +kernel
theorem dX7_asPoet_18 : decode cX7_asPoet 18 = .ok (.iadd, 1) := by decide +kernel
theorem dX7_asPoet_19 : decode cX7_asPoet 19 = .ok (.ireturn, 1) := by decide +kernel
set_option maxRecDepth 100000 in
theorem ggX7_asHeir_X7_asBidder : GoodIn wsX7_asHeir wsX7_asBidder := goodIn_r _ [8, 1, 3, 9, 10, 11, 12, 13, 14, 15, 16, 17, 18, 19, 20, 21, 22, 23, 24, 25, 26, 27, 28] rfl (by decide +kernel)
set_option maxRecDepth 100000 in
theorem gX7_asHeir_X7_asBidder : GoodIn wsX7_asHeir (wsV RX7 19 RX7 yX7_asBidder wsX7_asBidder) := goodIn_app (goodIn_r ([.methodLink RX7 19 yX7_asBidder, .instanceMethod yX7_asBidder, .selects RX7 yX7_asBidder yX7_asBidder, .initialized RX7] : List Cond) [4, 5, 6, 7] rfl (by decide +kernel)) ggX7_asHeir_X7_asBidder
theorem dX7_asHeir_0 : decode cX7_asHeir 0 = .ok (.aload_n 0, 1) := by decide +kernel
theorem dX7_asHeir_1 : decode cX7_asHeir 1 = .ok (.dup, 1) := by decide +kernel
theorem dX7_asHeir_2 : decode cX7_asHeir 2 = .ok (.getfield 39, 3) := by decide +kernel
theorem dX7_asHeir_5 : decode cX7_asHeir 5 = .ok (.ldc2_w 65, 3) := by decide +kernel
theorem dX7_asHeir_8 : decode cX7_asHeir 8 = .ok (.ladd, 1) := by decide +kernel
theorem dX7_asHeir_9 : decode cX7_asHeir 9 = .ok (.putfield 39, 3) := by decide +kernel
theorem dX7_asHeir_12 : decode cX7_asHeir 12 = .ok (.aload_n 0, 1) := by decide +kernel
theorem dX7_asHeir_13 : decode cX7_asHeir 13 = .ok (.iload_n 1, 1) := by decide +kernel
theorem dX7_asHeir_14 : decode cX7_asHeir 14 = .ok (.invokevirtual 19, 3) := by decide +kernel
theorem dX7_asHeir_17 : decode cX7_asHeir 17 = .ok (.aload_n 0, 1) := by decide +kernel
theorem dX7_asHeir_18 : decode cX7_asHeir 18 = .ok (.getfield 15, 3) := by decide +kernel
theorem dX7_asHeir_21 : decode cX7_asHeir 21 = .ok (.getfield 67, 3) := by decide +kernel
theorem dX7_asHeir_24 : decode cX7_asHeir 24 = .ok (.iadd, 1) := by decide +kernel
theorem dX7_asHeir_25 : decode cX7_asHeir 25 = .ok (.ireturn, 1) := by decide +kernel
set_option maxRecDepth 100000 in
theorem ggX7_owedYet_X10_ofDebt : GoodIn wsX7_owedYet wsX10_ofDebt := goodIn_r _ [7, 8, 9, 10, 11, 21, 22, 23, 24, 25] rfl (by decide +kernel)
set_option maxRecDepth 100000 in
theorem gX7_owedYet_X10_ofDebt : GoodIn wsX7_owedYet (wsV RX7 74 RX10 yX10_ofDebt wsX10_ofDebt) := goodIn_app (goodIn_r ([.methodLink RX7 74 yX10_ofDebt, .instanceMethod yX10_ofDebt, .selects RX10 yX10_ofDebt yX10_ofDebt, .initialized RX10] : List Cond) [3, 4, 5, 6] rfl (by decide +kernel)) ggX7_owedYet_X10_ofDebt
set_option maxRecDepth 100000 in
theorem ggX7_owedYet_X3_howIs : GoodIn wsX7_owedYet wsX3_howIs := goodIn_r _ [16, 17, 9, 10, 11, 26, 27, 28, 29, 30, 31, 32, 33] rfl (by decide +kernel)
set_option maxRecDepth 100000 in
theorem gX7_owedYet_X3_howIs : GoodIn wsX7_owedYet (wsV RX7 77 RX3 yX3_howIs wsX3_howIs) := goodIn_app (goodIn_r ([.methodLink RX7 77 yX3_howIs, .instanceMethod yX3_howIs, .selects RX3 yX3_howIs yX3_howIs, .initialized RX3] : List Cond) [12, 13, 14, 15] rfl (by decide +kernel)) ggX7_owedYet_X3_howIs
theorem dX7_owedYet_0 : decode cX7_owedYet 0 = .ok (.iconst 0, 1) := by decide +kernel
theorem dX7_owedYet_1 : decode cX7_owedYet 1 = .ok (.istore_n 2, 1) := by decide +kernel
theorem dX7_owedYet_2 : decode cX7_owedYet 2 = .ok (.iconst 0, 1) := by decide +kernel
theorem dX7_owedYet_3 : decode cX7_owedYet 3 = .ok (.istore_n 3, 1) := by decide +kernel
theorem dX7_owedYet_4 : decode cX7_owedYet 4 = .ok (.iload_n 3, 1) := by decide +kernel
theorem dX7_owedYet_5 : decode cX7_owedYet 5 = .ok (.aload_n 0, 1) := by decide +kernel
theorem dX7_owedYet_6 : decode cX7_owedYet 6 = .ok (.getfield 9, 3) := by decide +kernel
theorem dX7_owedYet_9 : decode cX7_owedYet 9 = .ok (.getfield 71, 3) := by decide +kernel
theorem dX7_owedYet_12 : decode cX7_owedYet 12 = .ok (.if_icmp .ge 45, 3) := by decide +kernel
theorem dX7_owedYet_15 : decode cX7_owedYet 15 = .ok (.aload_n 0, 1) := by decide +kernel
theorem dX7_owedYet_16 : decode cX7_owedYet 16 = .ok (.getfield 9, 3) := by decide +kernel
theorem dX7_owedYet_19 : decode cX7_owedYet 19 = .ok (.iload_n 3, 1) := by decide +kernel
theorem dX7_owedYet_20 : decode cX7_owedYet 20 = .ok (.iconst 0, 1) := by decide +kernel
theorem dX7_owedYet_21 : decode cX7_owedYet 21 = .ok (.invokevirtual 74, 3) := by decide +kernel
theorem dX7_owedYet_24 : decode cX7_owedYet 24 = .ok (.iload_n 1, 1) := by decide +kernel
theorem dX7_owedYet_25 : decode cX7_owedYet 25 = .ok (.if_icmp .ne 26, 3) := by decide +kernel
theorem dX7_owedYet_28 : decode cX7_owedYet 28 = .ok (.aload_n 0, 1) := by decide +kernel
theorem dX7_owedYet_29 : decode cX7_owedYet 29 = .ok (.getfield 15, 3) := by decide +kernel
theorem dX7_owedYet_32 : decode cX7_owedYet 32 = .ok (.iload_n 3, 1) := by decide +kernel
theorem dX7_owedYet_33 : decode cX7_owedYet 33 = .ok (.invokevirtual 77, 3) := by decide +kernel
theorem dX7_owedYet_36 : decode cX7_owedYet 36 = .ok (.ifCond .ne 15, 3) := by decide +kernel
theorem dX7_owedYet_39 : decode cX7_owedYet 39 = .ok (.iload_n 2, 1) := by decide +kernel
theorem dX7_owedYet_40 : decode cX7_owedYet 40 = .ok (.aload_n 0, 1) := by decide +kernel
theorem dX7_owedYet_41 : decode cX7_owedYet 41 = .ok (.getfield 9, 3) := by decide +kernel
theorem dX7_owedYet_44 : decode cX7_owedYet 44 = .ok (.iload_n 3, 1) := by decide +kernel
theorem dX7_owedYet_45 : decode cX7_owedYet 45 = .ok (.iconst 2, 1) := by decide +kernel
theorem dX7_owedYet_46 : decode cX7_owedYet 46 = .ok (.invokevirtual 74, 3) := by decide +kernel
theorem dX7_owedYet_49 : decode cX7_owedYet 49 = .ok (.iadd, 1) := by decide +kernel
theorem dX7_owedYet_50 : decode cX7_owedYet 50 = .ok (.istore_n 2, 1) := by decide +kernel
theorem dX7_owedYet_51 : decode cX7_owedYet 51 = .ok (.iinc 3 1, 3) := by decide +kernel
theorem dX7_owedYet_54 : decode cX7_owedYet 54 = .ok (.goto (-50), 3) := by decide +kernel
theorem dX7_owedYet_57 : decode cX7_owedYet 57 = .ok (.iload_n 2, 1) := by decide +kernel
theorem dX7_owedYet_58 : decode cX7_owedYet 58 = .ok (.ireturn, 1) := by decide +kernel
set_option maxRecDepth 100000 in
theorem ggX8_init_X10_init : GoodIn wsX8_init wsX10_init := goodIn_r _ [10, 11, 2, 3, 12, 13, 14, 15, 16, 17, 18, 19, 20] rfl (by decide +kernel)
set_option maxRecDepth 100000 in
theorem gX8_init_X10_init_n11 : GoodIn wsX8_init (wsX10_init) := ggX8_init_X10_init
theorem dX8_init_0 : decode cX8_init 0 = .ok (.aload_n 0, 1) := by decide +kernel
theorem dX8_init_1 : decode cX8_init 1 = .ok (.invokespecial 3, 3) := by decide +kernel
theorem dX8_init_4 : decode cX8_init 4 = .ok (.aload_n 0, 1) := by decide +kernel
theorem dX8_init_5 : decode cX8_init 5 = .ok (.new 9, 3) := by decide +kernel
theorem dX8_init_8 : decode cX8_init 8 = .ok (.dup, 1) := by decide +kernel
theorem dX8_init_9 : decode cX8_init 9 = .ok (.invokespecial 11, 3) := by decide +kernel
theorem dX8_init_12 : decode cX8_init 12 = .ok (.putfield 12, 3) := by decide +kernel
theorem dX8_init_15 : decode cX8_init 15 = .ok (.aload_n 0, 1) := by decide +kernel
theorem dX8_init_16 : decode cX8_init 16 = .ok (.aload_n 1, 1) := by decide +kernel
theorem dX8_init_17 : decode cX8_init 17 = .ok (.putfield 18, 3) := by decide +kernel
theorem dX8_init_20 : decode cX8_init 20 = .ok (.return_, 1) := by decide +kernel
set_option maxRecDepth 100000 in
theorem ggX8_read_X10_empty : GoodIn wsX8_read wsX10_empty := goodIn_r _ [10, 11, 12, 13, 89, 90, 91, 92, 93] rfl (by decide +kernel)
set_option maxRecDepth 100000 in
theorem gX8_read_X10_empty : GoodIn wsX8_read (wsV RX8 30 RX10 yX10_empty wsX10_empty) := goodIn_app (goodIn_r ([.methodLink RX8 30 yX10_empty, .instanceMethod yX10_empty, .selects RX10 yX10_empty yX10_empty, .initialized RX10] : List Cond) [6, 7, 8, 9] rfl (by decide +kernel)) ggX8_read_X10_empty
set_option maxRecDepth 100000 in
theorem ggX8_read_X8_nextToken : GoodIn wsX8_read wsX8_nextToken := goodIn_r _ [18, 1, 19, 5, 4, 20, 21, 22, 23, 24, 25, 26, 27, 17, 28, 29, 30, 31, 32, 33, 34, 35, 36, 37, 82, 83, 84, 85, 86, 87, 88, 94, 95] rfl (by decide +kernel)
set_option maxRecDepth 100000 in
theorem gX8_read_X8_nextToken : GoodIn wsX8_read (wsV RX8 33 RX8 yX8_nextToken wsX8_nextToken) := goodIn_app (goodIn_r ([.methodLink RX8 33 yX8_nextToken, .instanceMethod yX8_nextToken, .selects RX8 yX8_nextToken yX8_nextToken, .initialized RX8] : List Cond) [14, 15, 16, 17] rfl (by decide +kernel)) ggX8_read_X8_nextToken
set_option maxRecDepth 100000 in
theorem ggX8_read_X8_readsBidder : GoodIn wsX8_read wsX8_readsBidder := goodIn_r _ [41, 3, 42, 33, 43, 44, 45, 46, 47, 48, 17, 49, 4, 14, 15, 16, 18, 1, 19, 5, 20, 21, 22, 23, 24, 25, 26, 27, 28, 29, 30, 31, 32, 34, 35, 36, 37, 50, 51, 52, 53, 54, 9, 55, 56, 57, 58, 59, 60, 61, 62, 82, 83, 84, 85, 86, 87, 88, 89, 90, 91, 92, 93, 94, 95] rfl (by decide +kernel)
set_option maxRecDepth 100000 in
theorem gX8_read_X8_readsBidder : GoodIn wsX8_read (wsV RX8 39 RX8 yX8_readsBidder wsX8_readsBidder) := goodIn_app (goodIn_r ([.methodLink RX8 39 yX8_readsBidder, .instanceMethod yX8_readsBidder, .selects RX8 yX8_readsBidder yX8_readsBidder, .initialized RX8] : List Cond) [38, 39, 40, 17] rfl (by decide +kernel)) ggX8_read_X8_readsBidder
set_option maxRecDepth 100000 in
theorem ggX8_read_X8_readsBar : GoodIn wsX8_read wsX8_readsBar := goodIn_r _ [66, 2, 3, 33, 46, 47, 48, 17, 49, 4, 14, 15, 16, 18, 1, 19, 5, 20, 21, 22, 23, 24, 25, 26, 27, 28, 29, 30, 31, 32, 34, 35, 36, 37, 50, 44, 51, 59, 60, 61, 62, 82, 83, 84, 85, 86, 87, 88, 89, 90, 91, 92, 93, 94, 95] rfl (by decide +kernel)
set_option maxRecDepth 100000 in
theorem gX8_read_X8_readsBar : GoodIn wsX8_read (wsV RX8 43 RX8 yX8_readsBar wsX8_readsBar) := goodIn_app (goodIn_r ([.methodLink RX8 43 yX8_readsBar, .instanceMethod yX8_readsBar, .selects RX8 yX8_readsBar yX8_readsBar, .initialized RX8] : List Cond) [63, 64, 65, 17] rfl (by decide +kernel)) ggX8_read_X8_readsBar
set_option maxRecDepth 100000 in
theorem ggX8_read_X8_readsDebt : GoodIn wsX8_read wsX8_readsDebt := goodIn_r _ [70, 3, 71, 72, 33, 43, 44, 45, 46, 47, 48, 17, 49, 4, 14, 15, 16, 18, 1, 19, 5, 20, 21, 22, 23, 24, 25, 26, 27, 28, 29, 30, 31, 32, 34, 35, 36, 37, 50, 51, 73, 74, 75, 9, 76, 77, 78, 79, 80, 81, 57, 58, 59, 60, 61, 62, 82, 83, 84, 85, 86, 87, 88, 89, 90, 91, 92, 93, 94, 95] rfl (by decide +kernel)
set_option maxRecDepth 100000 in
theorem gX8_read_X8_readsDebt : GoodIn wsX8_read (wsV RX8 46 RX8 yX8_readsDebt wsX8_readsDebt) := goodIn_app (goodIn_r ([.methodLink RX8 46 yX8_readsDebt, .instanceMethod yX8_readsDebt, .selects RX8 yX8_readsDebt yX8_readsDebt, .initialized RX8] : List Cond) [67, 68, 69, 17] rfl (by decide +kernel)) ggX8_read_X8_readsDebt
theorem dX8_read_0 : decode cX8_read 0 = .ok (.aload_n 0, 1) := by decide +kernel
theorem dX8_read_1 : decode cX8_read 1 = .ok (.iconst 0, 1) := by decide +kernel
theorem dX8_read_2 : decode cX8_read 2 = .ok (.putfield 22, 3) := by decide +kernel
theorem dX8_read_5 : decode cX8_read 5 = .ok (.aload_n 0, 1) := by decide +kernel
theorem dX8_read_6 : decode cX8_read 6 = .ok (.iconst 0, 1) := by decide +kernel
theorem dX8_read_7 : decode cX8_read 7 = .ok (.putfield 26, 3) := by decide +kernel
theorem dX8_read_10 : decode cX8_read 10 = .ok (.aload_n 0, 1) := by decide +kernel
theorem dX8_read_11 : decode cX8_read 11 = .ok (.getfield 12, 3) := by decide +kernel
theorem dX8_read_14 : decode cX8_read 14 = .ok (.invokevirtual 30, 3) := by decide +kernel
theorem dX8_read_17 : decode cX8_read 17 = .ok (.iconst 0, 1) := by decide +kernel
theorem dX8_read_18 : decode cX8_read 18 = .ok (.istore_n 1, 1) := by decide +kernel
theorem dX8_read_19 : decode cX8_read 19 = .ok (.iconst 0, 1) := by decide +kernel
theorem dX8_read_20 : decode cX8_read 20 = .ok (.istore_n 2, 1) := by decide +kernel
theorem dX8_read_21 : decode cX8_read 21 = .ok (.iload_n 2, 1) := by decide +kernel
theorem dX8_read_22 : decode cX8_read 22 = .ok (.sipush 200, 3) := by decide +kernel
theorem dX8_read_25 : decode cX8_read 25 = .ok (.if_icmp .ge 106, 3) := by decide +kernel
theorem dX8_read_28 : decode cX8_read 28 = .ok (.aload_n 0, 1) := by decide +kernel
theorem dX8_read_29 : decode cX8_read 29 = .ok (.invokevirtual 33, 3) := by decide +kernel
theorem dX8_read_32 : decode cX8_read 32 = .ok (.aload_n 0, 1) := by decide +kernel
theorem dX8_read_33 : decode cX8_read 33 = .ok (.getfield 36, 3) := by decide +kernel
theorem dX8_read_36 : decode cX8_read 36 = .ok (.sipush 257, 3) := by decide +kernel
theorem dX8_read_39 : decode cX8_read 39 = .ok (.if_icmp .ne 6, 3) := by decide +kernel
theorem dX8_read_42 : decode cX8_read 42 = .ok (.goto 89, 3) := by decide +kernel
theorem dX8_read_45 : decode cX8_read 45 = .ok (.aload_n 0, 1) := by decide +kernel
theorem dX8_read_46 : decode cX8_read 46 = .ok (.getfield 36, 3) := by decide +kernel
theorem dX8_read_49 : decode cX8_read 49 = .ok (.lookupswitch 59 #[(98, 35), (111, 51), (114, 43)], 35) := by decide +kernel
theorem dX8_read_84 : decode cX8_read 84 = .ok (.aload_n 0, 1) := by decide +kernel
theorem dX8_read_85 : decode cX8_read 85 = .ok (.invokevirtual 39, 3) := by decide +kernel
theorem dX8_read_88 : decode cX8_read 88 = .ok (.istore_n 3, 1) := by decide +kernel
theorem dX8_read_89 : decode cX8_read 89 = .ok (.goto 21, 3) := by decide +kernel
theorem dX8_read_92 : decode cX8_read 92 = .ok (.aload_n 0, 1) := by decide +kernel
theorem dX8_read_93 : decode cX8_read 93 = .ok (.invokevirtual 43, 3) := by decide +kernel
theorem dX8_read_96 : decode cX8_read 96 = .ok (.istore_n 3, 1) := by decide +kernel
theorem dX8_read_97 : decode cX8_read 97 = .ok (.goto 13, 3) := by decide +kernel
theorem dX8_read_100 : decode cX8_read 100 = .ok (.aload_n 0, 1) := by decide +kernel
theorem dX8_read_101 : decode cX8_read 101 = .ok (.invokevirtual 46, 3) := by decide +kernel
theorem dX8_read_104 : decode cX8_read 104 = .ok (.istore_n 3, 1) := by decide +kernel
theorem dX8_read_105 : decode cX8_read 105 = .ok (.goto 5, 3) := by decide +kernel
theorem dX8_read_108 : decode cX8_read 108 = .ok (.iconst 0, 1) := by decide +kernel
theorem dX8_read_109 : decode cX8_read 109 = .ok (.istore_n 3, 1) := by decide +kernel
theorem dX8_read_110 : decode cX8_read 110 = .ok (.iload_n 3, 1) := by decide +kernel
theorem dX8_read_111 : decode cX8_read 111 = .ok (.ifCond .ne 11, 3) := by decide +kernel
theorem dX8_read_114 : decode cX8_read 114 = .ok (.bipush (-10), 2) := by decide +kernel
theorem dX8_read_116 : decode cX8_read 116 = .ok (.aload_n 0, 1) := by decide +kernel
theorem dX8_read_117 : decode cX8_read 117 = .ok (.getfield 49, 3) := by decide +kernel
theorem dX8_read_120 : decode cX8_read 120 = .ok (.isub, 1) := by decide +kernel
theorem dX8_read_121 : decode cX8_read 121 = .ok (.ireturn, 1) := by decide +kernel
theorem dX8_read_122 : decode cX8_read 122 = .ok (.iinc 1 1, 3) := by decide +kernel
theorem dX8_read_125 : decode cX8_read 125 = .ok (.iinc 2 1, 3) := by decide +kernel
theorem dX8_read_128 : decode cX8_read 128 = .ok (.goto (-107), 3) := by decide +kernel
theorem dX8_read_131 : decode cX8_read 131 = .ok (.iload_n 1, 1) := by decide +kernel
theorem dX8_read_132 : decode cX8_read 132 = .ok (.ireturn, 1) := by decide +kernel
set_option maxRecDepth 100000 in
theorem ggX8_readsBidder_X11_at : GoodIn wsX8_readsBidder wsX11_at := goodIn_r _ [6] rfl (by decide +kernel)
set_option maxRecDepth 100000 in
theorem gX8_readsBidder_X11_at_n59 : GoodIn wsX8_readsBidder (wsX11_at) := ggX8_readsBidder_X11_at
set_option maxRecDepth 100000 in
theorem ggX8_readsBidder_X8_readsNumber : GoodIn wsX8_readsBidder wsX8_readsNumber := goodIn_r _ [11, 12, 3, 13, 14, 15, 10, 16, 17, 18, 19, 20, 21, 22, 23, 24, 25, 26, 27, 28, 29, 30, 31, 32, 33, 34, 35, 36, 37, 5, 38, 51, 52, 53, 54, 55, 56, 57, 63, 64] rfl (by decide +kernel)
set_option maxRecDepth 100000 in
theorem gX8_readsBidder_X8_readsNumber : GoodIn wsX8_readsBidder (wsV RX8 63 RX8 yX8_readsNumber wsX8_readsNumber) := goodIn_app (goodIn_r ([.methodLink RX8 63 yX8_readsNumber, .instanceMethod yX8_readsNumber, .selects RX8 yX8_readsNumber yX8_readsNumber, .initialized RX8] : List Cond) [7, 8, 9, 10] rfl (by decide +kernel)) ggX8_readsBidder_X8_readsNumber
set_option maxRecDepth 100000 in
theorem ggX8_readsBidder_X10_setOfBidder : GoodIn wsX8_readsBidder wsX10_setOfBidder := goodIn_r _ [43, 44, 45, 5, 46, 58, 59, 60, 61, 62] rfl (by decide +kernel)
set_option maxRecDepth 100000 in
theorem gX8_readsBidder_X10_setOfBidder : GoodIn wsX8_readsBidder (wsV RX8 70 RX10 yX10_setOfBidder wsX10_setOfBidder) := goodIn_app (goodIn_r ([.methodLink RX8 70 yX10_setOfBidder, .instanceMethod yX10_setOfBidder, .selects RX10 yX10_setOfBidder yX10_setOfBidder, .initialized RX10] : List Cond) [39, 40, 41, 42] rfl (by decide +kernel)) ggX8_readsBidder_X10_setOfBidder
set_option maxRecDepth 100000 in
theorem ggX8_readsBidder_X8_readsEnd : GoodIn wsX8_readsBidder wsX8_readsEnd := goodIn_r _ [50, 12, 13, 14, 15, 10, 16, 17, 18, 19, 20, 21, 22, 23, 24, 25, 26, 27, 28, 29, 30, 31, 32, 3, 33, 34, 35, 36, 51, 52, 53, 54, 55, 56, 57, 63, 64] rfl (by decide +kernel)
set_option maxRecDepth 100000 in
theorem gX8_readsBidder_X8_readsEnd : GoodIn wsX8_readsBidder (wsV RX8 74 RX8 yX8_readsEnd wsX8_readsEnd) := goodIn_app (goodIn_r ([.methodLink RX8 74 yX8_readsEnd, .instanceMethod yX8_readsEnd, .selects RX8 yX8_readsEnd yX8_readsEnd, .initialized RX8] : List Cond) [47, 48, 49, 10] rfl (by decide +kernel)) ggX8_readsBidder_X8_readsEnd
theorem dX8_readsBidder_0 : decode cX8_readsBidder 0 = .ok (.aload_n 0, 1) := by decide +kernel
theorem dX8_readsBidder_1 : decode cX8_readsBidder 1 = .ok (.getfield 12, 3) := by decide +kernel
theorem dX8_readsBidder_4 : decode cX8_readsBidder 4 = .ok (.getfield 52, 3) := by decide +kernel
theorem dX8_readsBidder_7 : decode cX8_readsBidder 7 = .ok (.istore_n 1, 1) := by decide +kernel
theorem dX8_readsBidder_8 : decode cX8_readsBidder 8 = .ok (.iload_n 1, 1) := by decide +kernel
theorem dX8_readsBidder_9 : decode cX8_readsBidder 9 = .ok (.iconst 4, 1) := by decide +kernel
theorem dX8_readsBidder_10 : decode cX8_readsBidder 10 = .ok (.if_icmp .lt 5, 3) := by decide +kernel
theorem dX8_readsBidder_13 : decode cX8_readsBidder 13 = .ok (.iconst 0, 1) := by decide +kernel
theorem dX8_readsBidder_14 : decode cX8_readsBidder 14 = .ok (.ireturn, 1) := by decide +kernel
theorem dX8_readsBidder_15 : decode cX8_readsBidder 15 = .ok (.iconst 0, 1) := by decide +kernel
theorem dX8_readsBidder_16 : decode cX8_readsBidder 16 = .ok (.istore_n 2, 1) := by decide +kernel
theorem dX8_readsBidder_17 : decode cX8_readsBidder 17 = .ok (.iload_n 2, 1) := by decide +kernel
theorem dX8_readsBidder_18 : decode cX8_readsBidder 18 = .ok (.bipush 7, 2) := by decide +kernel
theorem dX8_readsBidder_20 : decode cX8_readsBidder 20 = .ok (.if_icmp .ge 39, 3) := by decide +kernel
theorem dX8_readsBidder_23 : decode cX8_readsBidder 23 = .ok (.aload_n 0, 1) := by decide +kernel
theorem dX8_readsBidder_24 : decode cX8_readsBidder 24 = .ok (.iconst 0, 1) := by decide +kernel
theorem dX8_readsBidder_25 : decode cX8_readsBidder 25 = .ok (.getstatic 55, 3) := by decide +kernel
theorem dX8_readsBidder_28 : decode cX8_readsBidder 28 = .ok (.iload_n 2, 1) := by decide +kernel
theorem dX8_readsBidder_29 : decode cX8_readsBidder 29 = .ok (.invokestatic 59, 3) := by decide +kernel
theorem dX8_readsBidder_32 : decode cX8_readsBidder 32 = .ok (.invokevirtual 63, 3) := by decide +kernel
theorem dX8_readsBidder_35 : decode cX8_readsBidder 35 = .ok (.ifCond .ne 5, 3) := by decide +kernel
theorem dX8_readsBidder_38 : decode cX8_readsBidder 38 = .ok (.iconst 0, 1) := by decide +kernel
theorem dX8_readsBidder_39 : decode cX8_readsBidder 39 = .ok (.ireturn, 1) := by decide +kernel
theorem dX8_readsBidder_40 : decode cX8_readsBidder 40 = .ok (.aload_n 0, 1) := by decide +kernel
theorem dX8_readsBidder_41 : decode cX8_readsBidder 41 = .ok (.getfield 12, 3) := by decide +kernel
theorem dX8_readsBidder_44 : decode cX8_readsBidder 44 = .ok (.iload_n 1, 1) := by decide +kernel
theorem dX8_readsBidder_45 : decode cX8_readsBidder 45 = .ok (.iload_n 2, 1) := by decide +kernel
theorem dX8_readsBidder_46 : decode cX8_readsBidder 46 = .ok (.aload_n 0, 1) := by decide +kernel
theorem dX8_readsBidder_47 : decode cX8_readsBidder 47 = .ok (.getfield 67, 3) := by decide +kernel
theorem dX8_readsBidder_50 : decode cX8_readsBidder 50 = .ok (.invokevirtual 70, 3) := by decide +kernel
theorem dX8_readsBidder_53 : decode cX8_readsBidder 53 = .ok (.iinc 2 1, 3) := by decide +kernel
theorem dX8_readsBidder_56 : decode cX8_readsBidder 56 = .ok (.goto (-39), 3) := by decide +kernel
theorem dX8_readsBidder_59 : decode cX8_readsBidder 59 = .ok (.aload_n 0, 1) := by decide +kernel
theorem dX8_readsBidder_60 : decode cX8_readsBidder 60 = .ok (.invokevirtual 74, 3) := by decide +kernel
theorem dX8_readsBidder_63 : decode cX8_readsBidder 63 = .ok (.ifCond .ne 5, 3) := by decide +kernel
theorem dX8_readsBidder_66 : decode cX8_readsBidder 66 = .ok (.iconst 0, 1) := by decide +kernel
theorem dX8_readsBidder_67 : decode cX8_readsBidder 67 = .ok (.ireturn, 1) := by decide +kernel
theorem dX8_readsBidder_68 : decode cX8_readsBidder 68 = .ok (.aload_n 0, 1) := by decide +kernel
theorem dX8_readsBidder_69 : decode cX8_readsBidder 69 = .ok (.getfield 12, 3) := by decide +kernel
theorem dX8_readsBidder_72 : decode cX8_readsBidder 72 = .ok (.dup, 1) := by decide +kernel
theorem dX8_readsBidder_73 : decode cX8_readsBidder 73 = .ok (.getfield 52, 3) := by decide +kernel
theorem dX8_readsBidder_76 : decode cX8_readsBidder 76 = .ok (.iconst 1, 1) := by decide +kernel
theorem dX8_readsBidder_77 : decode cX8_readsBidder 77 = .ok (.iadd, 1) := by decide +kernel
theorem dX8_readsBidder_78 : decode cX8_readsBidder 78 = .ok (.putfield 52, 3) := by decide +kernel
theorem dX8_readsBidder_81 : decode cX8_readsBidder 81 = .ok (.iconst 1, 1) := by decide +kernel
theorem dX8_readsBidder_82 : decode cX8_readsBidder 82 = .ok (.ireturn, 1) := by decide +kernel
set_option maxRecDepth 100000 in
theorem ggX8_readsBar_X8_readsNumber : GoodIn wsX8_readsBar wsX8_readsNumber := goodIn_r _ [8, 9, 3, 10, 11, 12, 7, 13, 14, 15, 16, 17, 18, 19, 20, 21, 22, 23, 24, 25, 26, 27, 28, 29, 30, 31, 32, 33, 34, 35, 36, 41, 42, 43, 44, 45, 46, 47, 53, 54] rfl (by decide +kernel)
set_option maxRecDepth 100000 in
theorem gX8_readsBar_X8_readsNumber : GoodIn wsX8_readsBar (wsV RX8 63 RX8 yX8_readsNumber wsX8_readsNumber) := goodIn_app (goodIn_r ([.methodLink RX8 63 yX8_readsNumber, .instanceMethod yX8_readsNumber, .selects RX8 yX8_readsNumber yX8_readsNumber, .initialized RX8] : List Cond) [4, 5, 6, 7] rfl (by decide +kernel)) ggX8_readsBar_X8_readsNumber
set_option maxRecDepth 100000 in
theorem ggX8_readsBar_X8_readsEnd : GoodIn wsX8_readsBar wsX8_readsEnd := goodIn_r _ [40, 9, 10, 11, 12, 7, 13, 14, 15, 16, 17, 18, 19, 20, 21, 22, 23, 24, 25, 26, 27, 28, 29, 3, 30, 31, 32, 33, 41, 42, 43, 44, 45, 46, 47, 53, 54] rfl (by decide +kernel)
set_option maxRecDepth 100000 in
theorem gX8_readsBar_X8_readsEnd : GoodIn wsX8_readsBar (wsV RX8 74 RX8 yX8_readsEnd wsX8_readsEnd) := goodIn_app (goodIn_r ([.methodLink RX8 74 yX8_readsEnd, .instanceMethod yX8_readsEnd, .selects RX8 yX8_readsEnd yX8_readsEnd, .initialized RX8] : List Cond) [37, 38, 39, 7] rfl (by decide +kernel)) ggX8_readsBar_X8_readsEnd
theorem dX8_readsBar_0 : decode cX8_readsBar 0 = .ok (.aload_n 0, 1) := by decide +kernel
theorem dX8_readsBar_1 : decode cX8_readsBar 1 = .ok (.getfield 26, 3) := by decide +kernel
theorem dX8_readsBar_4 : decode cX8_readsBar 4 = .ok (.ifCond .ne 13, 3) := by decide +kernel
theorem dX8_readsBar_7 : decode cX8_readsBar 7 = .ok (.aload_n 0, 1) := by decide +kernel
theorem dX8_readsBar_8 : decode cX8_readsBar 8 = .ok (.iconst 0, 1) := by decide +kernel
theorem dX8_readsBar_9 : decode cX8_readsBar 9 = .ok (.bipush 7, 2) := by decide +kernel
theorem dX8_readsBar_11 : decode cX8_readsBar 11 = .ok (.invokevirtual 63, 3) := by decide +kernel
theorem dX8_readsBar_14 : decode cX8_readsBar 14 = .ok (.ifCond .ne 5, 3) := by decide +kernel
theorem dX8_readsBar_17 : decode cX8_readsBar 17 = .ok (.iconst 0, 1) := by decide +kernel
theorem dX8_readsBar_18 : decode cX8_readsBar 18 = .ok (.ireturn, 1) := by decide +kernel
theorem dX8_readsBar_19 : decode cX8_readsBar 19 = .ok (.aload_n 0, 1) := by decide +kernel
theorem dX8_readsBar_20 : decode cX8_readsBar 20 = .ok (.iconst 1, 1) := by decide +kernel
theorem dX8_readsBar_21 : decode cX8_readsBar 21 = .ok (.putfield 26, 3) := by decide +kernel
theorem dX8_readsBar_24 : decode cX8_readsBar 24 = .ok (.aload_n 0, 1) := by decide +kernel
theorem dX8_readsBar_25 : decode cX8_readsBar 25 = .ok (.getfield 12, 3) := by decide +kernel
theorem dX8_readsBar_28 : decode cX8_readsBar 28 = .ok (.aload_n 0, 1) := by decide +kernel
theorem dX8_readsBar_29 : decode cX8_readsBar 29 = .ok (.getfield 67, 3) := by decide +kernel
theorem dX8_readsBar_32 : decode cX8_readsBar 32 = .ok (.putfield 77, 3) := by decide +kernel
theorem dX8_readsBar_35 : decode cX8_readsBar 35 = .ok (.aload_n 0, 1) := by decide +kernel
theorem dX8_readsBar_36 : decode cX8_readsBar 36 = .ok (.invokevirtual 74, 3) := by decide +kernel
theorem dX8_readsBar_39 : decode cX8_readsBar 39 = .ok (.ireturn, 1) := by decide +kernel
set_option maxRecDepth 100000 in
theorem ggX8_readsDebt_X11_at : GoodIn wsX8_readsDebt wsX11_at := goodIn_r _ [7] rfl (by decide +kernel)
set_option maxRecDepth 100000 in
theorem gX8_readsDebt_X11_at_n59 : GoodIn wsX8_readsDebt (wsX11_at) := ggX8_readsDebt_X11_at
set_option maxRecDepth 100000 in
theorem ggX8_readsDebt_X8_readsNumber : GoodIn wsX8_readsDebt wsX8_readsNumber := goodIn_r _ [12, 13, 4, 14, 15, 16, 11, 17, 18, 19, 20, 21, 22, 23, 24, 25, 26, 27, 28, 29, 30, 31, 32, 33, 34, 35, 36, 37, 38, 6, 39, 56, 57, 58, 59, 60, 61, 62, 68, 69] rfl (by decide +kernel)
set_option maxRecDepth 100000 in
theorem gX8_readsDebt_X8_readsNumber : GoodIn wsX8_readsDebt (wsV RX8 63 RX8 yX8_readsNumber wsX8_readsNumber) := goodIn_app (goodIn_r ([.methodLink RX8 63 yX8_readsNumber, .instanceMethod yX8_readsNumber, .selects RX8 yX8_readsNumber yX8_readsNumber, .initialized RX8] : List Cond) [8, 9, 10, 11] rfl (by decide +kernel)) ggX8_readsDebt_X8_readsNumber
set_option maxRecDepth 100000 in
theorem ggX8_readsDebt_X10_ofDebt : GoodIn wsX8_readsDebt wsX10_ofDebt := goodIn_r _ [44, 45, 5, 6, 7, 63, 64, 65, 66, 67] rfl (by decide +kernel)
set_option maxRecDepth 100000 in
theorem gX8_readsDebt_X10_ofDebt : GoodIn wsX8_readsDebt (wsV RX8 89 RX10 yX10_ofDebt wsX10_ofDebt) := goodIn_app (goodIn_r ([.methodLink RX8 89 yX10_ofDebt, .instanceMethod yX10_ofDebt, .selects RX10 yX10_ofDebt yX10_ofDebt, .initialized RX10] : List Cond) [40, 41, 42, 43] rfl (by decide +kernel)) ggX8_readsDebt_X10_ofDebt
set_option maxRecDepth 100000 in
theorem ggX8_readsDebt_X10_setOfDebt : GoodIn wsX8_readsDebt wsX10_setOfDebt := goodIn_r _ [49, 45, 50, 6, 51, 63, 64, 65, 66, 67] rfl (by decide +kernel)
set_option maxRecDepth 100000 in
theorem gX8_readsDebt_X10_setOfDebt : GoodIn wsX8_readsDebt (wsV RX8 93 RX10 yX10_setOfDebt wsX10_setOfDebt) := goodIn_app (goodIn_r ([.methodLink RX8 93 yX10_setOfDebt, .instanceMethod yX10_setOfDebt, .selects RX10 yX10_setOfDebt yX10_setOfDebt, .initialized RX10] : List Cond) [46, 47, 48, 43] rfl (by decide +kernel)) ggX8_readsDebt_X10_setOfDebt
set_option maxRecDepth 100000 in
theorem ggX8_readsDebt_X8_readsEnd : GoodIn wsX8_readsDebt wsX8_readsEnd := goodIn_r _ [55, 13, 14, 15, 16, 11, 17, 18, 19, 20, 21, 22, 23, 24, 25, 26, 27, 28, 29, 30, 31, 32, 33, 4, 34, 35, 36, 37, 56, 57, 58, 59, 60, 61, 62, 68, 69] rfl (by decide +kernel)
set_option maxRecDepth 100000 in
theorem gX8_readsDebt_X8_readsEnd : GoodIn wsX8_readsDebt (wsV RX8 74 RX8 yX8_readsEnd wsX8_readsEnd) := goodIn_app (goodIn_r ([.methodLink RX8 74 yX8_readsEnd, .instanceMethod yX8_readsEnd, .selects RX8 yX8_readsEnd yX8_readsEnd, .initialized RX8] : List Cond) [52, 53, 54, 11] rfl (by decide +kernel)) ggX8_readsDebt_X8_readsEnd
theorem dX8_readsDebt_0 : decode cX8_readsDebt 0 = .ok (.aload_n 0, 1) := by decide +kernel
theorem dX8_readsDebt_1 : decode cX8_readsDebt 1 = .ok (.getfield 12, 3) := by decide +kernel
theorem dX8_readsDebt_4 : decode cX8_readsDebt 4 = .ok (.getfield 80, 3) := by decide +kernel
theorem dX8_readsDebt_7 : decode cX8_readsDebt 7 = .ok (.istore_n 1, 1) := by decide +kernel
theorem dX8_readsDebt_8 : decode cX8_readsDebt 8 = .ok (.iload_n 1, 1) := by decide +kernel
theorem dX8_readsDebt_9 : decode cX8_readsDebt 9 = .ok (.bipush 6, 2) := by decide +kernel
theorem dX8_readsDebt_11 : decode cX8_readsDebt 11 = .ok (.if_icmp .lt 5, 3) := by decide +kernel
theorem dX8_readsDebt_14 : decode cX8_readsDebt 14 = .ok (.iconst 0, 1) := by decide +kernel
theorem dX8_readsDebt_15 : decode cX8_readsDebt 15 = .ok (.ireturn, 1) := by decide +kernel
theorem dX8_readsDebt_16 : decode cX8_readsDebt 16 = .ok (.iconst 0, 1) := by decide +kernel
theorem dX8_readsDebt_17 : decode cX8_readsDebt 17 = .ok (.istore_n 2, 1) := by decide +kernel
theorem dX8_readsDebt_18 : decode cX8_readsDebt 18 = .ok (.iload_n 2, 1) := by decide +kernel
theorem dX8_readsDebt_19 : decode cX8_readsDebt 19 = .ok (.iconst 5, 1) := by decide +kernel
theorem dX8_readsDebt_20 : decode cX8_readsDebt 20 = .ok (.if_icmp .ge 87, 3) := by decide +kernel
theorem dX8_readsDebt_23 : decode cX8_readsDebt 23 = .ok (.iload_n 2, 1) := by decide +kernel
theorem dX8_readsDebt_24 : decode cX8_readsDebt 24 = .ok (.iconst 1, 1) := by decide +kernel
theorem dX8_readsDebt_25 : decode cX8_readsDebt 25 = .ok (.if_icmp .gt 15, 3) := by decide +kernel
theorem dX8_readsDebt_28 : decode cX8_readsDebt 28 = .ok (.aload_n 0, 1) := by decide +kernel
theorem dX8_readsDebt_29 : decode cX8_readsDebt 29 = .ok (.getfield 12, 3) := by decide +kernel
theorem dX8_readsDebt_32 : decode cX8_readsDebt 32 = .ok (.getfield 52, 3) := by decide +kernel
theorem dX8_readsDebt_35 : decode cX8_readsDebt 35 = .ok (.iconst 1, 1) := by decide +kernel
theorem dX8_readsDebt_36 : decode cX8_readsDebt 36 = .ok (.isub, 1) := by decide +kernel
theorem dX8_readsDebt_37 : decode cX8_readsDebt 37 = .ok (.goto 10, 3) := by decide +kernel
theorem dX8_readsDebt_40 : decode cX8_readsDebt 40 = .ok (.getstatic 83, 3) := by decide +kernel
theorem dX8_readsDebt_43 : decode cX8_readsDebt 43 = .ok (.iload_n 2, 1) := by decide +kernel
theorem dX8_readsDebt_44 : decode cX8_readsDebt 44 = .ok (.invokestatic 59, 3) := by decide +kernel
theorem dX8_readsDebt_47 : decode cX8_readsDebt 47 = .ok (.istore_n 3, 1) := by decide +kernel
theorem dX8_readsDebt_48 : decode cX8_readsDebt 48 = .ok (.aload_n 0, 1) := by decide +kernel
theorem dX8_readsDebt_49 : decode cX8_readsDebt 49 = .ok (.getstatic 86, 3) := by decide +kernel
theorem dX8_readsDebt_52 : decode cX8_readsDebt 52 = .ok (.iload_n 2, 1) := by decide +kernel
theorem dX8_readsDebt_53 : decode cX8_readsDebt 53 = .ok (.invokestatic 59, 3) := by decide +kernel
theorem dX8_readsDebt_56 : decode cX8_readsDebt 56 = .ok (.iload_n 3, 1) := by decide +kernel
theorem dX8_readsDebt_57 : decode cX8_readsDebt 57 = .ok (.invokevirtual 63, 3) := by decide +kernel
theorem dX8_readsDebt_60 : decode cX8_readsDebt 60 = .ok (.ifCond .ne 5, 3) := by decide +kernel
theorem dX8_readsDebt_63 : decode cX8_readsDebt 63 = .ok (.iconst 0, 1) := by decide +kernel
theorem dX8_readsDebt_64 : decode cX8_readsDebt 64 = .ok (.ireturn, 1) := by decide +kernel
theorem dX8_readsDebt_65 : decode cX8_readsDebt 65 = .ok (.iload_n 2, 1) := by decide +kernel
theorem dX8_readsDebt_66 : decode cX8_readsDebt 66 = .ok (.iconst 1, 1) := by decide +kernel
theorem dX8_readsDebt_67 : decode cX8_readsDebt 67 = .ok (.if_icmp .ne 21, 3) := by decide +kernel
theorem dX8_readsDebt_70 : decode cX8_readsDebt 70 = .ok (.aload_n 0, 1) := by decide +kernel
theorem dX8_readsDebt_71 : decode cX8_readsDebt 71 = .ok (.getfield 67, 3) := by decide +kernel
theorem dX8_readsDebt_74 : decode cX8_readsDebt 74 = .ok (.aload_n 0, 1) := by decide +kernel
theorem dX8_readsDebt_75 : decode cX8_readsDebt 75 = .ok (.getfield 12, 3) := by decide +kernel
theorem dX8_readsDebt_78 : decode cX8_readsDebt 78 = .ok (.iload_n 1, 1) := by decide +kernel
theorem dX8_readsDebt_79 : decode cX8_readsDebt 79 = .ok (.iconst 0, 1) := by decide +kernel
theorem dX8_readsDebt_80 : decode cX8_readsDebt 80 = .ok (.invokevirtual 89, 3) := by decide +kernel
theorem dX8_readsDebt_83 : decode cX8_readsDebt 83 = .ok (.if_icmp .ne 5, 3) := by decide +kernel
theorem dX8_readsDebt_86 : decode cX8_readsDebt 86 = .ok (.iconst 0, 1) := by decide +kernel
theorem dX8_readsDebt_87 : decode cX8_readsDebt 87 = .ok (.ireturn, 1) := by decide +kernel
theorem dX8_readsDebt_88 : decode cX8_readsDebt 88 = .ok (.aload_n 0, 1) := by decide +kernel
theorem dX8_readsDebt_89 : decode cX8_readsDebt 89 = .ok (.getfield 12, 3) := by decide +kernel
theorem dX8_readsDebt_92 : decode cX8_readsDebt 92 = .ok (.iload_n 1, 1) := by decide +kernel
theorem dX8_readsDebt_93 : decode cX8_readsDebt 93 = .ok (.iload_n 2, 1) := by decide +kernel
theorem dX8_readsDebt_94 : decode cX8_readsDebt 94 = .ok (.aload_n 0, 1) := by decide +kernel
theorem dX8_readsDebt_95 : decode cX8_readsDebt 95 = .ok (.getfield 67, 3) := by decide +kernel
theorem dX8_readsDebt_98 : decode cX8_readsDebt 98 = .ok (.invokevirtual 93, 3) := by decide +kernel
theorem dX8_readsDebt_101 : decode cX8_readsDebt 101 = .ok (.iinc 2 1, 3) := by decide +kernel
theorem dX8_readsDebt_104 : decode cX8_readsDebt 104 = .ok (.goto (-86), 3) := by decide +kernel
theorem dX8_readsDebt_107 : decode cX8_readsDebt 107 = .ok (.aload_n 0, 1) := by decide +kernel
theorem dX8_readsDebt_108 : decode cX8_readsDebt 108 = .ok (.invokevirtual 74, 3) := by decide +kernel
theorem dX8_readsDebt_111 : decode cX8_readsDebt 111 = .ok (.ifCond .ne 5, 3) := by decide +kernel
theorem dX8_readsDebt_114 : decode cX8_readsDebt 114 = .ok (.iconst 0, 1) := by decide +kernel
theorem dX8_readsDebt_115 : decode cX8_readsDebt 115 = .ok (.ireturn, 1) := by decide +kernel
theorem dX8_readsDebt_116 : decode cX8_readsDebt 116 = .ok (.aload_n 0, 1) := by decide +kernel
theorem dX8_readsDebt_117 : decode cX8_readsDebt 117 = .ok (.getfield 12, 3) := by decide +kernel
theorem dX8_readsDebt_120 : decode cX8_readsDebt 120 = .ok (.dup, 1) := by decide +kernel
theorem dX8_readsDebt_121 : decode cX8_readsDebt 121 = .ok (.getfield 80, 3) := by decide +kernel
theorem dX8_readsDebt_124 : decode cX8_readsDebt 124 = .ok (.iconst 1, 1) := by decide +kernel
theorem dX8_readsDebt_125 : decode cX8_readsDebt 125 = .ok (.iadd, 1) := by decide +kernel
theorem dX8_readsDebt_126 : decode cX8_readsDebt 126 = .ok (.putfield 80, 3) := by decide +kernel
theorem dX8_readsDebt_129 : decode cX8_readsDebt 129 = .ok (.iconst 1, 1) := by decide +kernel
theorem dX8_readsDebt_130 : decode cX8_readsDebt 130 = .ok (.ireturn, 1) := by decide +kernel
set_option maxRecDepth 100000 in
theorem ggX8_readsNumber_X8_nextToken : GoodIn wsX8_readsNumber wsX8_nextToken := goodIn_r _ [7, 8, 9, 10, 1, 11, 12, 13, 14, 15, 16, 17, 18, 6, 19, 20, 21, 22, 23, 2, 24, 25, 26, 27, 31, 32, 33, 34, 35, 36, 37, 38, 39] rfl (by decide +kernel)
set_option maxRecDepth 100000 in
theorem gX8_readsNumber_X8_nextToken : GoodIn wsX8_readsNumber (wsV RX8 33 RX8 yX8_nextToken wsX8_nextToken) := goodIn_app (goodIn_r ([.methodLink RX8 33 yX8_nextToken, .instanceMethod yX8_nextToken, .selects RX8 yX8_nextToken yX8_nextToken, .initialized RX8] : List Cond) [3, 4, 5, 6] rfl (by decide +kernel)) ggX8_readsNumber_X8_nextToken
set_option maxRecDepth 100000 in
theorem ggX8_readsNumber_X11_within : GoodIn wsX8_readsNumber wsX11_within := goodIn_r _ [30] rfl (by decide +kernel)
set_option maxRecDepth 100000 in
theorem gX8_readsNumber_X11_within_n96 : GoodIn wsX8_readsNumber (wsX11_within) := ggX8_readsNumber_X11_within
theorem dX8_readsNumber_0 : decode cX8_readsNumber 0 = .ok (.aload_n 0, 1) := by decide +kernel
theorem dX8_readsNumber_1 : decode cX8_readsNumber 1 = .ok (.invokevirtual 33, 3) := by decide +kernel
theorem dX8_readsNumber_4 : decode cX8_readsNumber 4 = .ok (.aload_n 0, 1) := by decide +kernel
theorem dX8_readsNumber_5 : decode cX8_readsNumber 5 = .ok (.getfield 36, 3) := by decide +kernel
theorem dX8_readsNumber_8 : decode cX8_readsNumber 8 = .ok (.sipush 256, 3) := by decide +kernel
theorem dX8_readsNumber_11 : decode cX8_readsNumber 11 = .ok (.if_icmp .ne 19, 3) := by decide +kernel
theorem dX8_readsNumber_14 : decode cX8_readsNumber 14 = .ok (.aload_n 0, 1) := by decide +kernel
theorem dX8_readsNumber_15 : decode cX8_readsNumber 15 = .ok (.getfield 67, 3) := by decide +kernel
theorem dX8_readsNumber_18 : decode cX8_readsNumber 18 = .ok (.iload_n 1, 1) := by decide +kernel
theorem dX8_readsNumber_19 : decode cX8_readsNumber 19 = .ok (.iload_n 2, 1) := by decide +kernel
theorem dX8_readsNumber_20 : decode cX8_readsNumber 20 = .ok (.invokestatic 96, 3) := by decide +kernel
theorem dX8_readsNumber_23 : decode cX8_readsNumber 23 = .ok (.ifCond .eq 7, 3) := by decide +kernel
theorem dX8_readsNumber_26 : decode cX8_readsNumber 26 = .ok (.iconst 1, 1) := by decide +kernel
theorem dX8_readsNumber_27 : decode cX8_readsNumber 27 = .ok (.goto 4, 3) := by decide +kernel
theorem dX8_readsNumber_30 : decode cX8_readsNumber 30 = .ok (.iconst 0, 1) := by decide +kernel
theorem dX8_readsNumber_31 : decode cX8_readsNumber 31 = .ok (.ireturn, 1) := by decide +kernel
set_option maxRecDepth 100000 in
theorem ggX8_readsEnd_X8_nextToken : GoodIn wsX8_readsEnd wsX8_nextToken := goodIn_r _ [6, 7, 8, 9, 1, 10, 11, 12, 13, 14, 15, 16, 17, 5, 18, 19, 20, 21, 22, 23, 24, 25, 26, 27, 28, 29, 30, 31, 32, 33, 34, 35, 36] rfl (by decide +kernel)
set_option maxRecDepth 100000 in
theorem gX8_readsEnd_X8_nextToken : GoodIn wsX8_readsEnd (wsV RX8 33 RX8 yX8_nextToken wsX8_nextToken) := goodIn_app (goodIn_r ([.methodLink RX8 33 yX8_nextToken, .instanceMethod yX8_nextToken, .selects RX8 yX8_nextToken yX8_nextToken, .initialized RX8] : List Cond) [2, 3, 4, 5] rfl (by decide +kernel)) ggX8_readsEnd_X8_nextToken
theorem dX8_readsEnd_0 : decode cX8_readsEnd 0 = .ok (.aload_n 0, 1) := by decide +kernel
theorem dX8_readsEnd_1 : decode cX8_readsEnd 1 = .ok (.invokevirtual 33, 3) := by decide +kernel
theorem dX8_readsEnd_4 : decode cX8_readsEnd 4 = .ok (.aload_n 0, 1) := by decide +kernel
theorem dX8_readsEnd_5 : decode cX8_readsEnd 5 = .ok (.getfield 36, 3) := by decide +kernel
theorem dX8_readsEnd_8 : decode cX8_readsEnd 8 = .ok (.bipush 59, 2) := by decide +kernel
theorem dX8_readsEnd_10 : decode cX8_readsEnd 10 = .ok (.if_icmp .ne 7, 3) := by decide +kernel
theorem dX8_readsEnd_13 : decode cX8_readsEnd 13 = .ok (.iconst 1, 1) := by decide +kernel
theorem dX8_readsEnd_14 : decode cX8_readsEnd 14 = .ok (.goto 4, 3) := by decide +kernel
theorem dX8_readsEnd_17 : decode cX8_readsEnd 17 = .ok (.iconst 0, 1) := by decide +kernel
theorem dX8_readsEnd_18 : decode cX8_readsEnd 18 = .ok (.ireturn, 1) := by decide +kernel
set_option maxRecDepth 100000 in
theorem ggX8_nextToken_X9_letter : GoodIn wsX8_nextToken wsX9_letter := goodIn_r _ [9, 10, 31, 32] rfl (by decide +kernel)
set_option maxRecDepth 100000 in
theorem gX8_nextToken_X9_letter : GoodIn wsX8_nextToken (wsV RX8 105 RX9 yX9_letter wsX9_letter) := goodIn_app (goodIn_r ([.methodLink RX8 105 yX9_letter, .instanceMethod yX9_letter, .selects RX9 yX9_letter yX9_letter, .initialized RX9] : List Cond) [5, 6, 7, 8] rfl (by decide +kernel)) ggX8_nextToken_X9_letter
set_option maxRecDepth 100000 in
theorem ggX8_nextToken_X8_isDigit : GoodIn wsX8_nextToken wsX8_isDigit := goodIn_r _ [14] rfl (by decide +kernel)
set_option maxRecDepth 100000 in
theorem gX8_nextToken_X8_isDigit : GoodIn wsX8_nextToken (va_wsS RX8 109 yX8_isDigit wsX8_isDigit) := goodIn_app (goodIn_r ([.methodLink RX8 109 yX8_isDigit, .static yX8_isDigit, .initialized RX8] : List Cond) [11, 12, 13] rfl (by decide +kernel)) ggX8_nextToken_X8_isDigit
set_option maxRecDepth 100000 in
theorem ggX8_nextToken_X8_takeNumber : GoodIn wsX8_nextToken wsX8_takeNumber := goodIn_r _ [18, 19, 1, 2, 20, 21, 22, 23, 3, 4, 5, 6, 7, 8, 9, 10, 11, 12, 13, 14, 24, 25, 26, 27, 28, 29, 30, 31, 32] rfl (by decide +kernel)
set_option maxRecDepth 100000 in
theorem gX8_nextToken_X8_takeNumber : GoodIn wsX8_nextToken (wsV RX8 113 RX8 yX8_takeNumber wsX8_takeNumber) := goodIn_app (goodIn_r ([.methodLink RX8 113 yX8_takeNumber, .instanceMethod yX8_takeNumber, .selects RX8 yX8_takeNumber yX8_takeNumber, .initialized RX8] : List Cond) [15, 16, 17, 13] rfl (by decide +kernel)) ggX8_nextToken_X8_takeNumber
theorem dX8_nextToken_0 : decode cX8_nextToken 0 = .ok (.aload_n 0, 1) := by decide +kernel
theorem dX8_nextToken_1 : decode cX8_nextToken 1 = .ok (.getfield 22, 3) := by decide +kernel
theorem dX8_nextToken_4 : decode cX8_nextToken 4 = .ok (.aload_n 0, 1) := by decide +kernel
theorem dX8_nextToken_5 : decode cX8_nextToken 5 = .ok (.getfield 18, 3) := by decide +kernel
theorem dX8_nextToken_8 : decode cX8_nextToken 8 = .ok (.getfield 100, 3) := by decide +kernel
theorem dX8_nextToken_11 : decode cX8_nextToken 11 = .ok (.if_icmp .ge 32, 3) := by decide +kernel
theorem dX8_nextToken_14 : decode cX8_nextToken 14 = .ok (.aload_n 0, 1) := by decide +kernel
theorem dX8_nextToken_15 : decode cX8_nextToken 15 = .ok (.getfield 18, 3) := by decide +kernel
theorem dX8_nextToken_18 : decode cX8_nextToken 18 = .ok (.aload_n 0, 1) := by decide +kernel
theorem dX8_nextToken_19 : decode cX8_nextToken 19 = .ok (.getfield 22, 3) := by decide +kernel
theorem dX8_nextToken_22 : decode cX8_nextToken 22 = .ok (.invokevirtual 105, 3) := by decide +kernel
theorem dX8_nextToken_25 : decode cX8_nextToken 25 = .ok (.bipush 32, 2) := by decide +kernel
theorem dX8_nextToken_27 : decode cX8_nextToken 27 = .ok (.if_icmp .ne 16, 3) := by decide +kernel
theorem dX8_nextToken_30 : decode cX8_nextToken 30 = .ok (.aload_n 0, 1) := by decide +kernel
theorem dX8_nextToken_31 : decode cX8_nextToken 31 = .ok (.dup, 1) := by decide +kernel
theorem dX8_nextToken_32 : decode cX8_nextToken 32 = .ok (.getfield 22, 3) := by decide +kernel
theorem dX8_nextToken_35 : decode cX8_nextToken 35 = .ok (.iconst 1, 1) := by decide +kernel
theorem dX8_nextToken_36 : decode cX8_nextToken 36 = .ok (.iadd, 1) := by decide +kernel
theorem dX8_nextToken_37 : decode cX8_nextToken 37 = .ok (.putfield 22, 3) := by decide +kernel
theorem dX8_nextToken_40 : decode cX8_nextToken 40 = .ok (.goto (-40), 3) := by decide +kernel
theorem dX8_nextToken_43 : decode cX8_nextToken 43 = .ok (.aload_n 0, 1) := by decide +kernel
theorem dX8_nextToken_44 : decode cX8_nextToken 44 = .ok (.aload_n 0, 1) := by decide +kernel
theorem dX8_nextToken_45 : decode cX8_nextToken 45 = .ok (.getfield 22, 3) := by decide +kernel
theorem dX8_nextToken_48 : decode cX8_nextToken 48 = .ok (.putfield 49, 3) := by decide +kernel
theorem dX8_nextToken_51 : decode cX8_nextToken 51 = .ok (.aload_n 0, 1) := by decide +kernel
theorem dX8_nextToken_52 : decode cX8_nextToken 52 = .ok (.getfield 22, 3) := by decide +kernel
theorem dX8_nextToken_55 : decode cX8_nextToken 55 = .ok (.aload_n 0, 1) := by decide +kernel
theorem dX8_nextToken_56 : decode cX8_nextToken 56 = .ok (.getfield 18, 3) := by decide +kernel
