set_option maxRecDepth 100000 in
theorem ggX11_found_X2_add : GoodIn wsX11_found wsX2_add := goodIn_r _ [13, 14, 15, 16, 17, 4, 18, 29, 30, 31, 32, 33, 34] rfl (by decide +kernel)
set_option maxRecDepth 100000 in
theorem gX11_found_X2_add : GoodIn wsX11_found (wsV RX11 234 RX2 yX2_add wsX2_add) := goodIn_app (goodIn_r ([.methodLink RX11 234 yX2_add, .instanceMethod yX2_add, .selects RX2 yX2_add yX2_add, .initialized RX2] : List Cond) [9, 10, 11, 12] rfl (by decide +kernel)) ggX11_found_X2_add
theorem dX11_found_0 : decode cX11_found 0 = .ok (.iload_n 1, 1) := by decide +kernel
theorem dX11_found_1 : decode cX11_found 1 = .ok (.iconst 1, 1) := by decide +kernel
theorem dX11_found_2 : decode cX11_found 2 = .ok (.bipush 8, 2) := by decide +kernel
theorem dX11_found_4 : decode cX11_found 4 = .ok (.invokestatic 92, 3) := by decide +kernel
theorem dX11_found_7 : decode cX11_found 7 = .ok (.ifCond .eq 10, 3) := by decide +kernel
theorem dX11_found_10 : decode cX11_found 10 = .ok (.iload_n 2, 1) := by decide +kernel
theorem dX11_found_11 : decode cX11_found 11 = .ok (.invokestatic 228, 3) := by decide +kernel
theorem dX11_found_14 : decode cX11_found 14 = .ok (.ifCond .ne 5, 3) := by decide +kernel
theorem dX11_found_17 : decode cX11_found 17 = .ok (.iconst (-1), 1) := by decide +kernel
theorem dX11_found_18 : decode cX11_found 18 = .ok (.ireturn, 1) := by decide +kernel
theorem dX11_found_19 : decode cX11_found 19 = .ok (.aload_n 0, 1) := by decide +kernel
theorem dX11_found_20 : decode cX11_found 20 = .ok (.getfield 60, 3) := by decide +kernel
theorem dX11_found_23 : decode cX11_found 23 = .ok (.getfield 231, 3) := by decide +kernel
theorem dX11_found_26 : decode cX11_found 26 = .ok (.iconst 5, 1) := by decide +kernel
theorem dX11_found_27 : decode cX11_found 27 = .ok (.if_icmp .lt 6, 3) := by decide +kernel
theorem dX11_found_30 : decode cX11_found 30 = .ok (.bipush (-3), 2) := by decide +kernel
theorem dX11_found_32 : decode cX11_found 32 = .ok (.ireturn, 1) := by decide +kernel
theorem dX11_found_33 : decode cX11_found 33 = .ok (.aload_n 0, 1) := by decide +kernel
theorem dX11_found_34 : decode cX11_found 34 = .ok (.getfield 60, 3) := by decide +kernel
theorem dX11_found_37 : decode cX11_found 37 = .ok (.iload_n 1, 1) := by decide +kernel
theorem dX11_found_38 : decode cX11_found 38 = .ok (.iload_n 2, 1) := by decide +kernel
theorem dX11_found_39 : decode cX11_found 39 = .ok (.invokevirtual 234, 3) := by decide +kernel
theorem dX11_found_42 : decode cX11_found 42 = .ok (.aload_n 0, 1) := by decide +kernel
theorem dX11_found_43 : decode cX11_found 43 = .ok (.getfield 60, 3) := by decide +kernel
theorem dX11_found_46 : decode cX11_found 46 = .ok (.getfield 231, 3) := by decide +kernel
theorem dX11_found_49 : decode cX11_found 49 = .ok (.ireturn, 1) := by decide +kernel
set_option maxRecDepth 100000 in
theorem ggX11_forget_X2_empty : GoodIn wsX11_forget wsX2_empty := goodIn_r _ [6, 7, 18, 19, 20, 21, 22, 23] rfl (by decide +kernel)
set_option maxRecDepth 100000 in
theorem gX11_forget_X2_empty : GoodIn wsX11_forget (wsV RX11 117 RX2 yX2_empty wsX2_empty) := goodIn_app (goodIn_r ([.methodLink RX11 117 yX2_empty, .instanceMethod yX2_empty, .selects RX2 yX2_empty yX2_empty, .initialized RX2] : List Cond) [2, 3, 4, 5] rfl (by decide +kernel)) ggX11_forget_X2_empty
theorem dX11_forget_0 : decode cX11_forget 0 = .ok (.aload_n 0, 1) := by decide +kernel
theorem dX11_forget_1 : decode cX11_forget 1 = .ok (.getfield 60, 3) := by decide +kernel
theorem dX11_forget_4 : decode cX11_forget 4 = .ok (.invokevirtual 117, 3) := by decide +kernel
theorem dX11_forget_7 : decode cX11_forget 7 = .ok (.ireturn, 1) := by decide +kernel
set_option maxRecDepth 100000 in
theorem ggX11_mayBe_X11_isBidder : GoodIn wsX11_mayBe wsX11_isBidder := goodIn_r _ [7, 8, 9, 10, 6, 11, 161, 162, 163, 164, 165, 166, 167, 168, 169, 170, 171, 172, 173, 174, 175] rfl (by decide +kernel)
set_option maxRecDepth 100000 in
theorem gX11_mayBe_X11_isBidder : GoodIn wsX11_mayBe (wsV RX11 122 RX11 yX11_isBidder wsX11_isBidder) := goodIn_app (goodIn_r ([.methodLink RX11 122 yX11_isBidder, .instanceMethod yX11_isBidder, .selects RX11 yX11_isBidder yX11_isBidder, .initialized RX11] : List Cond) [3, 4, 5, 6] rfl (by decide +kernel)) ggX11_mayBe_X11_isBidder
set_option maxRecDepth 100000 in
theorem ggX11_mayBe_X11_isName : GoodIn wsX11_mayBe wsX11_isName := goodIn_r _ [14, 9, 10, 6, 11] rfl (by decide +kernel)
set_option maxRecDepth 100000 in
theorem gX11_mayBe_X11_isName : GoodIn wsX11_mayBe (va_wsS RX11 149 yX11_isName wsX11_isName) := goodIn_app (goodIn_r ([.methodLink RX11 149 yX11_isName, .static yX11_isName, .initialized RX11] : List Cond) [12, 13, 6] rfl (by decide +kernel)) ggX11_mayBe_X11_isName
set_option maxRecDepth 100000 in
theorem ggX11_mayBe_X11_within : GoodIn wsX11_mayBe wsX11_within := goodIn_r _ [11] rfl (by decide +kernel)
set_option maxRecDepth 100000 in
theorem gX11_mayBe_X11_within : GoodIn wsX11_mayBe (va_wsS RX11 92 yX11_within wsX11_within) := goodIn_app (goodIn_r ([.methodLink RX11 92 yX11_within, .static yX11_within, .initialized RX11] : List Cond) [9, 10, 6] rfl (by decide +kernel)) ggX11_mayBe_X11_within
set_option maxRecDepth 100000 in
theorem ggX11_mayBe_X2_agreeWith : GoodIn wsX11_mayBe wsX2_agreeWith := goodIn_r _ [19, 20, 21, 22, 23, 24, 25, 26, 27, 28, 29, 6, 30, 31, 32, 33, 34, 35, 36, 37, 38, 39, 40, 41, 42, 43, 44, 45, 46, 47, 48, 49, 50, 51, 52, 53, 54, 55, 56, 57, 58, 59, 60, 61, 62, 63, 64, 65, 66, 67, 68, 69, 70, 71, 72, 73, 74, 75, 76, 77, 78, 79, 80, 81, 82, 83, 84, 85, 86, 87, 88, 89, 90, 91, 92, 93, 94, 95, 96, 97, 98, 99, 100, 101, 102, 103, 104, 105, 106, 107, 108, 109, 110, 111, 112, 113, 114, 115, 116, 117, 118, 119, 120, 121, 122, 123, 124, 125, 126, 127, 128, 129, 130, 131, 132, 133, 134, 135, 136, 137, 138, 139, 140, 141, 142, 143, 144, 145, 146, 147, 148, 149, 150, 151, 152, 153, 154, 155, 156, 18, 157, 158, 159, 160, 176, 177, 178, 179, 180, 181, 171, 172, 173, 174, 175, 182, 183, 184, 185, 186, 187, 188, 189, 190, 191, 192, 193, 194, 195] rfl (by decide +kernel)
set_option maxRecDepth 100000 in
theorem gX11_mayBe_X2_agreeWith : GoodIn wsX11_mayBe (wsV RX11 237 RX2 yX2_agreeWith wsX2_agreeWith) := goodIn_app (goodIn_r ([.methodLink RX11 237 yX2_agreeWith, .instanceMethod yX2_agreeWith, .selects RX2 yX2_agreeWith yX2_agreeWith, .initialized RX2] : List Cond) [15, 16, 17, 18] rfl (by decide +kernel)) ggX11_mayBe_X2_agreeWith
theorem dX11_mayBe_0 : decode cX11_mayBe 0 = .ok (.aload_n 0, 1) := by decide +kernel
theorem dX11_mayBe_1 : decode cX11_mayBe 1 = .ok (.iload_n 1, 1) := by decide +kernel
theorem dX11_mayBe_2 : decode cX11_mayBe 2 = .ok (.invokevirtual 122, 3) := by decide +kernel
theorem dX11_mayBe_5 : decode cX11_mayBe 5 = .ok (.ifCond .eq 19, 3) := by decide +kernel
theorem dX11_mayBe_8 : decode cX11_mayBe 8 = .ok (.iload_n 2, 1) := by decide +kernel
theorem dX11_mayBe_9 : decode cX11_mayBe 9 = .ok (.invokestatic 149, 3) := by decide +kernel
theorem dX11_mayBe_12 : decode cX11_mayBe 12 = .ok (.ifCond .eq 12, 3) := by decide +kernel
theorem dX11_mayBe_15 : decode cX11_mayBe 15 = .ok (.iload_n 3, 1) := by decide +kernel
theorem dX11_mayBe_16 : decode cX11_mayBe 16 = .ok (.iconst 0, 1) := by decide +kernel
theorem dX11_mayBe_17 : decode cX11_mayBe 17 = .ok (.iconst 1, 1) := by decide +kernel
theorem dX11_mayBe_18 : decode cX11_mayBe 18 = .ok (.invokestatic 92, 3) := by decide +kernel
theorem dX11_mayBe_21 : decode cX11_mayBe 21 = .ok (.ifCond .ne 5, 3) := by decide +kernel
theorem dX11_mayBe_24 : decode cX11_mayBe 24 = .ok (.iconst (-1), 1) := by decide +kernel
theorem dX11_mayBe_25 : decode cX11_mayBe 25 = .ok (.ireturn, 1) := by decide +kernel
theorem dX11_mayBe_26 : decode cX11_mayBe 26 = .ok (.iconst 0, 1) := by decide +kernel
theorem dX11_mayBe_27 : decode cX11_mayBe 27 = .ok (.istore 4, 2) := by decide +kernel
theorem dX11_mayBe_29 : decode cX11_mayBe 29 = .ok (.bipush (-9), 2) := by decide +kernel
theorem dX11_mayBe_31 : decode cX11_mayBe 31 = .ok (.istore 5, 2) := by decide +kernel
theorem dX11_mayBe_33 : decode cX11_mayBe 33 = .ok (.iconst 0, 1) := by decide +kernel
theorem dX11_mayBe_34 : decode cX11_mayBe 34 = .ok (.istore 6, 2) := by decide +kernel
theorem dX11_mayBe_36 : decode cX11_mayBe 36 = .ok (.iload 6, 2) := by decide +kernel
theorem dX11_mayBe_38 : decode cX11_mayBe 38 = .ok (.bipush 20, 2) := by decide +kernel
theorem dX11_mayBe_40 : decode cX11_mayBe 40 = .ok (.if_icmp .gt 44, 3) := by decide +kernel
theorem dX11_mayBe_43 : decode cX11_mayBe 43 = .ok (.aload_n 0, 1) := by decide +kernel
theorem dX11_mayBe_44 : decode cX11_mayBe 44 = .ok (.getfield 60, 3) := by decide +kernel
theorem dX11_mayBe_47 : decode cX11_mayBe 47 = .ok (.aload_n 0, 1) := by decide +kernel
theorem dX11_mayBe_48 : decode cX11_mayBe 48 = .ok (.getfield 35, 3) := by decide +kernel
theorem dX11_mayBe_51 : decode cX11_mayBe 51 = .ok (.iload_n 1, 1) := by decide +kernel
theorem dX11_mayBe_52 : decode cX11_mayBe 52 = .ok (.iload_n 2, 1) := by decide +kernel
theorem dX11_mayBe_53 : decode cX11_mayBe 53 = .ok (.iload 6, 2) := by decide +kernel
theorem dX11_mayBe_55 : decode cX11_mayBe 55 = .ok (.invokevirtual 237, 3) := by decide +kernel
theorem dX11_mayBe_58 : decode cX11_mayBe 58 = .ok (.ifCond .ne 6, 3) := by decide +kernel
theorem dX11_mayBe_61 : decode cX11_mayBe 61 = .ok (.goto 17, 3) := by decide +kernel
theorem dX11_mayBe_64 : decode cX11_mayBe 64 = .ok (.iinc 4 1, 3) := by decide +kernel
theorem dX11_mayBe_67 : decode cX11_mayBe 67 = .ok (.iload 5, 2) := by decide +kernel
theorem dX11_mayBe_69 : decode cX11_mayBe 69 = .ok (.bipush (-9), 2) := by decide +kernel
theorem dX11_mayBe_71 : decode cX11_mayBe 71 = .ok (.if_icmp .ne 7, 3) := by decide +kernel
theorem dX11_mayBe_74 : decode cX11_mayBe 74 = .ok (.iload 6, 2) := by decide +kernel
theorem dX11_mayBe_76 : decode cX11_mayBe 76 = .ok (.istore 5, 2) := by decide +kernel
theorem dX11_mayBe_78 : decode cX11_mayBe 78 = .ok (.iinc 6 1, 3) := by decide +kernel
theorem dX11_mayBe_81 : decode cX11_mayBe 81 = .ok (.goto (-45), 3) := by decide +kernel
theorem dX11_mayBe_84 : decode cX11_mayBe 84 = .ok (.iload_n 3, 1) := by decide +kernel
theorem dX11_mayBe_85 : decode cX11_mayBe 85 = .ok (.ifCond .ne 8, 3) := by decide +kernel
theorem dX11_mayBe_88 : decode cX11_mayBe 88 = .ok (.iload 4, 2) := by decide +kernel
theorem dX11_mayBe_90 : decode cX11_mayBe 90 = .ok (.goto 5, 3) := by decide +kernel
theorem dX11_mayBe_93 : decode cX11_mayBe 93 = .ok (.iload 5, 2) := by decide +kernel
theorem dX11_mayBe_95 : decode cX11_mayBe 95 = .ok (.ireturn, 1) := by decide +kernel
set_option maxRecDepth 100000 in
theorem ggX11_plan_X11_isNameOrNone : GoodIn wsX11_plan wsX11_isNameOrNone := goodIn_r _ [5, 6, 7, 4, 8] rfl (by decide +kernel)
set_option maxRecDepth 100000 in
theorem gX11_plan_X11_isNameOrNone : GoodIn wsX11_plan (va_wsS RX11 228 yX11_isNameOrNone wsX11_isNameOrNone) := goodIn_app (goodIn_r ([.methodLink RX11 228 yX11_isNameOrNone, .static yX11_isNameOrNone, .initialized RX11] : List Cond) [2, 3, 4] rfl (by decide +kernel)) ggX11_plan_X11_isNameOrNone
set_option maxRecDepth 100000 in
theorem ggX11_plan_X0_add : GoodIn wsX11_plan wsX0_add := goodIn_r _ [13, 14, 15, 16, 4, 17, 28, 29, 30, 31] rfl (by decide +kernel)
set_option maxRecDepth 100000 in
theorem gX11_plan_X0_add : GoodIn wsX11_plan (wsV RX11 242 RX0 yX0_add wsX0_add) := goodIn_app (goodIn_r ([.methodLink RX11 242 yX0_add, .instanceMethod yX0_add, .selects RX0 yX0_add yX0_add, .initialized RX0] : List Cond) [9, 10, 11, 12] rfl (by decide +kernel)) ggX11_plan_X0_add
theorem dX11_plan_0 : decode cX11_plan 0 = .ok (.iload_n 1, 1) := by decide +kernel
theorem dX11_plan_1 : decode cX11_plan 1 = .ok (.invokestatic 228, 3) := by decide +kernel
theorem dX11_plan_4 : decode cX11_plan 4 = .ok (.ifCond .ne 5, 3) := by decide +kernel
theorem dX11_plan_7 : decode cX11_plan 7 = .ok (.iconst (-1), 1) := by decide +kernel
theorem dX11_plan_8 : decode cX11_plan 8 = .ok (.ireturn, 1) := by decide +kernel
theorem dX11_plan_9 : decode cX11_plan 9 = .ok (.aload_n 0, 1) := by decide +kernel
theorem dX11_plan_10 : decode cX11_plan 10 = .ok (.getfield 69, 3) := by decide +kernel
theorem dX11_plan_13 : decode cX11_plan 13 = .ok (.getfield 241, 3) := by decide +kernel
theorem dX11_plan_16 : decode cX11_plan 16 = .ok (.bipush 8, 2) := by decide +kernel
theorem dX11_plan_18 : decode cX11_plan 18 = .ok (.if_icmp .lt 6, 3) := by decide +kernel
theorem dX11_plan_21 : decode cX11_plan 21 = .ok (.bipush (-3), 2) := by decide +kernel
theorem dX11_plan_23 : decode cX11_plan 23 = .ok (.ireturn, 1) := by decide +kernel
theorem dX11_plan_24 : decode cX11_plan 24 = .ok (.aload_n 0, 1) := by decide +kernel
theorem dX11_plan_25 : decode cX11_plan 25 = .ok (.getfield 69, 3) := by decide +kernel
theorem dX11_plan_28 : decode cX11_plan 28 = .ok (.iload_n 1, 1) := by decide +kernel
theorem dX11_plan_29 : decode cX11_plan 29 = .ok (.invokevirtual 242, 3) := by decide +kernel
theorem dX11_plan_32 : decode cX11_plan 32 = .ok (.aload_n 0, 1) := by decide +kernel
theorem dX11_plan_33 : decode cX11_plan 33 = .ok (.getfield 69, 3) := by decide +kernel
theorem dX11_plan_36 : decode cX11_plan 36 = .ok (.getfield 241, 3) := by decide +kernel
theorem dX11_plan_39 : decode cX11_plan 39 = .ok (.ireturn, 1) := by decide +kernel
set_option maxRecDepth 100000 in
theorem ggX11_unplan_X0_empty : GoodIn wsX11_unplan wsX0_empty := goodIn_r _ [6, 7, 18, 19, 20, 21] rfl (by decide +kernel)
set_option maxRecDepth 100000 in
theorem gX11_unplan_X0_empty : GoodIn wsX11_unplan (wsV RX11 118 RX0 yX0_empty wsX0_empty) := goodIn_app (goodIn_r ([.methodLink RX11 118 yX0_empty, .instanceMethod yX0_empty, .selects RX0 yX0_empty yX0_empty, .initialized RX0] : List Cond) [2, 3, 4, 5] rfl (by decide +kernel)) ggX11_unplan_X0_empty
theorem dX11_unplan_0 : decode cX11_unplan 0 = .ok (.aload_n 0, 1) := by decide +kernel
theorem dX11_unplan_1 : decode cX11_unplan 1 = .ok (.getfield 69, 3) := by decide +kernel
theorem dX11_unplan_4 : decode cX11_unplan 4 = .ok (.invokevirtual 118, 3) := by decide +kernel
theorem dX11_unplan_7 : decode cX11_unplan 7 = .ok (.ireturn, 1) := by decide +kernel
set_option maxRecDepth 100000 in
theorem ggX11_planned_X11_isBidder : GoodIn wsX11_planned wsX11_isBidder := goodIn_r _ [7, 8, 9, 10, 6, 11, 94, 95, 96, 97, 98, 99, 100, 101, 102, 103, 104, 105, 106, 107, 108] rfl (by decide +kernel)
set_option maxRecDepth 100000 in
theorem gX11_planned_X11_isBidder : GoodIn wsX11_planned (wsV RX11 122 RX11 yX11_isBidder wsX11_isBidder) := goodIn_app (goodIn_r ([.methodLink RX11 122 yX11_isBidder, .instanceMethod yX11_isBidder, .selects RX11 yX11_isBidder yX11_isBidder, .initialized RX11] : List Cond) [3, 4, 5, 6] rfl (by decide +kernel)) ggX11_planned_X11_isBidder
set_option maxRecDepth 100000 in
theorem ggX11_planned_X0_carriedOut : GoodIn wsX11_planned wsX0_carriedOut := goodIn_r _ [16, 17, 18, 19, 20, 21, 22, 23, 24, 25, 26, 27, 28, 29, 30, 31, 32, 33, 34, 6, 35, 36, 37, 38, 39, 40, 41, 42, 43, 44, 45, 46, 47, 48, 49, 50, 51, 52, 53, 54, 55, 56, 57, 58, 59, 60, 61, 62, 63, 64, 65, 66, 67, 68, 69, 70, 71, 72, 73, 74, 75, 76, 77, 78, 79, 80, 81, 82, 83, 84, 85, 86, 87, 88, 109, 110, 111, 112, 113, 114, 115, 116, 117, 118, 119, 120, 121, 122, 123, 124, 104, 105, 106, 107, 108] rfl (by decide +kernel)
set_option maxRecDepth 100000 in
theorem gX11_planned_X0_carriedOut : GoodIn wsX11_planned (wsV RX11 243 RX0 yX0_carriedOut wsX0_carriedOut) := goodIn_app (goodIn_r ([.methodLink RX11 243 yX0_carriedOut, .instanceMethod yX0_carriedOut, .selects RX0 yX0_carriedOut yX0_carriedOut, .initialized RX0] : List Cond) [12, 13, 14, 15] rfl (by decide +kernel)) ggX11_planned_X0_carriedOut
set_option maxRecDepth 100000 in
theorem ggX11_planned_X3_defaults : GoodIn wsX11_planned wsX3_defaults := goodIn_r _ [92, 28, 113, 114, 115, 116, 117, 118, 119, 120] rfl (by decide +kernel)
set_option maxRecDepth 100000 in
theorem gX11_planned_X3_defaults : GoodIn wsX11_planned (wsV RX11 171 RX3 yX3_defaults wsX3_defaults) := goodIn_app (goodIn_r ([.methodLink RX11 171 yX3_defaults, .instanceMethod yX3_defaults, .selects RX3 yX3_defaults yX3_defaults, .initialized RX3] : List Cond) [89, 90, 91, 24] rfl (by decide +kernel)) ggX11_planned_X3_defaults
set_option maxRecDepth 100000 in
theorem ggX11_planned_X3_purse : GoodIn wsX11_planned wsX3_purse := goodIn_r _ [84, 27, 36, 6, 37, 113, 114, 115, 116, 117, 118, 119, 120] rfl (by decide +kernel)
set_option maxRecDepth 100000 in
theorem gX11_planned_X3_purse : GoodIn wsX11_planned (wsV RX11 126 RX3 yX3_purse wsX3_purse) := goodIn_app (goodIn_r ([.methodLink RX11 126 yX3_purse, .instanceMethod yX3_purse, .selects RX3 yX3_purse yX3_purse, .initialized RX3] : List Cond) [93, 82, 83, 24] rfl (by decide +kernel)) ggX11_planned_X3_purse
theorem dX11_planned_0 : decode cX11_planned 0 = .ok (.iload_n 1, 1) := by decide +kernel
theorem dX11_planned_1 : decode cX11_planned 1 = .ok (.iconst (-1), 1) := by decide +kernel
theorem dX11_planned_2 : decode cX11_planned 2 = .ok (.if_icmp .eq 13, 3) := by decide +kernel
theorem dX11_planned_5 : decode cX11_planned 5 = .ok (.aload_n 0, 1) := by decide +kernel
theorem dX11_planned_6 : decode cX11_planned 6 = .ok (.iload_n 1, 1) := by decide +kernel
theorem dX11_planned_7 : decode cX11_planned 7 = .ok (.invokevirtual 122, 3) := by decide +kernel
theorem dX11_planned_10 : decode cX11_planned 10 = .ok (.ifCond .ne 5, 3) := by decide +kernel
theorem dX11_planned_13 : decode cX11_planned 13 = .ok (.iconst (-1), 1) := by decide +kernel
theorem dX11_planned_14 : decode cX11_planned 14 = .ok (.ireturn, 1) := by decide +kernel
theorem dX11_planned_15 : decode cX11_planned 15 = .ok (.aload_n 0, 1) := by decide +kernel
theorem dX11_planned_16 : decode cX11_planned 16 = .ok (.getfield 69, 3) := by decide +kernel
theorem dX11_planned_19 : decode cX11_planned 19 = .ok (.aload_n 0, 1) := by decide +kernel
theorem dX11_planned_20 : decode cX11_planned 20 = .ok (.getfield 35, 3) := by decide +kernel
theorem dX11_planned_23 : decode cX11_planned 23 = .ok (.invokevirtual 243, 3) := by decide +kernel
theorem dX11_planned_26 : decode cX11_planned 26 = .ok (.astore_n 2, 1) := by decide +kernel
theorem dX11_planned_27 : decode cX11_planned 27 = .ok (.iload_n 1, 1) := by decide +kernel
theorem dX11_planned_28 : decode cX11_planned 28 = .ok (.iconst (-1), 1) := by decide +kernel
theorem dX11_planned_29 : decode cX11_planned 29 = .ok (.if_icmp .ne 18, 3) := by decide +kernel
theorem dX11_planned_32 : decode cX11_planned 32 = .ok (.aload_n 2, 1) := by decide +kernel
theorem dX11_planned_33 : decode cX11_planned 33 = .ok (.invokevirtual 171, 3) := by decide +kernel
theorem dX11_planned_36 : decode cX11_planned 36 = .ok (.aload_n 0, 1) := by decide +kernel
theorem dX11_planned_37 : decode cX11_planned 37 = .ok (.getfield 35, 3) := by decide +kernel
theorem dX11_planned_40 : decode cX11_planned 40 = .ok (.invokevirtual 171, 3) := by decide +kernel
theorem dX11_planned_43 : decode cX11_planned 43 = .ok (.isub, 1) := by decide +kernel
theorem dX11_planned_44 : decode cX11_planned 44 = .ok (.goto 8, 3) := by decide +kernel
theorem dX11_planned_47 : decode cX11_planned 47 = .ok (.aload_n 2, 1) := by decide +kernel
theorem dX11_planned_48 : decode cX11_planned 48 = .ok (.iload_n 1, 1) := by decide +kernel
theorem dX11_planned_49 : decode cX11_planned 49 = .ok (.invokevirtual 126, 3) := by decide +kernel
theorem dX11_planned_52 : decode cX11_planned 52 = .ok (.ireturn, 1) := by decide +kernel
set_option maxRecDepth 100000 in
theorem ggX11_odds_X11_isDebt : GoodIn wsX11_odds wsX11_isDebt := goodIn_r _ [7, 8, 9, 10, 6, 11, 154, 155, 156, 157, 158, 159, 160, 161, 162, 163, 164, 165, 166, 167, 168] rfl (by decide +kernel)
set_option maxRecDepth 100000 in
theorem gX11_odds_X11_isDebt : GoodIn wsX11_odds (wsV RX11 134 RX11 yX11_isDebt wsX11_isDebt) := goodIn_app (goodIn_r ([.methodLink RX11 134 yX11_isDebt, .instanceMethod yX11_isDebt, .selects RX11 yX11_isDebt yX11_isDebt, .initialized RX11] : List Cond) [3, 4, 5, 6] rfl (by decide +kernel)) ggX11_odds_X11_isDebt
set_option maxRecDepth 100000 in
theorem ggX11_odds_X11_within : GoodIn wsX11_odds wsX11_within := goodIn_r _ [11] rfl (by decide +kernel)
set_option maxRecDepth 100000 in
theorem gX11_odds_X11_within : GoodIn wsX11_odds (va_wsS RX11 92 yX11_within wsX11_within) := goodIn_app (goodIn_r ([.methodLink RX11 92 yX11_within, .static yX11_within, .initialized RX11] : List Cond) [9, 10, 6] rfl (by decide +kernel)) ggX11_odds_X11_within
set_option maxRecDepth 100000 in
theorem ggX11_odds_X5_nightDue : GoodIn wsX11_odds wsX5_nightDue := goodIn_r _ [16, 17, 18, 19, 20, 21, 22, 23, 24, 25, 6, 26, 27, 28, 29, 30, 31, 32, 33, 34, 35, 36, 37, 38, 39, 40, 41, 42, 43, 44, 45, 46, 47, 48, 49, 50, 51, 52, 53, 54, 55, 56, 57, 58, 59, 60, 61, 62, 63, 64, 65, 66, 67, 68, 69, 70, 71, 72, 73, 74, 75, 76, 77, 78, 79, 80, 81, 82, 83, 84, 85, 86, 87, 88, 89, 90, 91, 92, 93, 94, 95, 96, 97, 98, 99, 100, 101, 102, 103, 104, 105, 106, 107, 108, 109, 110, 111, 112, 113, 114, 115, 116, 117, 118, 119, 120, 121, 122, 123, 124, 125, 126, 127, 128, 129, 130, 131, 132, 133, 134, 135, 136, 137, 138, 139, 140, 141, 169, 170, 171, 172, 173, 174, 175, 176, 177, 178, 179, 180, 181, 182, 183, 184, 185, 164, 165, 166, 167, 168] rfl (by decide +kernel)
set_option maxRecDepth 100000 in
theorem gX11_odds_X5_nightDue : GoodIn wsX11_odds (wsV RX11 212 RX5 yX5_nightDue wsX5_nightDue) := goodIn_app (goodIn_r ([.methodLink RX11 212 yX5_nightDue, .instanceMethod yX5_nightDue, .selects RX5 yX5_nightDue yX5_nightDue, .initialized RX5] : List Cond) [12, 13, 14, 15] rfl (by decide +kernel)) ggX11_odds_X5_nightDue
set_option maxRecDepth 100000 in
theorem ggX11_odds_X11_chancesOf : GoodIn wsX11_odds wsX11_chancesOf := goodIn_r _ [144, 145, 146, 6, 147, 148, 149, 150] rfl (by decide +kernel)
set_option maxRecDepth 100000 in
theorem gX11_odds_X11_chancesOf : GoodIn wsX11_odds (va_wsS RX11 247 yX11_chancesOf wsX11_chancesOf) := goodIn_app (goodIn_r ([.methodLink RX11 247 yX11_chancesOf, .static yX11_chancesOf, .initialized RX11] : List Cond) [142, 143, 6] rfl (by decide +kernel)) ggX11_odds_X11_chancesOf
set_option maxRecDepth 100000 in
theorem ggX11_odds_X11_power : GoodIn wsX11_odds wsX11_power := goodIn_r _ [150] rfl (by decide +kernel)
set_option maxRecDepth 100000 in
theorem gX11_odds_X11_power : GoodIn wsX11_odds (va_wsS RX11 251 yX11_power wsX11_power) := goodIn_app (goodIn_r ([.methodLink RX11 251 yX11_power, .static yX11_power, .initialized RX11] : List Cond) [148, 149, 6] rfl (by decide +kernel)) ggX11_odds_X11_power
set_option maxRecDepth 100000 in
theorem ggX11_odds_X11_commonDivisor : GoodIn wsX11_odds wsX11_commonDivisor := goodIn_r _ [153] rfl (by decide +kernel)
set_option maxRecDepth 100000 in
theorem gX11_odds_X11_commonDivisor : GoodIn wsX11_odds (va_wsS RX11 254 yX11_commonDivisor wsX11_commonDivisor) := goodIn_app (goodIn_r ([.methodLink RX11 254 yX11_commonDivisor, .static yX11_commonDivisor, .initialized RX11] : List Cond) [151, 152, 6] rfl (by decide +kernel)) ggX11_odds_X11_commonDivisor
theorem dX11_odds_0 : decode cX11_odds 0 = .ok (.aload_n 0, 1) := by decide +kernel
theorem dX11_odds_1 : decode cX11_odds 1 = .ok (.iload_n 1, 1) := by decide +kernel
theorem dX11_odds_2 : decode cX11_odds 2 = .ok (.invokevirtual 134, 3) := by decide +kernel
theorem dX11_odds_5 : decode cX11_odds 5 = .ok (.ifCond .eq 33, 3) := by decide +kernel
theorem dX11_odds_8 : decode cX11_odds 8 = .ok (.iload_n 2, 1) := by decide +kernel
theorem dX11_odds_9 : decode cX11_odds 9 = .ok (.iconst 0, 1) := by decide +kernel
theorem dX11_odds_10 : decode cX11_odds 10 = .ok (.bipush 10, 2) := by decide +kernel
theorem dX11_odds_12 : decode cX11_odds 12 = .ok (.invokestatic 92, 3) := by decide +kernel
theorem dX11_odds_15 : decode cX11_odds 15 = .ok (.ifCond .eq 23, 3) := by decide +kernel
theorem dX11_odds_18 : decode cX11_odds 18 = .ok (.iload_n 3, 1) := by decide +kernel
theorem dX11_odds_19 : decode cX11_odds 19 = .ok (.iconst 0, 1) := by decide +kernel
theorem dX11_odds_20 : decode cX11_odds 20 = .ok (.bipush 6, 2) := by decide +kernel
theorem dX11_odds_22 : decode cX11_odds 22 = .ok (.invokestatic 92, 3) := by decide +kernel
theorem dX11_odds_25 : decode cX11_odds 25 = .ok (.ifCond .eq 13, 3) := by decide +kernel
theorem dX11_odds_28 : decode cX11_odds 28 = .ok (.iload 4, 2) := by decide +kernel
theorem dX11_odds_30 : decode cX11_odds 30 = .ok (.iconst 0, 1) := by decide +kernel
theorem dX11_odds_31 : decode cX11_odds 31 = .ok (.iconst 1, 1) := by decide +kernel
theorem dX11_odds_32 : decode cX11_odds 32 = .ok (.invokestatic 92, 3) := by decide +kernel
theorem dX11_odds_35 : decode cX11_odds 35 = .ok (.ifCond .ne 5, 3) := by decide +kernel
theorem dX11_odds_38 : decode cX11_odds 38 = .ok (.iconst (-1), 1) := by decide +kernel
theorem dX11_odds_39 : decode cX11_odds 39 = .ok (.ireturn, 1) := by decide +kernel
theorem dX11_odds_40 : decode cX11_odds 40 = .ok (.aload_n 0, 1) := by decide +kernel
theorem dX11_odds_41 : decode cX11_odds 41 = .ok (.getfield 53, 3) := by decide +kernel
theorem dX11_odds_44 : decode cX11_odds 44 = .ok (.aload_n 0, 1) := by decide +kernel
theorem dX11_odds_45 : decode cX11_odds 45 = .ok (.getfield 35, 3) := by decide +kernel
theorem dX11_odds_48 : decode cX11_odds 48 = .ok (.iload_n 1, 1) := by decide +kernel
theorem dX11_odds_49 : decode cX11_odds 49 = .ok (.iload_n 3, 1) := by decide +kernel
theorem dX11_odds_50 : decode cX11_odds 50 = .ok (.invokevirtual 212, 3) := by decide +kernel
theorem dX11_odds_53 : decode cX11_odds 53 = .ok (.iload_n 2, 1) := by decide +kernel
theorem dX11_odds_54 : decode cX11_odds 54 = .ok (.iload_n 3, 1) := by decide +kernel
theorem dX11_odds_55 : decode cX11_odds 55 = .ok (.invokestatic 247, 3) := by decide +kernel
theorem dX11_odds_58 : decode cX11_odds 58 = .ok (.istore 5, 2) := by decide +kernel
theorem dX11_odds_60 : decode cX11_odds 60 = .ok (.bipush 10, 2) := by decide +kernel
theorem dX11_odds_62 : decode cX11_odds 62 = .ok (.iload_n 3, 1) := by decide +kernel
theorem dX11_odds_63 : decode cX11_odds 63 = .ok (.invokestatic 251, 3) := by decide +kernel
theorem dX11_odds_66 : decode cX11_odds 66 = .ok (.istore 6, 2) := by decide +kernel
theorem dX11_odds_68 : decode cX11_odds 68 = .ok (.iload 5, 2) := by decide +kernel
theorem dX11_odds_70 : decode cX11_odds 70 = .ok (.iload 6, 2) := by decide +kernel
theorem dX11_odds_72 : decode cX11_odds 72 = .ok (.invokestatic 254, 3) := by decide +kernel
theorem dX11_odds_75 : decode cX11_odds 75 = .ok (.istore 7, 2) := by decide +kernel
theorem dX11_odds_77 : decode cX11_odds 77 = .ok (.iload 7, 2) := by decide +kernel
theorem dX11_odds_79 : decode cX11_odds 79 = .ok (.ifCond .ne 5, 3) := by decide +kernel
theorem dX11_odds_82 : decode cX11_odds 82 = .ok (.iconst 0, 1) := by decide +kernel
theorem dX11_odds_83 : decode cX11_odds 83 = .ok (.ireturn, 1) := by decide +kernel
theorem dX11_odds_84 : decode cX11_odds 84 = .ok (.iload 4, 2) := by decide +kernel
theorem dX11_odds_86 : decode cX11_odds 86 = .ok (.ifCond .ne 8, 3) := by decide +kernel
theorem dX11_odds_89 : decode cX11_odds 89 = .ok (.iload 5, 2) := by decide +kernel
theorem dX11_odds_91 : decode cX11_odds 91 = .ok (.goto 5, 3) := by decide +kernel
theorem dX11_odds_94 : decode cX11_odds 94 = .ok (.iload 6, 2) := by decide +kernel
theorem dX11_odds_96 : decode cX11_odds 96 = .ok (.iload 7, 2) := by decide +kernel
theorem dX11_odds_98 : decode cX11_odds 98 = .ok (.idiv, 1) := by decide +kernel
theorem dX11_odds_99 : decode cX11_odds 99 = .ok (.ireturn, 1) := by decide +kernel
set_option maxRecDepth 100000 in
theorem ggX11_rate_X11_isBidder : GoodIn wsX11_rate wsX11_isBidder := goodIn_r _ [7, 8, 9, 10, 6, 11, 78, 79, 80, 81, 82, 83, 84, 85, 86, 87, 88, 89, 90, 91, 92] rfl (by decide +kernel)
set_option maxRecDepth 100000 in
theorem gX11_rate_X11_isBidder : GoodIn wsX11_rate (wsV RX11 122 RX11 yX11_isBidder wsX11_isBidder) := goodIn_app (goodIn_r ([.methodLink RX11 122 yX11_isBidder, .instanceMethod yX11_isBidder, .selects RX11 yX11_isBidder yX11_isBidder, .initialized RX11] : List Cond) [3, 4, 5, 6] rfl (by decide +kernel)) ggX11_rate_X11_isBidder
set_option maxRecDepth 100000 in
theorem ggX11_rate_X7_asIf : GoodIn wsX11_rate wsX7_asIf := goodIn_r _ [16, 17, 18, 19, 20, 15, 21, 22, 23, 24, 25, 26, 27, 28, 29, 30, 6, 31, 32, 33, 34, 35, 36, 37, 38, 39, 40, 41, 42, 43, 44, 45, 46, 47, 48, 49, 50, 51, 52, 53, 54, 55, 56, 57, 58, 59, 60, 61, 62, 63, 64, 65, 66, 67, 68, 69, 70, 71, 72, 73, 74, 75, 76, 77, 93, 94, 95, 96, 97, 98, 99, 100, 101, 102, 103, 88, 89, 90, 91, 92] rfl (by decide +kernel)
set_option maxRecDepth 100000 in
theorem gX11_rate_X7_asIf : GoodIn wsX11_rate (wsV RX11 257 RX7 yX7_asIf wsX7_asIf) := goodIn_app (goodIn_r ([.methodLink RX11 257 yX7_asIf, .instanceMethod yX7_asIf, .selects RX7 yX7_asIf yX7_asIf, .initialized RX7] : List Cond) [12, 13, 14, 15] rfl (by decide +kernel)) ggX11_rate_X7_asIf
theorem dX11_rate_0 : decode cX11_rate 0 = .ok (.aload_n 0, 1) := by decide +kernel
theorem dX11_rate_1 : decode cX11_rate 1 = .ok (.iload_n 2, 1) := by decide +kernel
theorem dX11_rate_2 : decode cX11_rate 2 = .ok (.invokevirtual 122, 3) := by decide +kernel
theorem dX11_rate_5 : decode cX11_rate 5 = .ok (.ifCond .eq 15, 3) := by decide +kernel
theorem dX11_rate_8 : decode cX11_rate 8 = .ok (.aload_n 0, 1) := by decide +kernel
theorem dX11_rate_9 : decode cX11_rate 9 = .ok (.getfield 85, 3) := by decide +kernel
theorem dX11_rate_12 : decode cX11_rate 12 = .ok (.iload_n 1, 1) := by decide +kernel
theorem dX11_rate_13 : decode cX11_rate 13 = .ok (.iload_n 2, 1) := by decide +kernel
theorem dX11_rate_14 : decode cX11_rate 14 = .ok (.invokevirtual 257, 3) := by decide +kernel
theorem dX11_rate_17 : decode cX11_rate 17 = .ok (.goto 5, 3) := by decide +kernel
theorem dX11_rate_20 : decode cX11_rate 20 = .ok (.ldc 223, 2) := by decide +kernel
theorem dX11_rate_22 : decode cX11_rate 22 = .ok (.ireturn, 1) := by decide +kernel
set_option maxRecDepth 100000 in
theorem ggX11_keep_X11_within : GoodIn wsX11_keep wsX11_within := goodIn_r _ [6] rfl (by decide +kernel)
set_option maxRecDepth 100000 in
theorem gX11_keep_X11_within : GoodIn wsX11_keep (va_wsS RX11 92 yX11_within wsX11_within) := goodIn_app (goodIn_r ([.methodLink RX11 92 yX11_within, .static yX11_within, .initialized RX11] : List Cond) [3, 4, 5] rfl (by decide +kernel)) ggX11_keep_X11_within
set_option maxRecDepth 100000 in
theorem ggX11_keep_X6_keepImage : GoodIn wsX11_keep wsX6_keepImage := goodIn_r _ [11, 12, 13, 14, 15, 10, 16, 17, 18, 19, 20, 21, 22, 23, 24, 25, 26, 27, 28, 29, 30, 5, 31, 50, 51, 52, 53, 54, 42, 43, 44, 45, 46, 47, 48, 49] rfl (by decide +kernel)
set_option maxRecDepth 100000 in
theorem gX11_keep_X6_keepImage : GoodIn wsX11_keep (wsV RX11 260 RX6 yX6_keepImage wsX6_keepImage) := goodIn_app (goodIn_r ([.methodLink RX11 260 yX6_keepImage, .instanceMethod yX6_keepImage, .selects RX6 yX6_keepImage yX6_keepImage, .initialized RX6] : List Cond) [7, 8, 9, 10] rfl (by decide +kernel)) ggX11_keep_X6_keepImage
theorem dX11_keep_0 : decode cX11_keep 0 = .ok (.iload_n 1, 1) := by decide +kernel
theorem dX11_keep_1 : decode cX11_keep 1 = .ok (.iconst 0, 1) := by decide +kernel
theorem dX11_keep_2 : decode cX11_keep 2 = .ok (.iconst 1, 1) := by decide +kernel
theorem dX11_keep_3 : decode cX11_keep 3 = .ok (.invokestatic 92, 3) := by decide +kernel
theorem dX11_keep_6 : decode cX11_keep 6 = .ok (.ifCond .ne 5, 3) := by decide +kernel
theorem dX11_keep_9 : decode cX11_keep 9 = .ok (.iconst (-1), 1) := by decide +kernel
theorem dX11_keep_10 : decode cX11_keep 10 = .ok (.ireturn, 1) := by decide +kernel
theorem dX11_keep_11 : decode cX11_keep 11 = .ok (.aload_n 0, 1) := by decide +kernel
theorem dX11_keep_12 : decode cX11_keep 12 = .ok (.getfield 76, 3) := by decide +kernel
theorem dX11_keep_15 : decode cX11_keep 15 = .ok (.iload_n 1, 1) := by decide +kernel
theorem dX11_keep_16 : decode cX11_keep 16 = .ok (.aload_n 0, 1) := by decide +kernel
theorem dX11_keep_17 : decode cX11_keep 17 = .ok (.getfield 35, 3) := by decide +kernel
theorem dX11_keep_20 : decode cX11_keep 20 = .ok (.invokevirtual 260, 3) := by decide +kernel
theorem dX11_keep_23 : decode cX11_keep 23 = .ok (.aload_n 0, 1) := by decide +kernel
theorem dX11_keep_24 : decode cX11_keep 24 = .ok (.getfield 35, 3) := by decide +kernel
theorem dX11_keep_27 : decode cX11_keep 27 = .ok (.getfield 143, 3) := by decide +kernel
theorem dX11_keep_30 : decode cX11_keep 30 = .ok (.ireturn, 1) := by decide +kernel
set_option maxRecDepth 100000 in
theorem ggX11_back_X11_within : GoodIn wsX11_back wsX11_within := goodIn_r _ [6] rfl (by decide +kernel)
set_option maxRecDepth 100000 in
theorem gX11_back_X11_within : GoodIn wsX11_back (va_wsS RX11 92 yX11_within wsX11_within) := goodIn_app (goodIn_r ([.methodLink RX11 92 yX11_within, .static yX11_within, .initialized RX11] : List Cond) [3, 4, 5] rfl (by decide +kernel)) ggX11_back_X11_within
set_option maxRecDepth 100000 in
theorem ggX11_back_X6_backTo : GoodIn wsX11_back wsX6_backTo := goodIn_r _ [11, 12, 13, 14, 15, 16, 10, 17, 18, 19, 20, 21, 22, 23, 24, 25, 26, 27, 28, 29, 30, 31, 5, 32, 51, 52, 53, 54, 55, 43, 44, 45, 46, 47, 48, 49, 50] rfl (by decide +kernel)
set_option maxRecDepth 100000 in
theorem gX11_back_X6_backTo : GoodIn wsX11_back (wsV RX11 264 RX6 yX6_backTo wsX6_backTo) := goodIn_app (goodIn_r ([.methodLink RX11 264 yX6_backTo, .instanceMethod yX6_backTo, .selects RX6 yX6_backTo yX6_backTo, .initialized RX6] : List Cond) [7, 8, 9, 10] rfl (by decide +kernel)) ggX11_back_X6_backTo
theorem dX11_back_0 : decode cX11_back 0 = .ok (.iload_n 1, 1) := by decide +kernel
theorem dX11_back_1 : decode cX11_back 1 = .ok (.iconst 0, 1) := by decide +kernel
theorem dX11_back_2 : decode cX11_back 2 = .ok (.iconst 1, 1) := by decide +kernel
theorem dX11_back_3 : decode cX11_back 3 = .ok (.invokestatic 92, 3) := by decide +kernel
theorem dX11_back_6 : decode cX11_back 6 = .ok (.ifCond .ne 5, 3) := by decide +kernel
theorem dX11_back_9 : decode cX11_back 9 = .ok (.iconst (-1), 1) := by decide +kernel
theorem dX11_back_10 : decode cX11_back 10 = .ok (.ireturn, 1) := by decide +kernel
theorem dX11_back_11 : decode cX11_back 11 = .ok (.aload_n 0, 1) := by decide +kernel
theorem dX11_back_12 : decode cX11_back 12 = .ok (.getfield 76, 3) := by decide +kernel
theorem dX11_back_15 : decode cX11_back 15 = .ok (.iload_n 1, 1) := by decide +kernel
theorem dX11_back_16 : decode cX11_back 16 = .ok (.aload_n 0, 1) := by decide +kernel
theorem dX11_back_17 : decode cX11_back 17 = .ok (.getfield 35, 3) := by decide +kernel
theorem dX11_back_20 : decode cX11_back 20 = .ok (.invokevirtual 264, 3) := by decide +kernel
theorem dX11_back_23 : decode cX11_back 23 = .ok (.ifCond .eq 13, 3) := by decide +kernel
theorem dX11_back_26 : decode cX11_back 26 = .ok (.aload_n 0, 1) := by decide +kernel
theorem dX11_back_27 : decode cX11_back 27 = .ok (.getfield 35, 3) := by decide +kernel
theorem dX11_back_30 : decode cX11_back 30 = .ok (.getfield 143, 3) := by decide +kernel
theorem dX11_back_33 : decode cX11_back 33 = .ok (.goto 5, 3) := by decide +kernel
theorem dX11_back_36 : decode cX11_back 36 = .ok (.bipush (-2), 2) := by decide +kernel
theorem dX11_back_38 : decode cX11_back 38 = .ok (.ireturn, 1) := by decide +kernel
theorem dX11_count_0 : decode cX11_count 0 = .ok (.iload_n 1, 1) := by decide +kernel
theorem dX11_count_1 : decode cX11_count 1 = .ok (.tableswitch 87 0 5 #[39, 47, 55, 63, 71, 79], 39) := by decide +kernel
theorem dX11_count_40 : decode cX11_count 40 = .ok (.aload_n 0, 1) := by decide +kernel
theorem dX11_count_41 : decode cX11_count 41 = .ok (.getfield 19, 3) := by decide +kernel
theorem dX11_count_44 : decode cX11_count 44 = .ok (.getfield 268, 3) := by decide +kernel
theorem dX11_count_47 : decode cX11_count 47 = .ok (.ireturn, 1) := by decide +kernel
theorem dX11_count_48 : decode cX11_count 48 = .ok (.aload_n 0, 1) := by decide +kernel
theorem dX11_count_49 : decode cX11_count 49 = .ok (.getfield 19, 3) := by decide +kernel
theorem dX11_count_52 : decode cX11_count 52 = .ok (.getfield 158, 3) := by decide +kernel
theorem dX11_count_55 : decode cX11_count 55 = .ok (.ireturn, 1) := by decide +kernel
theorem dX11_count_56 : decode cX11_count 56 = .ok (.aload_n 0, 1) := by decide +kernel
theorem dX11_count_57 : decode cX11_count 57 = .ok (.getfield 19, 3) := by decide +kernel
theorem dX11_count_60 : decode cX11_count 60 = .ok (.getfield 271, 3) := by decide +kernel
theorem dX11_count_63 : decode cX11_count 63 = .ok (.ireturn, 1) := by decide +kernel
theorem dX11_count_64 : decode cX11_count 64 = .ok (.aload_n 0, 1) := by decide +kernel
theorem dX11_count_65 : decode cX11_count 65 = .ok (.getfield 60, 3) := by decide +kernel
theorem dX11_count_68 : decode cX11_count 68 = .ok (.getfield 231, 3) := by decide +kernel
theorem dX11_count_71 : decode cX11_count 71 = .ok (.ireturn, 1) := by decide +kernel
theorem dX11_count_72 : decode cX11_count 72 = .ok (.aload_n 0, 1) := by decide +kernel
theorem dX11_count_73 : decode cX11_count 73 = .ok (.getfield 69, 3) := by decide +kernel
theorem dX11_count_76 : decode cX11_count 76 = .ok (.getfield 241, 3) := by decide +kernel
theorem dX11_count_79 : decode cX11_count 79 = .ok (.ireturn, 1) := by decide +kernel
theorem dX11_count_80 : decode cX11_count 80 = .ok (.aload_n 0, 1) := by decide +kernel
theorem dX11_count_81 : decode cX11_count 81 = .ok (.getfield 10, 3) := by decide +kernel
theorem dX11_count_84 : decode cX11_count 84 = .ok (.getfield 96, 3) := by decide +kernel
theorem dX11_count_87 : decode cX11_count 87 = .ok (.ireturn, 1) := by decide +kernel
theorem dX11_count_88 : decode cX11_count 88 = .ok (.iconst (-1), 1) := by decide +kernel
theorem dX11_count_89 : decode cX11_count 89 = .ok (.ireturn, 1) := by decide +kernel
theorem dX11_trace_0 : decode cX11_trace 0 = .ok (.aload_n 0, 1) := by decide +kernel
theorem dX11_trace_1 : decode cX11_trace 1 = .ok (.getfield 85, 3) := by decide +kernel
theorem dX11_trace_4 : decode cX11_trace 4 = .ok (.getfield 274, 3) := by decide +kernel
theorem dX11_trace_7 : decode cX11_trace 7 = .ok (.lreturn, 1) := by decide +kernel
set_option maxRecDepth 100000 in
theorem ggX11_isBidder_X11_within : GoodIn wsX11_isBidder wsX11_within := goodIn_r _ [5] rfl (by decide +kernel)
set_option maxRecDepth 100000 in
theorem gX11_isBidder_X11_within : GoodIn wsX11_isBidder (va_wsS RX11 92 yX11_within wsX11_within) := goodIn_app (goodIn_r ([.methodLink RX11 92 yX11_within, .static yX11_within, .initialized RX11] : List Cond) [2, 3, 4] rfl (by decide +kernel)) ggX11_isBidder_X11_within
theorem dX11_isBidder_0 : decode cX11_isBidder 0 = .ok (.iload_n 1, 1) := by decide +kernel
theorem dX11_isBidder_1 : decode cX11_isBidder 1 = .ok (.iconst 0, 1) := by decide +kernel
theorem dX11_isBidder_2 : decode cX11_isBidder 2 = .ok (.aload_n 0, 1) := by decide +kernel
theorem dX11_isBidder_3 : decode cX11_isBidder 3 = .ok (.getfield 19, 3) := by decide +kernel
theorem dX11_isBidder_6 : decode cX11_isBidder 6 = .ok (.getfield 268, 3) := by decide +kernel
theorem dX11_isBidder_9 : decode cX11_isBidder 9 = .ok (.iconst 1, 1) := by decide +kernel
theorem dX11_isBidder_10 : decode cX11_isBidder 10 = .ok (.isub, 1) := by decide +kernel
theorem dX11_isBidder_11 : decode cX11_isBidder 11 = .ok (.invokestatic 92, 3) := by decide +kernel
theorem dX11_isBidder_14 : decode cX11_isBidder 14 = .ok (.ireturn, 1) := by decide +kernel
set_option maxRecDepth 100000 in
theorem ggX11_isDebt_X11_within : GoodIn wsX11_isDebt wsX11_within := goodIn_r _ [5] rfl (by decide +kernel)
set_option maxRecDepth 100000 in
theorem gX11_isDebt_X11_within : GoodIn wsX11_isDebt (va_wsS RX11 92 yX11_within wsX11_within) := goodIn_app (goodIn_r ([.methodLink RX11 92 yX11_within, .static yX11_within, .initialized RX11] : List Cond) [2, 3, 4] rfl (by decide +kernel)) ggX11_isDebt_X11_within
theorem dX11_isDebt_0 : decode cX11_isDebt 0 = .ok (.iload_n 1, 1) := by decide +kernel
theorem dX11_isDebt_1 : decode cX11_isDebt 1 = .ok (.iconst 0, 1) := by decide +kernel
theorem dX11_isDebt_2 : decode cX11_isDebt 2 = .ok (.aload_n 0, 1) := by decide +kernel
theorem dX11_isDebt_3 : decode cX11_isDebt 3 = .ok (.getfield 19, 3) := by decide +kernel
theorem dX11_isDebt_6 : decode cX11_isDebt 6 = .ok (.getfield 271, 3) := by decide +kernel
theorem dX11_isDebt_9 : decode cX11_isDebt 9 = .ok (.iconst 1, 1) := by decide +kernel
theorem dX11_isDebt_10 : decode cX11_isDebt 10 = .ok (.isub, 1) := by decide +kernel
theorem dX11_isDebt_11 : decode cX11_isDebt 11 = .ok (.invokestatic 92, 3) := by decide +kernel
theorem dX11_isDebt_14 : decode cX11_isDebt 14 = .ok (.ireturn, 1) := by decide +kernel
set_option maxRecDepth 100000 in
theorem ggX11_neverDue_X3_howIs : GoodIn wsX11_neverDue wsX3_howIs := goodIn_r _ [7, 8, 9, 10, 11, 43, 44, 45, 46, 47, 48, 49, 50] rfl (by decide +kernel)
set_option maxRecDepth 100000 in
theorem gX11_neverDue_X3_howIs : GoodIn wsX11_neverDue (wsV RX11 137 RX3 yX3_howIs wsX3_howIs) := goodIn_app (goodIn_r ([.methodLink RX11 137 yX3_howIs, .instanceMethod yX3_howIs, .selects RX3 yX3_howIs yX3_howIs, .initialized RX3] : List Cond) [3, 4, 5, 6] rfl (by decide +kernel)) ggX11_neverDue_X3_howIs
set_option maxRecDepth 100000 in
theorem ggX11_neverDue_X10_ofDebt : GoodIn wsX11_neverDue wsX10_ofDebt := goodIn_r _ [16, 17, 9, 10, 11, 38, 39, 40, 41, 42] rfl (by decide +kernel)
set_option maxRecDepth 100000 in
theorem gX11_neverDue_X10_ofDebt : GoodIn wsX11_neverDue (wsV RX11 140 RX10 yX10_ofDebt wsX10_ofDebt) := goodIn_app (goodIn_r ([.methodLink RX11 140 yX10_ofDebt, .instanceMethod yX10_ofDebt, .selects RX10 yX10_ofDebt yX10_ofDebt, .initialized RX10] : List Cond) [12, 13, 14, 15] rfl (by decide +kernel)) ggX11_neverDue_X10_ofDebt
set_option maxRecDepth 100000 in
theorem ggX11_neverDue_X10_isWanted : GoodIn wsX11_neverDue wsX10_isWanted := goodIn_r _ [21, 22, 23, 24, 25, 15, 26, 27, 9, 10, 11, 38, 39, 40, 41, 42] rfl (by decide +kernel)
set_option maxRecDepth 100000 in
theorem gX11_neverDue_X10_isWanted : GoodIn wsX11_neverDue (wsV RX11 278 RX10 yX10_isWanted wsX10_isWanted) := goodIn_app (goodIn_r ([.methodLink RX11 278 yX10_isWanted, .instanceMethod yX10_isWanted, .selects RX10 yX10_isWanted yX10_isWanted, .initialized RX10] : List Cond) [18, 19, 20, 15] rfl (by decide +kernel)) ggX11_neverDue_X10_isWanted
theorem dX11_neverDue_0 : decode cX11_neverDue 0 = .ok (.iconst 0, 1) := by decide +kernel
theorem dX11_neverDue_1 : decode cX11_neverDue 1 = .ok (.istore_n 1, 1) := by decide +kernel
theorem dX11_neverDue_2 : decode cX11_neverDue 2 = .ok (.iconst 0, 1) := by decide +kernel
theorem dX11_neverDue_3 : decode cX11_neverDue 3 = .ok (.istore_n 2, 1) := by decide +kernel
theorem dX11_neverDue_4 : decode cX11_neverDue 4 = .ok (.iload_n 2, 1) := by decide +kernel
theorem dX11_neverDue_5 : decode cX11_neverDue 5 = .ok (.aload_n 0, 1) := by decide +kernel
theorem dX11_neverDue_6 : decode cX11_neverDue 6 = .ok (.getfield 19, 3) := by decide +kernel
theorem dX11_neverDue_9 : decode cX11_neverDue 9 = .ok (.getfield 271, 3) := by decide +kernel
theorem dX11_neverDue_12 : decode cX11_neverDue 12 = .ok (.if_icmp .ge 45, 3) := by decide +kernel
theorem dX11_neverDue_15 : decode cX11_neverDue 15 = .ok (.aload_n 0, 1) := by decide +kernel
theorem dX11_neverDue_16 : decode cX11_neverDue 16 = .ok (.getfield 35, 3) := by decide +kernel
theorem dX11_neverDue_19 : decode cX11_neverDue 19 = .ok (.iload_n 2, 1) := by decide +kernel
theorem dX11_neverDue_20 : decode cX11_neverDue 20 = .ok (.invokevirtual 137, 3) := by decide +kernel
theorem dX11_neverDue_23 : decode cX11_neverDue 23 = .ok (.ifCond .ne 28, 3) := by decide +kernel
theorem dX11_neverDue_26 : decode cX11_neverDue 26 = .ok (.aload_n 0, 1) := by decide +kernel
theorem dX11_neverDue_27 : decode cX11_neverDue 27 = .ok (.getfield 19, 3) := by decide +kernel
theorem dX11_neverDue_30 : decode cX11_neverDue 30 = .ok (.aload_n 0, 1) := by decide +kernel
theorem dX11_neverDue_31 : decode cX11_neverDue 31 = .ok (.getfield 19, 3) := by decide +kernel
theorem dX11_neverDue_34 : decode cX11_neverDue 34 = .ok (.iload_n 2, 1) := by decide +kernel
theorem dX11_neverDue_35 : decode cX11_neverDue 35 = .ok (.iconst 4, 1) := by decide +kernel
theorem dX11_neverDue_36 : decode cX11_neverDue 36 = .ok (.invokevirtual 140, 3) := by decide +kernel
theorem dX11_neverDue_39 : decode cX11_neverDue 39 = .ok (.invokevirtual 278, 3) := by decide +kernel
theorem dX11_neverDue_42 : decode cX11_neverDue 42 = .ok (.ifCond .ne 9, 3) := by decide +kernel
theorem dX11_neverDue_45 : decode cX11_neverDue 45 = .ok (.iload_n 1, 1) := by decide +kernel
theorem dX11_neverDue_46 : decode cX11_neverDue 46 = .ok (.iconst 1, 1) := by decide +kernel
theorem dX11_neverDue_47 : decode cX11_neverDue 47 = .ok (.iload_n 2, 1) := by decide +kernel
theorem dX11_neverDue_48 : decode cX11_neverDue 48 = .ok (.ishl, 1) := by decide +kernel
theorem dX11_neverDue_49 : decode cX11_neverDue 49 = .ok (.ior, 1) := by decide +kernel
theorem dX11_neverDue_50 : decode cX11_neverDue 50 = .ok (.istore_n 1, 1) := by decide +kernel
theorem dX11_neverDue_51 : decode cX11_neverDue 51 = .ok (.iinc 2 1, 3) := by decide +kernel
theorem dX11_neverDue_54 : decode cX11_neverDue 54 = .ok (.goto (-50), 3) := by decide +kernel
theorem dX11_neverDue_57 : decode cX11_neverDue 57 = .ok (.iload_n 1, 1) := by decide +kernel
theorem dX11_neverDue_58 : decode cX11_neverDue 58 = .ok (.ireturn, 1) := by decide +kernel
set_option maxRecDepth 100000 in
theorem ggX11_chancesOf_X11_choose : GoodIn wsX11_chancesOf wsX11_choose := goodIn_r _ [4] rfl (by decide +kernel)
set_option maxRecDepth 100000 in
theorem gX11_chancesOf_X11_choose : GoodIn wsX11_chancesOf (va_wsS RX11 281 yX11_choose wsX11_choose) := goodIn_app (goodIn_r ([.methodLink RX11 281 yX11_choose, .static yX11_choose, .initialized RX11] : List Cond) [1, 2, 3] rfl (by decide +kernel)) ggX11_chancesOf_X11_choose
set_option maxRecDepth 100000 in
theorem ggX11_chancesOf_X11_power : GoodIn wsX11_chancesOf wsX11_power := goodIn_r _ [7] rfl (by decide +kernel)
set_option maxRecDepth 100000 in
theorem gX11_chancesOf_X11_power : GoodIn wsX11_chancesOf (va_wsS RX11 251 yX11_power wsX11_power) := goodIn_app (goodIn_r ([.methodLink RX11 251 yX11_power, .static yX11_power, .initialized RX11] : List Cond) [5, 6, 3] rfl (by decide +kernel)) ggX11_chancesOf_X11_power
theorem dX11_chancesOf_0 : decode cX11_chancesOf 0 = .ok (.iload_n 0, 1) := by decide +kernel
theorem dX11_chancesOf_1 : decode cX11_chancesOf 1 = .ok (.bipush (-9), 2) := by decide +kernel
theorem dX11_chancesOf_3 : decode cX11_chancesOf 3 = .ok (.if_icmp .ne 5, 3) := by decide +kernel
theorem dX11_chancesOf_6 : decode cX11_chancesOf 6 = .ok (.iconst 0, 1) := by decide +kernel
theorem dX11_chancesOf_7 : decode cX11_chancesOf 7 = .ok (.ireturn, 1) := by decide +kernel
theorem dX11_chancesOf_8 : decode cX11_chancesOf 8 = .ok (.iconst 0, 1) := by decide +kernel
theorem dX11_chancesOf_9 : decode cX11_chancesOf 9 = .ok (.istore_n 3, 1) := by decide +kernel
theorem dX11_chancesOf_10 : decode cX11_chancesOf 10 = .ok (.iload_n 0, 1) := by decide +kernel
theorem dX11_chancesOf_11 : decode cX11_chancesOf 11 = .ok (.istore 4, 2) := by decide +kernel
theorem dX11_chancesOf_13 : decode cX11_chancesOf 13 = .ok (.iload 4, 2) := by decide +kernel
theorem dX11_chancesOf_15 : decode cX11_chancesOf 15 = .ok (.iload_n 2, 1) := by decide +kernel
theorem dX11_chancesOf_16 : decode cX11_chancesOf 16 = .ok (.if_icmp .gt 37, 3) := by decide +kernel
theorem dX11_chancesOf_19 : decode cX11_chancesOf 19 = .ok (.iload_n 3, 1) := by decide +kernel
theorem dX11_chancesOf_20 : decode cX11_chancesOf 20 = .ok (.iload_n 2, 1) := by decide +kernel
theorem dX11_chancesOf_21 : decode cX11_chancesOf 21 = .ok (.iload 4, 2) := by decide +kernel
theorem dX11_chancesOf_23 : decode cX11_chancesOf 23 = .ok (.invokestatic 281, 3) := by decide +kernel
theorem dX11_chancesOf_26 : decode cX11_chancesOf 26 = .ok (.bipush 10, 2) := by decide +kernel
theorem dX11_chancesOf_28 : decode cX11_chancesOf 28 = .ok (.iload_n 1, 1) := by decide +kernel
theorem dX11_chancesOf_29 : decode cX11_chancesOf 29 = .ok (.isub, 1) := by decide +kernel
theorem dX11_chancesOf_30 : decode cX11_chancesOf 30 = .ok (.iload 4, 2) := by decide +kernel
theorem dX11_chancesOf_32 : decode cX11_chancesOf 32 = .ok (.invokestatic 251, 3) := by decide +kernel
theorem dX11_chancesOf_35 : decode cX11_chancesOf 35 = .ok (.imul, 1) := by decide +kernel
theorem dX11_chancesOf_36 : decode cX11_chancesOf 36 = .ok (.iload_n 1, 1) := by decide +kernel
theorem dX11_chancesOf_37 : decode cX11_chancesOf 37 = .ok (.iload_n 2, 1) := by decide +kernel
theorem dX11_chancesOf_38 : decode cX11_chancesOf 38 = .ok (.iload 4, 2) := by decide +kernel
theorem dX11_chancesOf_40 : decode cX11_chancesOf 40 = .ok (.isub, 1) := by decide +kernel
theorem dX11_chancesOf_41 : decode cX11_chancesOf 41 = .ok (.invokestatic 251, 3) := by decide +kernel
theorem dX11_chancesOf_44 : decode cX11_chancesOf 44 = .ok (.imul, 1) := by decide +kernel
theorem dX11_chancesOf_45 : decode cX11_chancesOf 45 = .ok (.iadd, 1) := by decide +kernel
theorem dX11_chancesOf_46 : decode cX11_chancesOf 46 = .ok (.istore_n 3, 1) := by decide +kernel
theorem dX11_chancesOf_47 : decode cX11_chancesOf 47 = .ok (.iinc 4 1, 3) := by decide +kernel
theorem dX11_chancesOf_50 : decode cX11_chancesOf 50 = .ok (.goto (-37), 3) := by decide +kernel
theorem dX11_chancesOf_53 : decode cX11_chancesOf 53 = .ok (.iload_n 3, 1) := by decide +kernel
theorem dX11_chancesOf_54 : decode cX11_chancesOf 54 = .ok (.ireturn, 1) := by decide +kernel
set_option maxRecDepth 100000 in
theorem ggX11_isName_X11_within : GoodIn wsX11_isName wsX11_within := goodIn_r _ [4] rfl (by decide +kernel)
set_option maxRecDepth 100000 in
theorem gX11_isName_X11_within : GoodIn wsX11_isName (va_wsS RX11 92 yX11_within wsX11_within) := goodIn_app (goodIn_r ([.methodLink RX11 92 yX11_within, .static yX11_within, .initialized RX11] : List Cond) [1, 2, 3] rfl (by decide +kernel)) ggX11_isName_X11_within
theorem dX11_isName_0 : decode cX11_isName 0 = .ok (.iload_n 0, 1) := by decide +kernel
theorem dX11_isName_1 : decode cX11_isName 1 = .ok (.iconst 0, 1) := by decide +kernel
theorem dX11_isName_2 : decode cX11_isName 2 = .ok (.iconst 4, 1) := by decide +kernel
theorem dX11_isName_3 : decode cX11_isName 3 = .ok (.invokestatic 92, 3) := by decide +kernel
theorem dX11_isName_6 : decode cX11_isName 6 = .ok (.ireturn, 1) := by decide +kernel
set_option maxRecDepth 100000 in
theorem ggX11_isNameOrNone_X11_within : GoodIn wsX11_isNameOrNone wsX11_within := goodIn_r _ [4] rfl (by decide +kernel)
set_option maxRecDepth 100000 in
theorem gX11_isNameOrNone_X11_within : GoodIn wsX11_isNameOrNone (va_wsS RX11 92 yX11_within wsX11_within) := goodIn_app (goodIn_r ([.methodLink RX11 92 yX11_within, .static yX11_within, .initialized RX11] : List Cond) [1, 2, 3] rfl (by decide +kernel)) ggX11_isNameOrNone_X11_within
theorem dX11_isNameOrNone_0 : decode cX11_isNameOrNone 0 = .ok (.iload_n 0, 1) := by decide +kernel
theorem dX11_isNameOrNone_1 : decode cX11_isNameOrNone 1 = .ok (.iconst (-1), 1) := by decide +kernel
theorem dX11_isNameOrNone_2 : decode cX11_isNameOrNone 2 = .ok (.iconst 4, 1) := by decide +kernel
theorem dX11_isNameOrNone_3 : decode cX11_isNameOrNone 3 = .ok (.invokestatic 92, 3) := by decide +kernel
theorem dX11_isNameOrNone_6 : decode cX11_isNameOrNone 6 = .ok (.ireturn, 1) := by decide +kernel
theorem dX11_within_0 : decode cX11_within 0 = .ok (.iload_n 0, 1) := by decide +kernel
theorem dX11_within_1 : decode cX11_within 1 = .ok (.iload_n 1, 1) := by decide +kernel
theorem dX11_within_2 : decode cX11_within 2 = .ok (.if_icmp .lt 12, 3) := by decide +kernel
theorem dX11_within_5 : decode cX11_within 5 = .ok (.iload_n 0, 1) := by decide +kernel
theorem dX11_within_6 : decode cX11_within 6 = .ok (.iload_n 2, 1) := by decide +kernel
theorem dX11_within_7 : decode cX11_within 7 = .ok (.if_icmp .gt 7, 3) := by decide +kernel
theorem dX11_within_10 : decode cX11_within 10 = .ok (.iconst 1, 1) := by decide +kernel
theorem dX11_within_11 : decode cX11_within 11 = .ok (.goto 4, 3) := by decide +kernel
theorem dX11_within_14 : decode cX11_within 14 = .ok (.iconst 0, 1) := by decide +kernel
theorem dX11_within_15 : decode cX11_within 15 = .ok (.ireturn, 1) := by decide +kernel
theorem dX11_at_0 : decode cX11_at 0 = .ok (.iload_n 1, 1) := by decide +kernel
theorem dX11_at_1 : decode cX11_at 1 = .ok (.ifCond .lt 15, 3) := by decide +kernel
theorem dX11_at_4 : decode cX11_at 4 = .ok (.iload_n 1, 1) := by decide +kernel
theorem dX11_at_5 : decode cX11_at 5 = .ok (.aload_n 0, 1) := by decide +kernel
theorem dX11_at_6 : decode cX11_at 6 = .ok (.arraylength, 1) := by decide +kernel
theorem dX11_at_7 : decode cX11_at 7 = .ok (.if_icmp .ge 9, 3) := by decide +kernel
theorem dX11_at_10 : decode cX11_at 10 = .ok (.aload_n 0, 1) := by decide +kernel
theorem dX11_at_11 : decode cX11_at 11 = .ok (.iload_n 1, 1) := by decide +kernel
theorem dX11_at_12 : decode cX11_at 12 = .ok (.iaload, 1) := by decide +kernel
theorem dX11_at_13 : decode cX11_at 13 = .ok (.goto 4, 3) := by decide +kernel
theorem dX11_at_16 : decode cX11_at 16 = .ok (.iconst 0, 1) := by decide +kernel
theorem dX11_at_17 : decode cX11_at 17 = .ok (.ireturn, 1) := by decide +kernel
theorem dX11_put_0 : decode cX11_put 0 = .ok (.iload_n 1, 1) := by decide +kernel
theorem dX11_put_1 : decode cX11_put 1 = .ok (.ifCond .lt 13, 3) := by decide +kernel
theorem dX11_put_4 : decode cX11_put 4 = .ok (.iload_n 1, 1) := by decide +kernel
theorem dX11_put_5 : decode cX11_put 5 = .ok (.aload_n 0, 1) := by decide +kernel
theorem dX11_put_6 : decode cX11_put 6 = .ok (.arraylength, 1) := by decide +kernel
theorem dX11_put_7 : decode cX11_put 7 = .ok (.if_icmp .ge 7, 3) := by decide +kernel
theorem dX11_put_10 : decode cX11_put 10 = .ok (.aload_n 0, 1) := by decide +kernel
theorem dX11_put_11 : decode cX11_put 11 = .ok (.iload_n 1, 1) := by decide +kernel
theorem dX11_put_12 : decode cX11_put 12 = .ok (.iload_n 2, 1) := by decide +kernel
theorem dX11_put_13 : decode cX11_put 13 = .ok (.iastore, 1) := by decide +kernel
theorem dX11_put_14 : decode cX11_put 14 = .ok (.return_, 1) := by decide +kernel
theorem dX11_copyRow_0 : decode cX11_copyRow 0 = .ok (.iconst 0, 1) := by decide +kernel
theorem dX11_copyRow_1 : decode cX11_copyRow 1 = .ok (.istore_n 2, 1) := by decide +kernel
theorem dX11_copyRow_2 : decode cX11_copyRow 2 = .ok (.iload_n 2, 1) := by decide +kernel
theorem dX11_copyRow_3 : decode cX11_copyRow 3 = .ok (.aload_n 0, 1) := by decide +kernel
theorem dX11_copyRow_4 : decode cX11_copyRow 4 = .ok (.arraylength, 1) := by decide +kernel
theorem dX11_copyRow_5 : decode cX11_copyRow 5 = .ok (.if_icmp .ge 21, 3) := by decide +kernel
theorem dX11_copyRow_8 : decode cX11_copyRow 8 = .ok (.iload_n 2, 1) := by decide +kernel
theorem dX11_copyRow_9 : decode cX11_copyRow 9 = .ok (.aload_n 1, 1) := by decide +kernel
theorem dX11_copyRow_10 : decode cX11_copyRow 10 = .ok (.arraylength, 1) := by decide +kernel
theorem dX11_copyRow_11 : decode cX11_copyRow 11 = .ok (.if_icmp .ge 15, 3) := by decide +kernel
theorem dX11_copyRow_14 : decode cX11_copyRow 14 = .ok (.aload_n 1, 1) := by decide +kernel
theorem dX11_copyRow_15 : decode cX11_copyRow 15 = .ok (.iload_n 2, 1) := by decide +kernel
theorem dX11_copyRow_16 : decode cX11_copyRow 16 = .ok (.aload_n 0, 1) := by decide +kernel
theorem dX11_copyRow_17 : decode cX11_copyRow 17 = .ok (.iload_n 2, 1) := by decide +kernel
theorem dX11_copyRow_18 : decode cX11_copyRow 18 = .ok (.iaload, 1) := by decide +kernel
theorem dX11_copyRow_19 : decode cX11_copyRow 19 = .ok (.iastore, 1) := by decide +kernel
theorem dX11_copyRow_20 : decode cX11_copyRow 20 = .ok (.iinc 2 1, 3) := by decide +kernel
theorem dX11_copyRow_23 : decode cX11_copyRow 23 = .ok (.goto (-21), 3) := by decide +kernel
theorem dX11_copyRow_26 : decode cX11_copyRow 26 = .ok (.return_, 1) := by decide +kernel
theorem dX11_power_0 : decode cX11_power 0 = .ok (.iconst 1, 1) := by decide +kernel
theorem dX11_power_1 : decode cX11_power 1 = .ok (.istore_n 2, 1) := by decide +kernel
theorem dX11_power_2 : decode cX11_power 2 = .ok (.iconst 0, 1) := by decide +kernel
theorem dX11_power_3 : decode cX11_power 3 = .ok (.istore_n 3, 1) := by decide +kernel
theorem dX11_power_4 : decode cX11_power 4 = .ok (.iload_n 3, 1) := by decide +kernel
theorem dX11_power_5 : decode cX11_power 5 = .ok (.iload_n 1, 1) := by decide +kernel
theorem dX11_power_6 : decode cX11_power 6 = .ok (.if_icmp .ge 13, 3) := by decide +kernel
theorem dX11_power_9 : decode cX11_power 9 = .ok (.iload_n 2, 1) := by decide +kernel
theorem dX11_power_10 : decode cX11_power 10 = .ok (.iload_n 0, 1) := by decide +kernel
theorem dX11_power_11 : decode cX11_power 11 = .ok (.imul, 1) := by decide +kernel
theorem dX11_power_12 : decode cX11_power 12 = .ok (.istore_n 2, 1) := by decide +kernel
theorem dX11_power_13 : decode cX11_power 13 = .ok (.iinc 3 1, 3) := by decide +kernel
theorem dX11_power_16 : decode cX11_power 16 = .ok (.goto (-12), 3) := by decide +kernel
theorem dX11_power_19 : decode cX11_power 19 = .ok (.iload_n 2, 1) := by decide +kernel
theorem dX11_power_20 : decode cX11_power 20 = .ok (.ireturn, 1) := by decide +kernel
theorem dX11_choose_0 : decode cX11_choose 0 = .ok (.iconst 1, 1) := by decide +kernel
theorem dX11_choose_1 : decode cX11_choose 1 = .ok (.istore_n 2, 1) := by decide +kernel
theorem dX11_choose_2 : decode cX11_choose 2 = .ok (.iconst 1, 1) := by decide +kernel
theorem dX11_choose_3 : decode cX11_choose 3 = .ok (.istore_n 3, 1) := by decide +kernel
theorem dX11_choose_4 : decode cX11_choose 4 = .ok (.iload_n 3, 1) := by decide +kernel
theorem dX11_choose_5 : decode cX11_choose 5 = .ok (.iload_n 1, 1) := by decide +kernel
theorem dX11_choose_6 : decode cX11_choose 6 = .ok (.if_icmp .gt 19, 3) := by decide +kernel
theorem dX11_choose_9 : decode cX11_choose 9 = .ok (.iload_n 2, 1) := by decide +kernel
theorem dX11_choose_10 : decode cX11_choose 10 = .ok (.iload_n 0, 1) := by decide +kernel
theorem dX11_choose_11 : decode cX11_choose 11 = .ok (.iload_n 1, 1) := by decide +kernel
theorem dX11_choose_12 : decode cX11_choose 12 = .ok (.isub, 1) := by decide +kernel
theorem dX11_choose_13 : decode cX11_choose 13 = .ok (.iload_n 3, 1) := by decide +kernel
theorem dX11_choose_14 : decode cX11_choose 14 = .ok (.iadd, 1) := by decide +kernel
theorem dX11_choose_15 : decode cX11_choose 15 = .ok (.imul, 1) := by decide +kernel
theorem dX11_choose_16 : decode cX11_choose 16 = .ok (.iload_n 3, 1) := by decide +kernel
theorem dX11_choose_17 : decode cX11_choose 17 = .ok (.idiv, 1) := by decide +kernel
theorem dX11_choose_18 : decode cX11_choose 18 = .ok (.istore_n 2, 1) := by decide +kernel
theorem dX11_choose_19 : decode cX11_choose 19 = .ok (.iinc 3 1, 3) := by decide +kernel
theorem dX11_choose_22 : decode cX11_choose 22 = .ok (.goto (-18), 3) := by decide +kernel
theorem dX11_choose_25 : decode cX11_choose 25 = .ok (.iload_n 2, 1) := by decide +kernel
theorem dX11_choose_26 : decode cX11_choose 26 = .ok (.ireturn, 1) := by decide +kernel
theorem dX11_commonDivisor_0 : decode cX11_commonDivisor 0 = .ok (.iconst 0, 1) := by decide +kernel
theorem dX11_commonDivisor_1 : decode cX11_commonDivisor 1 = .ok (.istore_n 2, 1) := by decide +kernel
theorem dX11_commonDivisor_2 : decode cX11_commonDivisor 2 = .ok (.iload_n 2, 1) := by decide +kernel
theorem dX11_commonDivisor_3 : decode cX11_commonDivisor 3 = .ok (.bipush 64, 2) := by decide +kernel
theorem dX11_commonDivisor_5 : decode cX11_commonDivisor 5 = .ok (.if_icmp .ge 21, 3) := by decide +kernel
theorem dX11_commonDivisor_8 : decode cX11_commonDivisor 8 = .ok (.iload_n 1, 1) := by decide +kernel
theorem dX11_commonDivisor_9 : decode cX11_commonDivisor 9 = .ok (.ifCond .eq 17, 3) := by decide +kernel
theorem dX11_commonDivisor_12 : decode cX11_commonDivisor 12 = .ok (.iload_n 0, 1) := by decide +kernel
theorem dX11_commonDivisor_13 : decode cX11_commonDivisor 13 = .ok (.iload_n 1, 1) := by decide +kernel
theorem dX11_commonDivisor_14 : decode cX11_commonDivisor 14 = .ok (.irem, 1) := by decide +kernel
theorem dX11_commonDivisor_15 : decode cX11_commonDivisor 15 = .ok (.istore_n 3, 1) := by decide +kernel
theorem dX11_commonDivisor_16 : decode cX11_commonDivisor 16 = .ok (.iload_n 1, 1) := by decide +kernel
theorem dX11_commonDivisor_17 : decode cX11_commonDivisor 17 = .ok (.istore_n 0, 1) := by decide +kernel
theorem dX11_commonDivisor_18 : decode cX11_commonDivisor 18 = .ok (.iload_n 3, 1) := by decide +kernel
theorem dX11_commonDivisor_19 : decode cX11_commonDivisor 19 = .ok (.istore_n 1, 1) := by decide +kernel
theorem dX11_commonDivisor_20 : decode cX11_commonDivisor 20 = .ok (.iinc 2 1, 3) := by decide +kernel
theorem dX11_commonDivisor_23 : decode cX11_commonDivisor 23 = .ok (.goto (-21), 3) := by decide +kernel
theorem dX11_commonDivisor_26 : decode cX11_commonDivisor 26 = .ok (.iload_n 0, 1) := by decide +kernel
theorem dX11_commonDivisor_27 : decode cX11_commonDivisor 27 = .ok (.ireturn, 1) := by decide +kernel
theorem dX12_init_0 : decode cX12_init 0 = .ok (.aload_n 0, 1) := by decide +kernel
theorem dX12_init_1 : decode cX12_init 1 = .ok (.invokespecial 1, 3) := by decide +kernel
theorem dX12_init_4 : decode cX12_init 4 = .ok (.aload_n 0, 1) := by decide +kernel
theorem dX12_init_5 : decode cX12_init 5 = .ok (.sipush 1680, 3) := by decide +kernel
theorem dX12_init_8 : decode cX12_init 8 = .ok (.newarray .int, 2) := by decide +kernel
theorem dX12_init_10 : decode cX12_init 10 = .ok (.putfield 7, 3) := by decide +kernel
theorem dX12_init_13 : decode cX12_init 13 = .ok (.aload_n 0, 1) := by decide +kernel
theorem dX12_init_14 : decode cX12_init 14 = .ok (.iconst 2, 1) := by decide +kernel
theorem dX12_init_15 : decode cX12_init 15 = .ok (.newarray .boolean, 2) := by decide +kernel
theorem dX12_init_17 : decode cX12_init 17 = .ok (.putfield 13, 3) := by decide +kernel
theorem dX12_init_20 : decode cX12_init 20 = .ok (.aload_n 0, 1) := by decide +kernel
theorem dX12_init_21 : decode cX12_init 21 = .ok (.iconst 4, 1) := by decide +kernel
theorem dX12_init_22 : decode cX12_init 22 = .ok (.newarray .int, 2) := by decide +kernel
theorem dX12_init_24 : decode cX12_init 24 = .ok (.putfield 17, 3) := by decide +kernel
theorem dX12_init_27 : decode cX12_init 27 = .ok (.aload_n 0, 1) := by decide +kernel
theorem dX12_init_28 : decode cX12_init 28 = .ok (.iconst 4, 1) := by decide +kernel
theorem dX12_init_29 : decode cX12_init 29 = .ok (.newarray .int, 2) := by decide +kernel
theorem dX12_init_31 : decode cX12_init 31 = .ok (.putfield 20, 3) := by decide +kernel
theorem dX12_init_34 : decode cX12_init 34 = .ok (.aload_n 0, 1) := by decide +kernel
theorem dX12_init_35 : decode cX12_init 35 = .ok (.bipush 20, 2) := by decide +kernel
theorem dX12_init_37 : decode cX12_init 37 = .ok (.newarray .int, 2) := by decide +kernel
theorem dX12_init_39 : decode cX12_init 39 = .ok (.putfield 23, 3) := by decide +kernel
theorem dX12_init_42 : decode cX12_init 42 = .ok (.aload_n 0, 1) := by decide +kernel
theorem dX12_init_43 : decode cX12_init 43 = .ok (.iconst 1, 1) := by decide +kernel
theorem dX12_init_44 : decode cX12_init 44 = .ok (.putfield 26, 3) := by decide +kernel
theorem dX12_init_47 : decode cX12_init 47 = .ok (.aload_n 0, 1) := by decide +kernel
theorem dX12_init_48 : decode cX12_init 48 = .ok (.bipush 30, 2) := by decide +kernel
theorem dX12_init_50 : decode cX12_init 50 = .ok (.newarray .int, 2) := by decide +kernel
theorem dX12_init_52 : decode cX12_init 52 = .ok (.putfield 30, 3) := by decide +kernel
theorem dX12_init_55 : decode cX12_init 55 = .ok (.aload_n 0, 1) := by decide +kernel
theorem dX12_init_56 : decode cX12_init 56 = .ok (.iconst 5, 1) := by decide +kernel
theorem dX12_init_57 : decode cX12_init 57 = .ok (.newarray .int, 2) := by decide +kernel
theorem dX12_init_59 : decode cX12_init 59 = .ok (.putfield 33, 3) := by decide +kernel
theorem dX12_init_62 : decode cX12_init 62 = .ok (.aload_n 0, 1) := by decide +kernel
theorem dX12_init_63 : decode cX12_init 63 = .ok (.iconst 5, 1) := by decide +kernel
theorem dX12_init_64 : decode cX12_init 64 = .ok (.newarray .int, 2) := by decide +kernel
theorem dX12_init_66 : decode cX12_init 66 = .ok (.putfield 36, 3) := by decide +kernel
theorem dX12_init_69 : decode cX12_init 69 = .ok (.aload_n 0, 1) := by decide +kernel
theorem dX12_init_70 : decode cX12_init 70 = .ok (.bipush 8, 2) := by decide +kernel
theorem dX12_init_72 : decode cX12_init 72 = .ok (.newarray .int, 2) := by decide +kernel
theorem dX12_init_74 : decode cX12_init 74 = .ok (.putfield 39, 3) := by decide +kernel
theorem dX12_init_77 : decode cX12_init 77 = .ok (.aload_n 0, 1) := by decide +kernel
theorem dX12_init_78 : decode cX12_init 78 = .ok (.sipush 200, 3) := by decide +kernel
theorem dX12_init_81 : decode cX12_init 81 = .ok (.newarray .int, 2) := by decide +kernel
theorem dX12_init_83 : decode cX12_init 83 = .ok (.putfield 42, 3) := by decide +kernel
theorem dX12_init_86 : decode cX12_init 86 = .ok (.aload_n 0, 1) := by decide +kernel
theorem dX12_init_87 : decode cX12_init 87 = .ok (.iconst 4, 1) := by decide +kernel
theorem dX12_init_88 : decode cX12_init 88 = .ok (.newarray .int, 2) := by decide +kernel
theorem dX12_init_90 : decode cX12_init 90 = .ok (.putfield 45, 3) := by decide +kernel
theorem dX12_init_93 : decode cX12_init 93 = .ok (.aload_n 0, 1) := by decide +kernel
theorem dX12_init_94 : decode cX12_init 94 = .ok (.iconst 4, 1) := by decide +kernel
theorem dX12_init_95 : decode cX12_init 95 = .ok (.newarray .int, 2) := by decide +kernel
theorem dX12_init_97 : decode cX12_init 97 = .ok (.putfield 48, 3) := by decide +kernel
theorem dX12_init_100 : decode cX12_init 100 = .ok (.aload_n 0, 1) := by decide +kernel
theorem dX12_init_101 : decode cX12_init 101 = .ok (.bipush 20, 2) := by decide +kernel
theorem dX12_init_103 : decode cX12_init 103 = .ok (.newarray .int, 2) := by decide +kernel
theorem dX12_init_105 : decode cX12_init 105 = .ok (.putfield 51, 3) := by decide +kernel
theorem dX12_init_108 : decode cX12_init 108 = .ok (.aload_n 0, 1) := by decide +kernel
theorem dX12_init_109 : decode cX12_init 109 = .ok (.bipush 30, 2) := by decide +kernel
theorem dX12_init_111 : decode cX12_init 111 = .ok (.newarray .int, 2) := by decide +kernel
theorem dX12_init_113 : decode cX12_init 113 = .ok (.putfield 54, 3) := by decide +kernel
theorem dX12_init_116 : decode cX12_init 116 = .ok (.aload_n 0, 1) := by decide +kernel
theorem dX12_init_117 : decode cX12_init 117 = .ok (.iconst 5, 1) := by decide +kernel
theorem dX12_init_118 : decode cX12_init 118 = .ok (.newarray .int, 2) := by decide +kernel
theorem dX12_init_120 : decode cX12_init 120 = .ok (.putfield 57, 3) := by decide +kernel
theorem dX12_init_123 : decode cX12_init 123 = .ok (.aload_n 0, 1) := by decide +kernel
theorem dX12_init_124 : decode cX12_init 124 = .ok (.iconst 5, 1) := by decide +kernel
theorem dX12_init_125 : decode cX12_init 125 = .ok (.newarray .int, 2) := by decide +kernel
theorem dX12_init_127 : decode cX12_init 127 = .ok (.putfield 60, 3) := by decide +kernel
theorem dX12_init_130 : decode cX12_init 130 = .ok (.aload_n 0, 1) := by decide +kernel
theorem dX12_init_131 : decode cX12_init 131 = .ok (.iconst 1, 1) := by decide +kernel
theorem dX12_init_132 : decode cX12_init 132 = .ok (.putfield 63, 3) := by decide +kernel
theorem dX12_init_135 : decode cX12_init 135 = .ok (.return_, 1) := by decide +kernel
theorem dX12_in_0 : decode cX12_in 0 = .ok (.lload_n 0, 1) := by decide +kernel
theorem dX12_in_1 : decode cX12_in 1 = .ok (.lload_n 2, 1) := by decide +kernel
theorem dX12_in_2 : decode cX12_in 2 = .ok (.lcmp, 1) := by decide +kernel
theorem dX12_in_3 : decode cX12_in 3 = .ok (.ifCond .lt 14, 3) := by decide +kernel
theorem dX12_in_6 : decode cX12_in 6 = .ok (.lload_n 0, 1) := by decide +kernel
theorem dX12_in_7 : decode cX12_in 7 = .ok (.lload 4, 2) := by decide +kernel
theorem dX12_in_9 : decode cX12_in 9 = .ok (.lcmp, 1) := by decide +kernel
theorem dX12_in_10 : decode cX12_in 10 = .ok (.ifCond .gt 7, 3) := by decide +kernel
theorem dX12_in_13 : decode cX12_in 13 = .ok (.iconst 1, 1) := by decide +kernel
theorem dX12_in_14 : decode cX12_in 14 = .ok (.goto 4, 3) := by decide +kernel
theorem dX12_in_17 : decode cX12_in 17 = .ok (.iconst 0, 1) := by decide +kernel
theorem dX12_in_18 : decode cX12_in 18 = .ok (.ireturn, 1) := by decide +kernel
theorem dX12_has_0 : decode cX12_has 0 = .ok (.iload_n 0, 1) := by decide +kernel
theorem dX12_has_1 : decode cX12_has 1 = .ok (.iload_n 1, 1) := by decide +kernel
theorem dX12_has_2 : decode cX12_has 2 = .ok (.ishr, 1) := by decide +kernel
theorem dX12_has_3 : decode cX12_has 3 = .ok (.iconst 1, 1) := by decide +kernel
theorem dX12_has_4 : decode cX12_has 4 = .ok (.iand, 1) := by decide +kernel
theorem dX12_has_5 : decode cX12_has 5 = .ok (.iconst 1, 1) := by decide +kernel
theorem dX12_has_6 : decode cX12_has 6 = .ok (.if_icmp .ne 7, 3) := by decide +kernel
theorem dX12_has_9 : decode cX12_has 9 = .ok (.iconst 1, 1) := by decide +kernel
theorem dX12_has_10 : decode cX12_has 10 = .ok (.goto 4, 3) := by decide +kernel
theorem dX12_has_13 : decode cX12_has 13 = .ok (.iconst 0, 1) := by decide +kernel
theorem dX12_has_14 : decode cX12_has 14 = .ok (.ireturn, 1) := by decide +kernel
theorem dX12_copy_0 : decode cX12_copy 0 = .ok (.iconst 0, 1) := by decide +kernel
theorem dX12_copy_1 : decode cX12_copy 1 = .ok (.istore_n 3, 1) := by decide +kernel
theorem dX12_copy_2 : decode cX12_copy 2 = .ok (.iload_n 3, 1) := by decide +kernel
theorem dX12_copy_3 : decode cX12_copy 3 = .ok (.bipush 120, 2) := by decide +kernel
theorem dX12_copy_5 : decode cX12_copy 5 = .ok (.if_icmp .ge 25, 3) := by decide +kernel
theorem dX12_copy_8 : decode cX12_copy 8 = .ok (.aload_n 0, 1) := by decide +kernel
theorem dX12_copy_9 : decode cX12_copy 9 = .ok (.getfield 7, 3) := by decide +kernel
theorem dX12_copy_12 : decode cX12_copy 12 = .ok (.iload_n 2, 1) := by decide +kernel
theorem dX12_copy_13 : decode cX12_copy 13 = .ok (.iload_n 3, 1) := by decide +kernel
theorem dX12_copy_14 : decode cX12_copy 14 = .ok (.iadd, 1) := by decide +kernel
theorem dX12_copy_15 : decode cX12_copy 15 = .ok (.aload_n 0, 1) := by decide +kernel
theorem dX12_copy_16 : decode cX12_copy 16 = .ok (.getfield 7, 3) := by decide +kernel
theorem dX12_copy_19 : decode cX12_copy 19 = .ok (.iload_n 1, 1) := by decide +kernel
theorem dX12_copy_20 : decode cX12_copy 20 = .ok (.iload_n 3, 1) := by decide +kernel
theorem dX12_copy_21 : decode cX12_copy 21 = .ok (.iadd, 1) := by decide +kernel
theorem dX12_copy_22 : decode cX12_copy 22 = .ok (.iaload, 1) := by decide +kernel
theorem dX12_copy_23 : decode cX12_copy 23 = .ok (.iastore, 1) := by decide +kernel
theorem dX12_copy_24 : decode cX12_copy 24 = .ok (.iinc 3 1, 3) := by decide +kernel
theorem dX12_copy_27 : decode cX12_copy 27 = .ok (.goto (-25), 3) := by decide +kernel
theorem dX12_copy_30 : decode cX12_copy 30 = .ok (.return_, 1) := by decide +kernel
set_option maxRecDepth 100000 in
theorem ggX12_type_X12_in : GoodIn wsX12_type wsX12_in := goodIn_r _ [7] rfl (by decide +kernel)
set_option maxRecDepth 100000 in
theorem gX12_type_X12_in : GoodIn wsX12_type (va_wsS RX12 68 yX12_in wsX12_in) := goodIn_app (goodIn_r ([.methodLink RX12 68 yX12_in, .static yX12_in, .initialized RX12] : List Cond) [4, 5, 6] rfl (by decide +kernel)) ggX12_type_X12_in
theorem dX12_type_0 : decode cX12_type 0 = .ok (.iload_n 1, 1) := by decide +kernel
theorem dX12_type_1 : decode cX12_type 1 = .ok (.i2l, 1) := by decide +kernel
theorem dX12_type_2 : decode cX12_type 2 = .ok (.lconst 0, 1) := by decide +kernel
theorem dX12_type_3 : decode cX12_type 3 = .ok (.ldc2_w 66, 3) := by decide +kernel
theorem dX12_type_6 : decode cX12_type 6 = .ok (.invokestatic 68, 3) := by decide +kernel
theorem dX12_type_9 : decode cX12_type 9 = .ok (.ifCond .ne 5, 3) := by decide +kernel
theorem dX12_type_12 : decode cX12_type 12 = .ok (.iconst (-1), 1) := by decide +kernel
theorem dX12_type_13 : decode cX12_type 13 = .ok (.ireturn, 1) := by decide +kernel
theorem dX12_type_14 : decode cX12_type 14 = .ok (.aload_n 0, 1) := by decide +kernel
theorem dX12_type_15 : decode cX12_type 15 = .ok (.getfield 72, 3) := by decide +kernel
theorem dX12_type_18 : decode cX12_type 18 = .ok (.sipush 200, 3) := by decide +kernel
theorem dX12_type_21 : decode cX12_type 21 = .ok (.if_icmp .ne 6, 3) := by decide +kernel
theorem dX12_type_24 : decode cX12_type 24 = .ok (.bipush (-3), 2) := by decide +kernel
theorem dX12_type_26 : decode cX12_type 26 = .ok (.ireturn, 1) := by decide +kernel
theorem dX12_type_27 : decode cX12_type 27 = .ok (.aload_n 0, 1) := by decide +kernel
theorem dX12_type_28 : decode cX12_type 28 = .ok (.getfield 42, 3) := by decide +kernel
theorem dX12_type_31 : decode cX12_type 31 = .ok (.aload_n 0, 1) := by decide +kernel
theorem dX12_type_32 : decode cX12_type 32 = .ok (.getfield 72, 3) := by decide +kernel
theorem dX12_type_35 : decode cX12_type 35 = .ok (.iload_n 1, 1) := by decide +kernel
theorem dX12_type_36 : decode cX12_type 36 = .ok (.iastore, 1) := by decide +kernel
theorem dX12_type_37 : decode cX12_type 37 = .ok (.aload_n 0, 1) := by decide +kernel
theorem dX12_type_38 : decode cX12_type 38 = .ok (.dup, 1) := by decide +kernel
theorem dX12_type_39 : decode cX12_type 39 = .ok (.getfield 72, 3) := by decide +kernel
theorem dX12_type_42 : decode cX12_type 42 = .ok (.iconst 1, 1) := by decide +kernel
theorem dX12_type_43 : decode cX12_type 43 = .ok (.iadd, 1) := by decide +kernel
theorem dX12_type_44 : decode cX12_type 44 = .ok (.putfield 72, 3) := by decide +kernel
theorem dX12_type_47 : decode cX12_type 47 = .ok (.aload_n 0, 1) := by decide +kernel
theorem dX12_type_48 : decode cX12_type 48 = .ok (.getfield 72, 3) := by decide +kernel
theorem dX12_type_51 : decode cX12_type 51 = .ok (.ireturn, 1) := by decide +kernel
theorem dX12_clear_0 : decode cX12_clear 0 = .ok (.aload_n 0, 1) := by decide +kernel
theorem dX12_clear_1 : decode cX12_clear 1 = .ok (.getfield 72, 3) := by decide +kernel
theorem dX12_clear_4 : decode cX12_clear 4 = .ok (.istore_n 1, 1) := by decide +kernel
theorem dX12_clear_5 : decode cX12_clear 5 = .ok (.aload_n 0, 1) := by decide +kernel
theorem dX12_clear_6 : decode cX12_clear 6 = .ok (.iconst 0, 1) := by decide +kernel
theorem dX12_clear_7 : decode cX12_clear 7 = .ok (.putfield 72, 3) := by decide +kernel
theorem dX12_clear_10 : decode cX12_clear 10 = .ok (.iload_n 1, 1) := by decide +kernel
theorem dX12_clear_11 : decode cX12_clear 11 = .ok (.ireturn, 1) := by decide +kernel
theorem dX12_letterAt_0 : decode cX12_letterAt 0 = .ok (.iload_n 1, 1) := by decide +kernel
theorem dX12_letterAt_1 : decode cX12_letterAt 1 = .ok (.aload_n 0, 1) := by decide +kernel
theorem dX12_letterAt_2 : decode cX12_letterAt 2 = .ok (.getfield 72, 3) := by decide +kernel
theorem dX12_letterAt_5 : decode cX12_letterAt 5 = .ok (.if_icmp .ge 12, 3) := by decide +kernel
theorem dX12_letterAt_8 : decode cX12_letterAt 8 = .ok (.aload_n 0, 1) := by decide +kernel
theorem dX12_letterAt_9 : decode cX12_letterAt 9 = .ok (.getfield 42, 3) := by decide +kernel
theorem dX12_letterAt_12 : decode cX12_letterAt 12 = .ok (.iload_n 1, 1) := by decide +kernel
theorem dX12_letterAt_13 : decode cX12_letterAt 13 = .ok (.iaload, 1) := by decide +kernel
theorem dX12_letterAt_14 : decode cX12_letterAt 14 = .ok (.goto 4, 3) := by decide +kernel
theorem dX12_letterAt_17 : decode cX12_letterAt 17 = .ok (.iconst (-1), 1) := by decide +kernel
theorem dX12_letterAt_18 : decode cX12_letterAt 18 = .ok (.ireturn, 1) := by decide +kernel
set_option maxRecDepth 100000 in
theorem ggX12_blanks_X12_letterAt : GoodIn wsX12_blanks wsX12_letterAt := goodIn_r _ [7, 8, 9, 10, 11, 12, 13, 14, 15, 16, 17, 18, 19, 20, 21, 22, 23, 24, 25, 26, 27, 28, 29, 30, 31, 32, 33, 34, 35, 36, 37, 38, 39, 40, 41, 42, 43, 44] rfl (by decide +kernel)
set_option maxRecDepth 100000 in
theorem gX12_blanks_X12_letterAt : GoodIn wsX12_blanks (wsV RX12 78 RX12 yX12_letterAt wsX12_letterAt) := goodIn_app (goodIn_r ([.methodLink RX12 78 yX12_letterAt, .instanceMethod yX12_letterAt, .selects RX12 yX12_letterAt yX12_letterAt, .initialized RX12] : List Cond) [3, 4, 5, 6] rfl (by decide +kernel)) ggX12_blanks_X12_letterAt
theorem dX12_blanks_0 : decode cX12_blanks 0 = .ok (.aload_n 0, 1) := by decide +kernel
theorem dX12_blanks_1 : decode cX12_blanks 1 = .ok (.aload_n 0, 1) := by decide +kernel
theorem dX12_blanks_2 : decode cX12_blanks 2 = .ok (.getfield 75, 3) := by decide +kernel
theorem dX12_blanks_5 : decode cX12_blanks 5 = .ok (.invokevirtual 78, 3) := by decide +kernel
theorem dX12_blanks_8 : decode cX12_blanks 8 = .ok (.bipush 32, 2) := by decide +kernel
theorem dX12_blanks_10 : decode cX12_blanks 10 = .ok (.if_icmp .ne 16, 3) := by decide +kernel
theorem dX12_blanks_13 : decode cX12_blanks 13 = .ok (.aload_n 0, 1) := by decide +kernel
theorem dX12_blanks_14 : decode cX12_blanks 14 = .ok (.dup, 1) := by decide +kernel
theorem dX12_blanks_15 : decode cX12_blanks 15 = .ok (.getfield 75, 3) := by decide +kernel
theorem dX12_blanks_18 : decode cX12_blanks 18 = .ok (.iconst 1, 1) := by decide +kernel
theorem dX12_blanks_19 : decode cX12_blanks 19 = .ok (.iadd, 1) := by decide +kernel
theorem dX12_blanks_20 : decode cX12_blanks 20 = .ok (.putfield 75, 3) := by decide +kernel
theorem dX12_blanks_23 : decode cX12_blanks 23 = .ok (.goto (-23), 3) := by decide +kernel
theorem dX12_blanks_26 : decode cX12_blanks 26 = .ok (.aload_n 0, 1) := by decide +kernel
theorem dX12_blanks_27 : decode cX12_blanks 27 = .ok (.aload_n 0, 1) := by decide +kernel
theorem dX12_blanks_28 : decode cX12_blanks 28 = .ok (.getfield 75, 3) := by decide +kernel
theorem dX12_blanks_31 : decode cX12_blanks 31 = .ok (.putfield 82, 3) := by decide +kernel
theorem dX12_blanks_34 : decode cX12_blanks 34 = .ok (.return_, 1) := by decide +kernel
set_option maxRecDepth 100000 in
theorem ggX12_takesNumber_X12_blanks : GoodIn wsX12_takesNumber wsX12_blanks := goodIn_r _ [10, 2, 5, 11, 12, 13, 9, 14, 15, 16, 20, 21, 22, 23, 24, 25, 26, 27, 28, 29, 30, 31, 32, 33, 34, 35, 36, 37, 38, 39, 40, 41, 42, 43, 44, 45, 46, 47, 48, 49, 50, 51, 52, 53, 54] rfl (by decide +kernel)
set_option maxRecDepth 100000 in
theorem gX12_takesNumber_X12_blanks : GoodIn wsX12_takesNumber (wsV RX12 85 RX12 yX12_blanks wsX12_blanks) := goodIn_app (goodIn_r ([.methodLink RX12 85 yX12_blanks, .instanceMethod yX12_blanks, .selects RX12 yX12_blanks yX12_blanks, .initialized RX12] : List Cond) [6, 7, 8, 9] rfl (by decide +kernel)) ggX12_takesNumber_X12_blanks
set_option maxRecDepth 100000 in
theorem ggX12_takesNumber_X12_letterAt : GoodIn wsX12_takesNumber wsX12_letterAt := goodIn_r _ [14, 15, 16, 20, 21, 22, 23, 24, 25, 26, 27, 28, 29, 30, 31, 32, 33, 34, 35, 36, 37, 38, 39, 40, 41, 42, 43, 44, 45, 46, 47, 48, 49, 50, 51, 52, 53, 54] rfl (by decide +kernel)
set_option maxRecDepth 100000 in
theorem gX12_takesNumber_X12_letterAt : GoodIn wsX12_takesNumber (wsV RX12 78 RX12 yX12_letterAt wsX12_letterAt) := goodIn_app (goodIn_r ([.methodLink RX12 78 yX12_letterAt, .instanceMethod yX12_letterAt, .selects RX12 yX12_letterAt yX12_letterAt, .initialized RX12] : List Cond) [11, 12, 13, 9] rfl (by decide +kernel)) ggX12_takesNumber_X12_letterAt
set_option maxRecDepth 100000 in
theorem ggX12_takesNumber_X12_in : GoodIn wsX12_takesNumber wsX12_in := goodIn_r _ [19] rfl (by decide +kernel)
set_option maxRecDepth 100000 in
theorem gX12_takesNumber_X12_in : GoodIn wsX12_takesNumber (va_wsS RX12 68 yX12_in wsX12_in) := goodIn_app (goodIn_r ([.methodLink RX12 68 yX12_in, .static yX12_in, .initialized RX12] : List Cond) [17, 18, 9] rfl (by decide +kernel)) ggX12_takesNumber_X12_in
theorem dX12_takesNumber_0 : decode cX12_takesNumber 0 = .ok (.aload_n 0, 1) := by decide +kernel
theorem dX12_takesNumber_1 : decode cX12_takesNumber 1 = .ok (.invokevirtual 85, 3) := by decide +kernel
theorem dX12_takesNumber_4 : decode cX12_takesNumber 4 = .ok (.aload_n 0, 1) := by decide +kernel
theorem dX12_takesNumber_5 : decode cX12_takesNumber 5 = .ok (.iconst 0, 1) := by decide +kernel
theorem dX12_takesNumber_6 : decode cX12_takesNumber 6 = .ok (.putfield 88, 3) := by decide +kernel
theorem dX12_takesNumber_9 : decode cX12_takesNumber 9 = .ok (.aload_n 0, 1) := by decide +kernel
theorem dX12_takesNumber_10 : decode cX12_takesNumber 10 = .ok (.aload_n 0, 1) := by decide +kernel
theorem dX12_takesNumber_11 : decode cX12_takesNumber 11 = .ok (.getfield 75, 3) := by decide +kernel
theorem dX12_takesNumber_14 : decode cX12_takesNumber 14 = .ok (.invokevirtual 78, 3) := by decide +kernel
theorem dX12_takesNumber_17 : decode cX12_takesNumber 17 = .ok (.i2l, 1) := by decide +kernel
theorem dX12_takesNumber_18 : decode cX12_takesNumber 18 = .ok (.ldc2_w 91, 3) := by decide +kernel
theorem dX12_takesNumber_21 : decode cX12_takesNumber 21 = .ok (.ldc2_w 93, 3) := by decide +kernel
theorem dX12_takesNumber_24 : decode cX12_takesNumber 24 = .ok (.invokestatic 68, 3) := by decide +kernel
theorem dX12_takesNumber_27 : decode cX12_takesNumber 27 = .ok (.ifCond .eq 55, 3) := by decide +kernel
theorem dX12_takesNumber_30 : decode cX12_takesNumber 30 = .ok (.aload_n 0, 1) := by decide +kernel
theorem dX12_takesNumber_31 : decode cX12_takesNumber 31 = .ok (.aload_n 0, 1) := by decide +kernel
theorem dX12_takesNumber_32 : decode cX12_takesNumber 32 = .ok (.getfield 88, 3) := by decide +kernel
theorem dX12_takesNumber_35 : decode cX12_takesNumber 35 = .ok (.bipush 99, 2) := by decide +kernel
theorem dX12_takesNumber_37 : decode cX12_takesNumber 37 = .ok (.if_icmp .le 10, 3) := by decide +kernel
theorem dX12_takesNumber_40 : decode cX12_takesNumber 40 = .ok (.aload_n 0, 1) := by decide +kernel
theorem dX12_takesNumber_41 : decode cX12_takesNumber 41 = .ok (.getfield 88, 3) := by decide +kernel
theorem dX12_takesNumber_44 : decode cX12_takesNumber 44 = .ok (.goto 22, 3) := by decide +kernel
theorem dX12_takesNumber_47 : decode cX12_takesNumber 47 = .ok (.bipush 10, 2) := by decide +kernel
theorem dX12_takesNumber_49 : decode cX12_takesNumber 49 = .ok (.aload_n 0, 1) := by decide +kernel
theorem dX12_takesNumber_50 : decode cX12_takesNumber 50 = .ok (.getfield 88, 3) := by decide +kernel
theorem dX12_takesNumber_53 : decode cX12_takesNumber 53 = .ok (.imul, 1) := by decide +kernel
theorem dX12_takesNumber_54 : decode cX12_takesNumber 54 = .ok (.aload_n 0, 1) := by decide +kernel
theorem dX12_takesNumber_55 : decode cX12_takesNumber 55 = .ok (.aload_n 0, 1) := by decide +kernel
theorem dX12_takesNumber_56 : decode cX12_takesNumber 56 = .ok (.getfield 75, 3) := by decide +kernel
theorem dX12_takesNumber_59 : decode cX12_takesNumber 59 = .ok (.invokevirtual 78, 3) := by decide +kernel
theorem dX12_takesNumber_62 : decode cX12_takesNumber 62 = .ok (.iadd, 1) := by decide +kernel
theorem dX12_takesNumber_63 : decode cX12_takesNumber 63 = .ok (.bipush 48, 2) := by decide +kernel
theorem dX12_takesNumber_65 : decode cX12_takesNumber 65 = .ok (.isub, 1) := by decide +kernel
theorem dX12_takesNumber_66 : decode cX12_takesNumber 66 = .ok (.putfield 88, 3) := by decide +kernel
theorem dX12_takesNumber_69 : decode cX12_takesNumber 69 = .ok (.aload_n 0, 1) := by decide +kernel
theorem dX12_takesNumber_70 : decode cX12_takesNumber 70 = .ok (.dup, 1) := by decide +kernel
theorem dX12_takesNumber_71 : decode cX12_takesNumber 71 = .ok (.getfield 75, 3) := by decide +kernel
theorem dX12_takesNumber_74 : decode cX12_takesNumber 74 = .ok (.iconst 1, 1) := by decide +kernel
theorem dX12_takesNumber_75 : decode cX12_takesNumber 75 = .ok (.iadd, 1) := by decide +kernel
theorem dX12_takesNumber_76 : decode cX12_takesNumber 76 = .ok (.putfield 75, 3) := by decide +kernel
theorem dX12_takesNumber_79 : decode cX12_takesNumber 79 = .ok (.goto (-70), 3) := by decide +kernel
theorem dX12_takesNumber_82 : decode cX12_takesNumber 82 = .ok (.aload_n 0, 1) := by decide +kernel
theorem dX12_takesNumber_83 : decode cX12_takesNumber 83 = .ok (.getfield 75, 3) := by decide +kernel
theorem dX12_takesNumber_86 : decode cX12_takesNumber 86 = .ok (.aload_n 0, 1) := by decide +kernel
theorem dX12_takesNumber_87 : decode cX12_takesNumber 87 = .ok (.getfield 82, 3) := by decide +kernel
theorem dX12_takesNumber_90 : decode cX12_takesNumber 90 = .ok (.iconst 1, 1) := by decide +kernel
theorem dX12_takesNumber_91 : decode cX12_takesNumber 91 = .ok (.iadd, 1) := by decide +kernel
theorem dX12_takesNumber_92 : decode cX12_takesNumber 92 = .ok (.if_icmp .eq 27, 3) := by decide +kernel
theorem dX12_takesNumber_95 : decode cX12_takesNumber 95 = .ok (.aload_n 0, 1) := by decide +kernel
theorem dX12_takesNumber_96 : decode cX12_takesNumber 96 = .ok (.getfield 75, 3) := by decide +kernel
theorem dX12_takesNumber_99 : decode cX12_takesNumber 99 = .ok (.aload_n 0, 1) := by decide +kernel
theorem dX12_takesNumber_100 : decode cX12_takesNumber 100 = .ok (.getfield 82, 3) := by decide +kernel
theorem dX12_takesNumber_103 : decode cX12_takesNumber 103 = .ok (.if_icmp .le 20, 3) := by decide +kernel
theorem dX12_takesNumber_106 : decode cX12_takesNumber 106 = .ok (.aload_n 0, 1) := by decide +kernel
theorem dX12_takesNumber_107 : decode cX12_takesNumber 107 = .ok (.aload_n 0, 1) := by decide +kernel
theorem dX12_takesNumber_108 : decode cX12_takesNumber 108 = .ok (.getfield 82, 3) := by decide +kernel
theorem dX12_takesNumber_111 : decode cX12_takesNumber 111 = .ok (.invokevirtual 78, 3) := by decide +kernel
theorem dX12_takesNumber_114 : decode cX12_takesNumber 114 = .ok (.bipush 48, 2) := by decide +kernel
theorem dX12_takesNumber_116 : decode cX12_takesNumber 116 = .ok (.if_icmp .eq 7, 3) := by decide +kernel
theorem dX12_takesNumber_119 : decode cX12_takesNumber 119 = .ok (.iconst 1, 1) := by decide +kernel
theorem dX12_takesNumber_120 : decode cX12_takesNumber 120 = .ok (.goto 4, 3) := by decide +kernel
theorem dX12_takesNumber_123 : decode cX12_takesNumber 123 = .ok (.iconst 0, 1) := by decide +kernel
theorem dX12_takesNumber_124 : decode cX12_takesNumber 124 = .ok (.istore_n 3, 1) := by decide +kernel
theorem dX12_takesNumber_125 : decode cX12_takesNumber 125 = .ok (.iload_n 3, 1) := by decide +kernel
theorem dX12_takesNumber_126 : decode cX12_takesNumber 126 = .ok (.ifCond .eq 31, 3) := by decide +kernel
theorem dX12_takesNumber_129 : decode cX12_takesNumber 129 = .ok (.aload_n 0, 1) := by decide +kernel
theorem dX12_takesNumber_130 : decode cX12_takesNumber 130 = .ok (.getfield 88, 3) := by decide +kernel
theorem dX12_takesNumber_133 : decode cX12_takesNumber 133 = .ok (.bipush 99, 2) := by decide +kernel
theorem dX12_takesNumber_135 : decode cX12_takesNumber 135 = .ok (.if_icmp .gt 22, 3) := by decide +kernel
theorem dX12_takesNumber_138 : decode cX12_takesNumber 138 = .ok (.aload_n 0, 1) := by decide +kernel
theorem dX12_takesNumber_139 : decode cX12_takesNumber 139 = .ok (.getfield 88, 3) := by decide +kernel
theorem dX12_takesNumber_142 : decode cX12_takesNumber 142 = .ok (.i2l, 1) := by decide +kernel
theorem dX12_takesNumber_143 : decode cX12_takesNumber 143 = .ok (.iload_n 1, 1) := by decide +kernel
theorem dX12_takesNumber_144 : decode cX12_takesNumber 144 = .ok (.i2l, 1) := by decide +kernel
theorem dX12_takesNumber_145 : decode cX12_takesNumber 145 = .ok (.iload_n 2, 1) := by decide +kernel
theorem dX12_takesNumber_146 : decode cX12_takesNumber 146 = .ok (.i2l, 1) := by decide +kernel
theorem dX12_takesNumber_147 : decode cX12_takesNumber 147 = .ok (.invokestatic 68, 3) := by decide +kernel
theorem dX12_takesNumber_150 : decode cX12_takesNumber 150 = .ok (.ifCond .eq 7, 3) := by decide +kernel
theorem dX12_takesNumber_153 : decode cX12_takesNumber 153 = .ok (.iconst 1, 1) := by decide +kernel
theorem dX12_takesNumber_154 : decode cX12_takesNumber 154 = .ok (.goto 4, 3) := by decide +kernel
theorem dX12_takesNumber_157 : decode cX12_takesNumber 157 = .ok (.iconst 0, 1) := by decide +kernel
theorem dX12_takesNumber_158 : decode cX12_takesNumber 158 = .ok (.ireturn, 1) := by decide +kernel
set_option maxRecDepth 100000 in
theorem ggX12_takesBidder_X12_takesNumber : GoodIn wsX12_takesBidder wsX12_takesNumber := goodIn_r _ [10, 3, 11, 12, 13, 14, 15, 16, 17, 9, 18, 19, 20, 21, 22, 23, 24, 25, 26, 27, 28, 29, 30, 31, 32, 33, 34, 35, 36, 37, 38, 39, 40, 41, 42, 43, 44, 45, 46, 47, 48, 49, 50, 51, 52, 53, 54, 55, 56, 57, 58, 59, 60, 61, 62] rfl (by decide +kernel)
set_option maxRecDepth 100000 in
theorem gX12_takesBidder_X12_takesNumber : GoodIn wsX12_takesBidder (wsV RX12 98 RX12 yX12_takesNumber wsX12_takesNumber) := goodIn_app (goodIn_r ([.methodLink RX12 98 yX12_takesNumber, .instanceMethod yX12_takesNumber, .selects RX12 yX12_takesNumber yX12_takesNumber, .initialized RX12] : List Cond) [6, 7, 8, 9] rfl (by decide +kernel)) ggX12_takesBidder_X12_takesNumber
theorem dX12_takesBidder_0 : decode cX12_takesBidder 0 = .ok (.aload_n 0, 1) := by decide +kernel
theorem dX12_takesBidder_1 : decode cX12_takesBidder 1 = .ok (.getfield 95, 3) := by decide +kernel
theorem dX12_takesBidder_4 : decode cX12_takesBidder 4 = .ok (.iconst 4, 1) := by decide +kernel
theorem dX12_takesBidder_5 : decode cX12_takesBidder 5 = .ok (.if_icmp .eq 13, 3) := by decide +kernel
theorem dX12_takesBidder_8 : decode cX12_takesBidder 8 = .ok (.aload_n 0, 1) := by decide +kernel
theorem dX12_takesBidder_9 : decode cX12_takesBidder 9 = .ok (.iconst 0, 1) := by decide +kernel
theorem dX12_takesBidder_10 : decode cX12_takesBidder 10 = .ok (.bipush 99, 2) := by decide +kernel
theorem dX12_takesBidder_12 : decode cX12_takesBidder 12 = .ok (.invokevirtual 98, 3) := by decide +kernel
theorem dX12_takesBidder_15 : decode cX12_takesBidder 15 = .ok (.ifCond .ne 5, 3) := by decide +kernel
theorem dX12_takesBidder_18 : decode cX12_takesBidder 18 = .ok (.iconst 0, 1) := by decide +kernel
theorem dX12_takesBidder_19 : decode cX12_takesBidder 19 = .ok (.ireturn, 1) := by decide +kernel
theorem dX12_takesBidder_20 : decode cX12_takesBidder 20 = .ok (.aload_n 0, 1) := by decide +kernel
theorem dX12_takesBidder_21 : decode cX12_takesBidder 21 = .ok (.getfield 45, 3) := by decide +kernel
theorem dX12_takesBidder_24 : decode cX12_takesBidder 24 = .ok (.aload_n 0, 1) := by decide +kernel
theorem dX12_takesBidder_25 : decode cX12_takesBidder 25 = .ok (.getfield 95, 3) := by decide +kernel
theorem dX12_takesBidder_28 : decode cX12_takesBidder 28 = .ok (.aload_n 0, 1) := by decide +kernel
theorem dX12_takesBidder_29 : decode cX12_takesBidder 29 = .ok (.getfield 88, 3) := by decide +kernel
theorem dX12_takesBidder_32 : decode cX12_takesBidder 32 = .ok (.iastore, 1) := by decide +kernel
theorem dX12_takesBidder_33 : decode cX12_takesBidder 33 = .ok (.aload_n 0, 1) := by decide +kernel
theorem dX12_takesBidder_34 : decode cX12_takesBidder 34 = .ok (.iconst 0, 1) := by decide +kernel
theorem dX12_takesBidder_35 : decode cX12_takesBidder 35 = .ok (.bipush 9, 2) := by decide +kernel
theorem dX12_takesBidder_37 : decode cX12_takesBidder 37 = .ok (.invokevirtual 98, 3) := by decide +kernel
theorem dX12_takesBidder_40 : decode cX12_takesBidder 40 = .ok (.ifCond .ne 5, 3) := by decide +kernel
theorem dX12_takesBidder_43 : decode cX12_takesBidder 43 = .ok (.iconst 0, 1) := by decide +kernel
theorem dX12_takesBidder_44 : decode cX12_takesBidder 44 = .ok (.ireturn, 1) := by decide +kernel
theorem dX12_takesBidder_45 : decode cX12_takesBidder 45 = .ok (.aload_n 0, 1) := by decide +kernel
theorem dX12_takesBidder_46 : decode cX12_takesBidder 46 = .ok (.getfield 48, 3) := by decide +kernel
theorem dX12_takesBidder_49 : decode cX12_takesBidder 49 = .ok (.aload_n 0, 1) := by decide +kernel
theorem dX12_takesBidder_50 : decode cX12_takesBidder 50 = .ok (.getfield 95, 3) := by decide +kernel
theorem dX12_takesBidder_53 : decode cX12_takesBidder 53 = .ok (.aload_n 0, 1) := by decide +kernel
theorem dX12_takesBidder_54 : decode cX12_takesBidder 54 = .ok (.getfield 88, 3) := by decide +kernel
theorem dX12_takesBidder_57 : decode cX12_takesBidder 57 = .ok (.iastore, 1) := by decide +kernel
theorem dX12_takesBidder_58 : decode cX12_takesBidder 58 = .ok (.iconst 0, 1) := by decide +kernel
theorem dX12_takesBidder_59 : decode cX12_takesBidder 59 = .ok (.istore_n 1, 1) := by decide +kernel
theorem dX12_takesBidder_60 : decode cX12_takesBidder 60 = .ok (.iload_n 1, 1) := by decide +kernel
theorem dX12_takesBidder_61 : decode cX12_takesBidder 61 = .ok (.iconst 5, 1) := by decide +kernel
theorem dX12_takesBidder_62 : decode cX12_takesBidder 62 = .ok (.if_icmp .ge 38, 3) := by decide +kernel
theorem dX12_takesBidder_65 : decode cX12_takesBidder 65 = .ok (.aload_n 0, 1) := by decide +kernel
theorem dX12_takesBidder_66 : decode cX12_takesBidder 66 = .ok (.iconst 0, 1) := by decide +kernel
theorem dX12_takesBidder_67 : decode cX12_takesBidder 67 = .ok (.bipush 20, 2) := by decide +kernel
theorem dX12_takesBidder_69 : decode cX12_takesBidder 69 = .ok (.invokevirtual 98, 3) := by decide +kernel
theorem dX12_takesBidder_72 : decode cX12_takesBidder 72 = .ok (.ifCond .ne 5, 3) := by decide +kernel
theorem dX12_takesBidder_75 : decode cX12_takesBidder 75 = .ok (.iconst 0, 1) := by decide +kernel
theorem dX12_takesBidder_76 : decode cX12_takesBidder 76 = .ok (.ireturn, 1) := by decide +kernel
theorem dX12_takesBidder_77 : decode cX12_takesBidder 77 = .ok (.aload_n 0, 1) := by decide +kernel
theorem dX12_takesBidder_78 : decode cX12_takesBidder 78 = .ok (.getfield 51, 3) := by decide +kernel
theorem dX12_takesBidder_81 : decode cX12_takesBidder 81 = .ok (.iconst 5, 1) := by decide +kernel
theorem dX12_takesBidder_82 : decode cX12_takesBidder 82 = .ok (.aload_n 0, 1) := by decide +kernel
theorem dX12_takesBidder_83 : decode cX12_takesBidder 83 = .ok (.getfield 95, 3) := by decide +kernel
theorem dX12_takesBidder_86 : decode cX12_takesBidder 86 = .ok (.imul, 1) := by decide +kernel
theorem dX12_takesBidder_87 : decode cX12_takesBidder 87 = .ok (.iload_n 1, 1) := by decide +kernel
theorem dX12_takesBidder_88 : decode cX12_takesBidder 88 = .ok (.iadd, 1) := by decide +kernel
theorem dX12_takesBidder_89 : decode cX12_takesBidder 89 = .ok (.aload_n 0, 1) := by decide +kernel
theorem dX12_takesBidder_90 : decode cX12_takesBidder 90 = .ok (.getfield 88, 3) := by decide +kernel
theorem dX12_takesBidder_93 : decode cX12_takesBidder 93 = .ok (.iastore, 1) := by decide +kernel
theorem dX12_takesBidder_94 : decode cX12_takesBidder 94 = .ok (.iinc 1 1, 3) := by decide +kernel
theorem dX12_takesBidder_97 : decode cX12_takesBidder 97 = .ok (.goto (-37), 3) := by decide +kernel
theorem dX12_takesBidder_100 : decode cX12_takesBidder 100 = .ok (.aload_n 0, 1) := by decide +kernel
theorem dX12_takesBidder_101 : decode cX12_takesBidder 101 = .ok (.dup, 1) := by decide +kernel
theorem dX12_takesBidder_102 : decode cX12_takesBidder 102 = .ok (.getfield 95, 3) := by decide +kernel
theorem dX12_takesBidder_105 : decode cX12_takesBidder 105 = .ok (.iconst 1, 1) := by decide +kernel
theorem dX12_takesBidder_106 : decode cX12_takesBidder 106 = .ok (.iadd, 1) := by decide +kernel
theorem dX12_takesBidder_107 : decode cX12_takesBidder 107 = .ok (.putfield 95, 3) := by decide +kernel
theorem dX12_takesBidder_110 : decode cX12_takesBidder 110 = .ok (.iconst 1, 1) := by decide +kernel
theorem dX12_takesBidder_111 : decode cX12_takesBidder 111 = .ok (.ireturn, 1) := by decide +kernel
set_option maxRecDepth 100000 in
theorem ggX12_takesDebt_X12_takesNumber : GoodIn wsX12_takesDebt wsX12_takesNumber := goodIn_r _ [9, 3, 10, 11, 12, 13, 14, 15, 16, 8, 17, 18, 19, 20, 21, 22, 23, 24, 25, 26, 27, 28, 29, 30, 31, 32, 33, 34, 35, 36, 37, 38, 39, 40, 41, 42, 43, 44, 45, 46, 47, 48, 49, 50, 51, 52, 53, 54, 55, 56, 57, 58, 59, 60, 61] rfl (by decide +kernel)
set_option maxRecDepth 100000 in
theorem gX12_takesDebt_X12_takesNumber : GoodIn wsX12_takesDebt (wsV RX12 98 RX12 yX12_takesNumber wsX12_takesNumber) := goodIn_app (goodIn_r ([.methodLink RX12 98 yX12_takesNumber, .instanceMethod yX12_takesNumber, .selects RX12 yX12_takesNumber yX12_takesNumber, .initialized RX12] : List Cond) [5, 6, 7, 8] rfl (by decide +kernel)) ggX12_takesDebt_X12_takesNumber
theorem dX12_takesDebt_0 : decode cX12_takesDebt 0 = .ok (.aload_n 0, 1) := by decide +kernel
theorem dX12_takesDebt_1 : decode cX12_takesDebt 1 = .ok (.getfield 102, 3) := by decide +kernel
theorem dX12_takesDebt_4 : decode cX12_takesDebt 4 = .ok (.bipush 6, 2) := by decide +kernel
theorem dX12_takesDebt_6 : decode cX12_takesDebt 6 = .ok (.if_icmp .ne 5, 3) := by decide +kernel
theorem dX12_takesDebt_9 : decode cX12_takesDebt 9 = .ok (.iconst 0, 1) := by decide +kernel
theorem dX12_takesDebt_10 : decode cX12_takesDebt 10 = .ok (.ireturn, 1) := by decide +kernel
theorem dX12_takesDebt_11 : decode cX12_takesDebt 11 = .ok (.iconst 5, 1) := by decide +kernel
theorem dX12_takesDebt_12 : decode cX12_takesDebt 12 = .ok (.aload_n 0, 1) := by decide +kernel
theorem dX12_takesDebt_13 : decode cX12_takesDebt 13 = .ok (.getfield 102, 3) := by decide +kernel
theorem dX12_takesDebt_16 : decode cX12_takesDebt 16 = .ok (.imul, 1) := by decide +kernel
theorem dX12_takesDebt_17 : decode cX12_takesDebt 17 = .ok (.istore_n 1, 1) := by decide +kernel
theorem dX12_takesDebt_18 : decode cX12_takesDebt 18 = .ok (.iconst 0, 1) := by decide +kernel
theorem dX12_takesDebt_19 : decode cX12_takesDebt 19 = .ok (.istore_n 2, 1) := by decide +kernel
theorem dX12_takesDebt_20 : decode cX12_takesDebt 20 = .ok (.iload_n 2, 1) := by decide +kernel
theorem dX12_takesDebt_21 : decode cX12_takesDebt 21 = .ok (.iconst 5, 1) := by decide +kernel
theorem dX12_takesDebt_22 : decode cX12_takesDebt 22 = .ok (.if_icmp .ge 103, 3) := by decide +kernel
theorem dX12_takesDebt_25 : decode cX12_takesDebt 25 = .ok (.iload_n 2, 1) := by decide +kernel
theorem dX12_takesDebt_26 : decode cX12_takesDebt 26 = .ok (.iconst 2, 1) := by decide +kernel
theorem dX12_takesDebt_27 : decode cX12_takesDebt 27 = .ok (.if_icmp .eq 8, 3) := by decide +kernel
theorem dX12_takesDebt_30 : decode cX12_takesDebt 30 = .ok (.iload_n 2, 1) := by decide +kernel
theorem dX12_takesDebt_31 : decode cX12_takesDebt 31 = .ok (.iconst 3, 1) := by decide +kernel
theorem dX12_takesDebt_32 : decode cX12_takesDebt 32 = .ok (.if_icmp .ne 7, 3) := by decide +kernel
theorem dX12_takesDebt_35 : decode cX12_takesDebt 35 = .ok (.iconst 1, 1) := by decide +kernel
theorem dX12_takesDebt_36 : decode cX12_takesDebt 36 = .ok (.goto 4, 3) := by decide +kernel
theorem dX12_takesDebt_39 : decode cX12_takesDebt 39 = .ok (.iconst 0, 1) := by decide +kernel
theorem dX12_takesDebt_40 : decode cX12_takesDebt 40 = .ok (.istore_n 3, 1) := by decide +kernel
theorem dX12_takesDebt_41 : decode cX12_takesDebt 41 = .ok (.iload_n 2, 1) := by decide +kernel
theorem dX12_takesDebt_42 : decode cX12_takesDebt 42 = .ok (.iconst 2, 1) := by decide +kernel
theorem dX12_takesDebt_43 : decode cX12_takesDebt 43 = .ok (.if_icmp .ge 12, 3) := by decide +kernel
theorem dX12_takesDebt_46 : decode cX12_takesDebt 46 = .ok (.aload_n 0, 1) := by decide +kernel
theorem dX12_takesDebt_47 : decode cX12_takesDebt 47 = .ok (.getfield 95, 3) := by decide +kernel
theorem dX12_takesDebt_50 : decode cX12_takesDebt 50 = .ok (.iconst 1, 1) := by decide +kernel
theorem dX12_takesDebt_51 : decode cX12_takesDebt 51 = .ok (.isub, 1) := by decide +kernel
theorem dX12_takesDebt_52 : decode cX12_takesDebt 52 = .ok (.goto 23, 3) := by decide +kernel
theorem dX12_takesDebt_55 : decode cX12_takesDebt 55 = .ok (.iload_n 2, 1) := by decide +kernel
theorem dX12_takesDebt_56 : decode cX12_takesDebt 56 = .ok (.iconst 2, 1) := by decide +kernel
theorem dX12_takesDebt_57 : decode cX12_takesDebt 57 = .ok (.if_icmp .ne 8, 3) := by decide +kernel
theorem dX12_takesDebt_60 : decode cX12_takesDebt 60 = .ok (.bipush 50, 2) := by decide +kernel
theorem dX12_takesDebt_62 : decode cX12_takesDebt 62 = .ok (.goto 13, 3) := by decide +kernel
theorem dX12_takesDebt_65 : decode cX12_takesDebt 65 = .ok (.iload_n 2, 1) := by decide +kernel
theorem dX12_takesDebt_66 : decode cX12_takesDebt 66 = .ok (.iconst 3, 1) := by decide +kernel
theorem dX12_takesDebt_67 : decode cX12_takesDebt 67 = .ok (.if_icmp .ne 7, 3) := by decide +kernel
theorem dX12_takesDebt_70 : decode cX12_takesDebt 70 = .ok (.iconst 5, 1) := by decide +kernel
theorem dX12_takesDebt_71 : decode cX12_takesDebt 71 = .ok (.goto 4, 3) := by decide +kernel
theorem dX12_takesDebt_74 : decode cX12_takesDebt 74 = .ok (.iconst 4, 1) := by decide +kernel
theorem dX12_takesDebt_75 : decode cX12_takesDebt 75 = .ok (.istore 4, 2) := by decide +kernel
theorem dX12_takesDebt_77 : decode cX12_takesDebt 77 = .ok (.aload_n 0, 1) := by decide +kernel
theorem dX12_takesDebt_78 : decode cX12_takesDebt 78 = .ok (.iload_n 3, 1) := by decide +kernel
theorem dX12_takesDebt_79 : decode cX12_takesDebt 79 = .ok (.iload 4, 2) := by decide +kernel
theorem dX12_takesDebt_81 : decode cX12_takesDebt 81 = .ok (.invokevirtual 98, 3) := by decide +kernel
theorem dX12_takesDebt_84 : decode cX12_takesDebt 84 = .ok (.ifCond .eq 21, 3) := by decide +kernel
theorem dX12_takesDebt_87 : decode cX12_takesDebt 87 = .ok (.iload_n 2, 1) := by decide +kernel
theorem dX12_takesDebt_88 : decode cX12_takesDebt 88 = .ok (.iconst 1, 1) := by decide +kernel
theorem dX12_takesDebt_89 : decode cX12_takesDebt 89 = .ok (.if_icmp .ne 18, 3) := by decide +kernel
theorem dX12_takesDebt_92 : decode cX12_takesDebt 92 = .ok (.aload_n 0, 1) := by decide +kernel
theorem dX12_takesDebt_93 : decode cX12_takesDebt 93 = .ok (.getfield 88, 3) := by decide +kernel
theorem dX12_takesDebt_96 : decode cX12_takesDebt 96 = .ok (.aload_n 0, 1) := by decide +kernel
theorem dX12_takesDebt_97 : decode cX12_takesDebt 97 = .ok (.getfield 54, 3) := by decide +kernel
theorem dX12_takesDebt_100 : decode cX12_takesDebt 100 = .ok (.iload_n 1, 1) := by decide +kernel
theorem dX12_takesDebt_101 : decode cX12_takesDebt 101 = .ok (.iaload, 1) := by decide +kernel
theorem dX12_takesDebt_102 : decode cX12_takesDebt 102 = .ok (.if_icmp .ne 5, 3) := by decide +kernel
theorem dX12_takesDebt_105 : decode cX12_takesDebt 105 = .ok (.iconst 0, 1) := by decide +kernel
theorem dX12_takesDebt_106 : decode cX12_takesDebt 106 = .ok (.ireturn, 1) := by decide +kernel
theorem dX12_takesDebt_107 : decode cX12_takesDebt 107 = .ok (.aload_n 0, 1) := by decide +kernel
theorem dX12_takesDebt_108 : decode cX12_takesDebt 108 = .ok (.getfield 54, 3) := by decide +kernel
theorem dX12_takesDebt_111 : decode cX12_takesDebt 111 = .ok (.iload_n 1, 1) := by decide +kernel
theorem dX12_takesDebt_112 : decode cX12_takesDebt 112 = .ok (.iload_n 2, 1) := by decide +kernel
theorem dX12_takesDebt_113 : decode cX12_takesDebt 113 = .ok (.iadd, 1) := by decide +kernel
theorem dX12_takesDebt_114 : decode cX12_takesDebt 114 = .ok (.aload_n 0, 1) := by decide +kernel
theorem dX12_takesDebt_115 : decode cX12_takesDebt 115 = .ok (.getfield 88, 3) := by decide +kernel
theorem dX12_takesDebt_118 : decode cX12_takesDebt 118 = .ok (.iastore, 1) := by decide +kernel
theorem dX12_takesDebt_119 : decode cX12_takesDebt 119 = .ok (.iinc 2 1, 3) := by decide +kernel
theorem dX12_takesDebt_122 : decode cX12_takesDebt 122 = .ok (.goto (-102), 3) := by decide +kernel
theorem dX12_takesDebt_125 : decode cX12_takesDebt 125 = .ok (.aload_n 0, 1) := by decide +kernel
theorem dX12_takesDebt_126 : decode cX12_takesDebt 126 = .ok (.dup, 1) := by decide +kernel
theorem dX12_takesDebt_127 : decode cX12_takesDebt 127 = .ok (.getfield 102, 3) := by decide +kernel
theorem dX12_takesDebt_130 : decode cX12_takesDebt 130 = .ok (.iconst 1, 1) := by decide +kernel
theorem dX12_takesDebt_131 : decode cX12_takesDebt 131 = .ok (.iadd, 1) := by decide +kernel
theorem dX12_takesDebt_132 : decode cX12_takesDebt 132 = .ok (.putfield 102, 3) := by decide +kernel
theorem dX12_takesDebt_135 : decode cX12_takesDebt 135 = .ok (.iconst 1, 1) := by decide +kernel
theorem dX12_takesDebt_136 : decode cX12_takesDebt 136 = .ok (.ireturn, 1) := by decide +kernel
set_option maxRecDepth 100000 in
theorem ggX12_takesBar_X12_takesNumber : GoodIn wsX12_takesBar wsX12_takesNumber := goodIn_r _ [8, 2, 9, 10, 11, 12, 13, 14, 15, 7, 16, 17, 18, 19, 20, 21, 22, 23, 24, 25, 26, 27, 28, 29, 30, 31, 32, 33, 34, 35, 36, 37, 38, 39, 40, 41, 42, 43, 44, 45, 46, 47, 48, 49, 50, 51, 52, 53, 54, 55, 56, 57, 58, 59, 60] rfl (by decide +kernel)
set_option maxRecDepth 100000 in
theorem gX12_takesBar_X12_takesNumber : GoodIn wsX12_takesBar (wsV RX12 98 RX12 yX12_takesNumber wsX12_takesNumber) := goodIn_app (goodIn_r ([.methodLink RX12 98 yX12_takesNumber, .instanceMethod yX12_takesNumber, .selects RX12 yX12_takesNumber yX12_takesNumber, .initialized RX12] : List Cond) [4, 5, 6, 7] rfl (by decide +kernel)) ggX12_takesBar_X12_takesNumber
theorem dX12_takesBar_0 : decode cX12_takesBar 0 = .ok (.aload_n 0, 1) := by decide +kernel
theorem dX12_takesBar_1 : decode cX12_takesBar 1 = .ok (.getfield 105, 3) := by decide +kernel
theorem dX12_takesBar_4 : decode cX12_takesBar 4 = .ok (.ifCond .ne 13, 3) := by decide +kernel
theorem dX12_takesBar_7 : decode cX12_takesBar 7 = .ok (.aload_n 0, 1) := by decide +kernel
theorem dX12_takesBar_8 : decode cX12_takesBar 8 = .ok (.iconst 0, 1) := by decide +kernel
theorem dX12_takesBar_9 : decode cX12_takesBar 9 = .ok (.bipush 7, 2) := by decide +kernel
theorem dX12_takesBar_11 : decode cX12_takesBar 11 = .ok (.invokevirtual 98, 3) := by decide +kernel
theorem dX12_takesBar_14 : decode cX12_takesBar 14 = .ok (.ifCond .ne 5, 3) := by decide +kernel
theorem dX12_takesBar_17 : decode cX12_takesBar 17 = .ok (.iconst 0, 1) := by decide +kernel
theorem dX12_takesBar_18 : decode cX12_takesBar 18 = .ok (.ireturn, 1) := by decide +kernel
theorem dX12_takesBar_19 : decode cX12_takesBar 19 = .ok (.aload_n 0, 1) := by decide +kernel
theorem dX12_takesBar_20 : decode cX12_takesBar 20 = .ok (.iconst 1, 1) := by decide +kernel
theorem dX12_takesBar_21 : decode cX12_takesBar 21 = .ok (.putfield 105, 3) := by decide +kernel
theorem dX12_takesBar_24 : decode cX12_takesBar 24 = .ok (.aload_n 0, 1) := by decide +kernel
theorem dX12_takesBar_25 : decode cX12_takesBar 25 = .ok (.aload_n 0, 1) := by decide +kernel
theorem dX12_takesBar_26 : decode cX12_takesBar 26 = .ok (.getfield 88, 3) := by decide +kernel
theorem dX12_takesBar_29 : decode cX12_takesBar 29 = .ok (.putfield 63, 3) := by decide +kernel
theorem dX12_takesBar_32 : decode cX12_takesBar 32 = .ok (.iconst 1, 1) := by decide +kernel
theorem dX12_takesBar_33 : decode cX12_takesBar 33 = .ok (.ireturn, 1) := by decide +kernel
set_option maxRecDepth 100000 in
theorem ggX12_takesItem_X12_letterAt : GoodIn wsX12_takesItem wsX12_letterAt := goodIn_r _ [6, 7, 8, 44, 45, 46, 47, 48, 49, 50, 51, 52, 53, 54, 55, 56, 57, 58, 59, 60, 61, 62, 63, 64, 65, 66, 67, 68, 69, 70, 71, 72, 73, 74, 75, 76, 77, 78] rfl (by decide +kernel)
set_option maxRecDepth 100000 in
theorem gX12_takesItem_X12_letterAt : GoodIn wsX12_takesItem (wsV RX12 78 RX12 yX12_letterAt wsX12_letterAt) := goodIn_app (goodIn_r ([.methodLink RX12 78 yX12_letterAt, .instanceMethod yX12_letterAt, .selects RX12 yX12_letterAt yX12_letterAt, .initialized RX12] : List Cond) [2, 3, 4, 5] rfl (by decide +kernel)) ggX12_takesItem_X12_letterAt
set_option maxRecDepth 100000 in
theorem ggX12_takesItem_X12_takesBidder : GoodIn wsX12_takesItem wsX12_takesBidder := goodIn_r _ [12, 13, 14, 15, 16, 17, 18, 19, 20, 5, 21, 1, 22, 23, 24, 25, 26, 27, 28, 2, 3, 4, 6, 7, 8, 29, 30, 31, 44, 45, 46, 47, 48, 49, 50, 51, 52, 53, 54, 55, 56, 57, 58, 59, 60, 61, 62, 63, 64, 65, 66, 67, 68, 69, 70, 71, 72, 73, 74, 75, 76, 77, 78] rfl (by decide +kernel)
set_option maxRecDepth 100000 in
theorem gX12_takesItem_X12_takesBidder : GoodIn wsX12_takesItem (wsV RX12 109 RX12 yX12_takesBidder wsX12_takesBidder) := goodIn_app (goodIn_r ([.methodLink RX12 109 yX12_takesBidder, .instanceMethod yX12_takesBidder, .selects RX12 yX12_takesBidder yX12_takesBidder, .initialized RX12] : List Cond) [9, 10, 11, 5] rfl (by decide +kernel)) ggX12_takesItem_X12_takesBidder
set_option maxRecDepth 100000 in
theorem ggX12_takesItem_X12_takesDebt : GoodIn wsX12_takesItem wsX12_takesDebt := goodIn_r _ [35, 36, 13, 15, 37, 18, 19, 20, 5, 21, 1, 22, 23, 24, 25, 26, 27, 28, 2, 3, 4, 6, 7, 8, 29, 30, 31, 44, 45, 46, 47, 48, 49, 50, 51, 52, 53, 54, 55, 56, 57, 58, 59, 60, 61, 62, 63, 64, 65, 66, 67, 68, 69, 70, 71, 72, 73, 74, 75, 76, 77, 78] rfl (by decide +kernel)
set_option maxRecDepth 100000 in
theorem gX12_takesItem_X12_takesDebt : GoodIn wsX12_takesItem (wsV RX12 113 RX12 yX12_takesDebt wsX12_takesDebt) := goodIn_app (goodIn_r ([.methodLink RX12 113 yX12_takesDebt, .instanceMethod yX12_takesDebt, .selects RX12 yX12_takesDebt yX12_takesDebt, .initialized RX12] : List Cond) [32, 33, 34, 5] rfl (by decide +kernel)) ggX12_takesItem_X12_takesDebt
set_option maxRecDepth 100000 in
theorem ggX12_takesItem_X12_takesBar : GoodIn wsX12_takesItem wsX12_takesBar := goodIn_r _ [41, 42, 15, 43, 18, 19, 20, 5, 21, 1, 22, 23, 24, 25, 26, 27, 28, 2, 3, 4, 6, 7, 8, 29, 30, 31, 44, 45, 46, 47, 48, 49, 50, 51, 52, 53, 54, 55, 56, 57, 58, 59, 60, 61, 62, 63, 64, 65, 66, 67, 68, 69, 70, 71, 72, 73, 74, 75, 76, 77, 78] rfl (by decide +kernel)
set_option maxRecDepth 100000 in
theorem gX12_takesItem_X12_takesBar : GoodIn wsX12_takesItem (wsV RX12 116 RX12 yX12_takesBar wsX12_takesBar) := goodIn_app (goodIn_r ([.methodLink RX12 116 yX12_takesBar, .instanceMethod yX12_takesBar, .selects RX12 yX12_takesBar yX12_takesBar, .initialized RX12] : List Cond) [38, 39, 40, 5] rfl (by decide +kernel)) ggX12_takesItem_X12_takesBar
set_option maxRecDepth 100000 in
theorem ggX12_takesItem_X12_blanks : GoodIn wsX12_takesItem wsX12_blanks := goodIn_r _ [28, 1, 24, 2, 3, 4, 5, 6, 7, 8, 44, 45, 46, 47, 48, 49, 50, 51, 52, 53, 54, 55, 56, 57, 58, 59, 60, 61, 62, 63, 64, 65, 66, 67, 68, 69, 70, 71, 72, 73, 74, 75, 76, 77, 78] rfl (by decide +kernel)
set_option maxRecDepth 100000 in
theorem gX12_takesItem_X12_blanks : GoodIn wsX12_takesItem (wsV RX12 85 RX12 yX12_blanks wsX12_blanks) := goodIn_app (goodIn_r ([.methodLink RX12 85 yX12_blanks, .instanceMethod yX12_blanks, .selects RX12 yX12_blanks yX12_blanks, .initialized RX12] : List Cond) [25, 26, 27, 5] rfl (by decide +kernel)) ggX12_takesItem_X12_blanks
theorem dX12_takesItem_0 : decode cX12_takesItem 0 = .ok (.aload_n 0, 1) := by decide +kernel
theorem dX12_takesItem_1 : decode cX12_takesItem 1 = .ok (.aload_n 0, 1) := by decide +kernel
theorem dX12_takesItem_2 : decode cX12_takesItem 2 = .ok (.getfield 75, 3) := by decide +kernel
theorem dX12_takesItem_5 : decode cX12_takesItem 5 = .ok (.invokevirtual 78, 3) := by decide +kernel
theorem dX12_takesItem_8 : decode cX12_takesItem 8 = .ok (.istore_n 1, 1) := by decide +kernel
theorem dX12_takesItem_9 : decode cX12_takesItem 9 = .ok (.aload_n 0, 1) := by decide +kernel
theorem dX12_takesItem_10 : decode cX12_takesItem 10 = .ok (.dup, 1) := by decide +kernel
theorem dX12_takesItem_11 : decode cX12_takesItem 11 = .ok (.getfield 75, 3) := by decide +kernel
theorem dX12_takesItem_14 : decode cX12_takesItem 14 = .ok (.iconst 1, 1) := by decide +kernel
theorem dX12_takesItem_15 : decode cX12_takesItem 15 = .ok (.iadd, 1) := by decide +kernel
theorem dX12_takesItem_16 : decode cX12_takesItem 16 = .ok (.putfield 75, 3) := by decide +kernel
theorem dX12_takesItem_19 : decode cX12_takesItem 19 = .ok (.iload_n 1, 1) := by decide +kernel
theorem dX12_takesItem_20 : decode cX12_takesItem 20 = .ok (.bipush 98, 2) := by decide +kernel
theorem dX12_takesItem_22 : decode cX12_takesItem 22 = .ok (.if_icmp .ne 10, 3) := by decide +kernel
theorem dX12_takesItem_25 : decode cX12_takesItem 25 = .ok (.aload_n 0, 1) := by decide +kernel
theorem dX12_takesItem_26 : decode cX12_takesItem 26 = .ok (.invokevirtual 109, 3) := by decide +kernel
theorem dX12_takesItem_29 : decode cX12_takesItem 29 = .ok (.goto 34, 3) := by decide +kernel
theorem dX12_takesItem_32 : decode cX12_takesItem 32 = .ok (.iload_n 1, 1) := by decide +kernel
