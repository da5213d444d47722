theorem dX12_now_33 : decode cX12_now 33 = .ok (.iload_n 1, 1) := by decide +kernel
theorem dX12_now_34 : decode cX12_now 34 = .ok (.iconst 5, 1) := by decide +kernel
theorem dX12_now_35 : decode cX12_now 35 = .ok (.if_icmp .ne 10, 3) := by decide +kernel
theorem dX12_now_38 : decode cX12_now 38 = .ok (.aload_n 0, 1) := by decide +kernel
theorem dX12_now_39 : decode cX12_now 39 = .ok (.getfield 137, 3) := by decide +kernel
theorem dX12_now_42 : decode cX12_now 42 = .ok (.goto 4, 3) := by decide +kernel
theorem dX12_now_45 : decode cX12_now 45 = .ok (.iconst (-1), 1) := by decide +kernel
theorem dX12_now_46 : decode cX12_now 46 = .ok (.ireturn, 1) := by decide +kernel
set_option maxRecDepth 100000 in
theorem ggX12_minds_X12_copy : GoodIn wsX12_minds wsX12_copy := goodIn_r _ [7, 2, 8, 9, 10, 11, 12, 13, 14, 15, 16, 17, 18, 19, 20, 21, 22, 23, 24, 25, 26, 27, 28, 29, 30, 31, 32, 33, 34, 35, 36, 37, 38, 39, 40, 41, 42] rfl (by decide +kernel)
set_option maxRecDepth 100000 in
theorem gX12_minds_X12_copy : GoodIn wsX12_minds (wsV RX12 188 RX12 yX12_copy wsX12_copy) := goodIn_app (goodIn_r ([.methodLink RX12 188 yX12_copy, .instanceMethod yX12_copy, .selects RX12 yX12_copy yX12_copy, .initialized RX12] : List Cond) [3, 4, 5, 6] rfl (by decide +kernel)) ggX12_minds_X12_copy
theorem dX12_minds_0 : decode cX12_minds 0 = .ok (.aload_n 0, 1) := by decide +kernel
theorem dX12_minds_1 : decode cX12_minds 1 = .ok (.getfield 137, 3) := by decide +kernel
theorem dX12_minds_4 : decode cX12_minds 4 = .ok (.bipush 10, 2) := by decide +kernel
theorem dX12_minds_6 : decode cX12_minds 6 = .ok (.if_icmp .ne 51, 3) := by decide +kernel
theorem dX12_minds_9 : decode cX12_minds 9 = .ok (.iconst 0, 1) := by decide +kernel
theorem dX12_minds_10 : decode cX12_minds 10 = .ok (.istore_n 1, 1) := by decide +kernel
theorem dX12_minds_11 : decode cX12_minds 11 = .ok (.iload_n 1, 1) := by decide +kernel
theorem dX12_minds_12 : decode cX12_minds 12 = .ok (.sipush 1080, 3) := by decide +kernel
theorem dX12_minds_15 : decode cX12_minds 15 = .ok (.if_icmp .ge 32, 3) := by decide +kernel
theorem dX12_minds_18 : decode cX12_minds 18 = .ok (.aload_n 0, 1) := by decide +kernel
theorem dX12_minds_19 : decode cX12_minds 19 = .ok (.getfield 7, 3) := by decide +kernel
theorem dX12_minds_22 : decode cX12_minds 22 = .ok (.sipush 480, 3) := by decide +kernel
theorem dX12_minds_25 : decode cX12_minds 25 = .ok (.iload_n 1, 1) := by decide +kernel
theorem dX12_minds_26 : decode cX12_minds 26 = .ok (.iadd, 1) := by decide +kernel
theorem dX12_minds_27 : decode cX12_minds 27 = .ok (.aload_n 0, 1) := by decide +kernel
theorem dX12_minds_28 : decode cX12_minds 28 = .ok (.getfield 7, 3) := by decide +kernel
theorem dX12_minds_31 : decode cX12_minds 31 = .ok (.sipush 480, 3) := by decide +kernel
theorem dX12_minds_34 : decode cX12_minds 34 = .ok (.iload_n 1, 1) := by decide +kernel
theorem dX12_minds_35 : decode cX12_minds 35 = .ok (.iadd, 1) := by decide +kernel
theorem dX12_minds_36 : decode cX12_minds 36 = .ok (.bipush 120, 2) := by decide +kernel
theorem dX12_minds_38 : decode cX12_minds 38 = .ok (.iadd, 1) := by decide +kernel
theorem dX12_minds_39 : decode cX12_minds 39 = .ok (.iaload, 1) := by decide +kernel
theorem dX12_minds_40 : decode cX12_minds 40 = .ok (.iastore, 1) := by decide +kernel
theorem dX12_minds_41 : decode cX12_minds 41 = .ok (.iinc 1 1, 3) := by decide +kernel
theorem dX12_minds_44 : decode cX12_minds 44 = .ok (.goto (-33), 3) := by decide +kernel
theorem dX12_minds_47 : decode cX12_minds 47 = .ok (.aload_n 0, 1) := by decide +kernel
theorem dX12_minds_48 : decode cX12_minds 48 = .ok (.dup, 1) := by decide +kernel
theorem dX12_minds_49 : decode cX12_minds 49 = .ok (.getfield 137, 3) := by decide +kernel
theorem dX12_minds_52 : decode cX12_minds 52 = .ok (.iconst 1, 1) := by decide +kernel
theorem dX12_minds_53 : decode cX12_minds 53 = .ok (.isub, 1) := by decide +kernel
theorem dX12_minds_54 : decode cX12_minds 54 = .ok (.putfield 137, 3) := by decide +kernel
theorem dX12_minds_57 : decode cX12_minds 57 = .ok (.aload_n 0, 1) := by decide +kernel
theorem dX12_minds_58 : decode cX12_minds 58 = .ok (.iconst 0, 1) := by decide +kernel
theorem dX12_minds_59 : decode cX12_minds 59 = .ok (.sipush 480, 3) := by decide +kernel
theorem dX12_minds_62 : decode cX12_minds 62 = .ok (.bipush 120, 2) := by decide +kernel
theorem dX12_minds_64 : decode cX12_minds 64 = .ok (.aload_n 0, 1) := by decide +kernel
theorem dX12_minds_65 : decode cX12_minds 65 = .ok (.getfield 137, 3) := by decide +kernel
theorem dX12_minds_68 : decode cX12_minds 68 = .ok (.imul, 1) := by decide +kernel
theorem dX12_minds_69 : decode cX12_minds 69 = .ok (.iadd, 1) := by decide +kernel
theorem dX12_minds_70 : decode cX12_minds 70 = .ok (.invokevirtual 188, 3) := by decide +kernel
theorem dX12_minds_73 : decode cX12_minds 73 = .ok (.aload_n 0, 1) := by decide +kernel
theorem dX12_minds_74 : decode cX12_minds 74 = .ok (.dup, 1) := by decide +kernel
theorem dX12_minds_75 : decode cX12_minds 75 = .ok (.getfield 137, 3) := by decide +kernel
theorem dX12_minds_78 : decode cX12_minds 78 = .ok (.iconst 1, 1) := by decide +kernel
theorem dX12_minds_79 : decode cX12_minds 79 = .ok (.iadd, 1) := by decide +kernel
theorem dX12_minds_80 : decode cX12_minds 80 = .ok (.putfield 137, 3) := by decide +kernel
theorem dX12_minds_83 : decode cX12_minds 83 = .ok (.return_, 1) := by decide +kernel
set_option maxRecDepth 100000 in
theorem ggX12_night_X12_isOver : GoodIn wsX12_night wsX12_isOver := goodIn_r _ [5, 6, 55, 56, 57, 58, 59, 60, 61, 62, 63, 64, 65, 66, 67, 68, 69, 70, 71, 72, 73, 74, 75, 76, 77, 78, 79, 80, 81, 82, 83, 84, 85, 86, 87, 88, 89] rfl (by decide +kernel)
set_option maxRecDepth 100000 in
theorem gX12_night_X12_isOver : GoodIn wsX12_night (wsV RX12 197 RX12 yX12_isOver wsX12_isOver) := goodIn_app (goodIn_r ([.methodLink RX12 197 yX12_isOver, .instanceMethod yX12_isOver, .selects RX12 yX12_isOver yX12_isOver, .initialized RX12] : List Cond) [1, 2, 3, 4] rfl (by decide +kernel)) ggX12_night_X12_isOver
set_option maxRecDepth 100000 in
theorem ggX12_night_X12_minds : GoodIn wsX12_night wsX12_minds := goodIn_r _ [10, 11, 6, 12, 13, 14, 4, 15, 55, 56, 57, 58, 59, 60, 61, 62, 63, 64, 65, 66, 67, 68, 69, 70, 71, 72, 73, 74, 75, 76, 77, 78, 79, 80, 81, 82, 83, 84, 85, 86, 87, 88, 89] rfl (by decide +kernel)
set_option maxRecDepth 100000 in
theorem gX12_night_X12_minds : GoodIn wsX12_night (wsV RX12 200 RX12 yX12_minds wsX12_minds) := goodIn_app (goodIn_r ([.methodLink RX12 200 yX12_minds, .instanceMethod yX12_minds, .selects RX12 yX12_minds yX12_minds, .initialized RX12] : List Cond) [7, 8, 9, 4] rfl (by decide +kernel)) ggX12_night_X12_minds
set_option maxRecDepth 100000 in
theorem ggX12_night_X12_goes : GoodIn wsX12_night wsX12_goes := goodIn_r _ [19, 20, 21, 22, 4, 23, 24, 25, 26, 6, 27, 28, 29, 30, 31, 32, 33, 34, 35, 36, 37, 38, 39, 40, 41, 42, 43, 44, 45, 46, 47, 48, 49, 50, 51, 52, 53, 54, 55, 56, 57, 58, 59, 60, 61, 62, 63, 64, 65, 66, 67, 68, 69, 70, 71, 72, 73, 74, 75, 76, 77, 78, 79, 80, 81, 82, 83, 84, 85, 86, 87, 88, 89] rfl (by decide +kernel)
set_option maxRecDepth 100000 in
theorem gX12_night_X12_goes : GoodIn wsX12_night (wsV RX12 203 RX12 yX12_goes wsX12_goes) := goodIn_app (goodIn_r ([.methodLink RX12 203 yX12_goes, .instanceMethod yX12_goes, .selects RX12 yX12_goes yX12_goes, .initialized RX12] : List Cond) [16, 17, 18, 4] rfl (by decide +kernel)) ggX12_night_X12_goes
theorem dX12_night_0 : decode cX12_night 0 = .ok (.aload_n 0, 1) := by decide +kernel
theorem dX12_night_1 : decode cX12_night 1 = .ok (.invokevirtual 197, 3) := by decide +kernel
theorem dX12_night_4 : decode cX12_night 4 = .ok (.ifCond .eq 6, 3) := by decide +kernel
theorem dX12_night_7 : decode cX12_night 7 = .ok (.bipush (-2), 2) := by decide +kernel
theorem dX12_night_9 : decode cX12_night 9 = .ok (.ireturn, 1) := by decide +kernel
theorem dX12_night_10 : decode cX12_night 10 = .ok (.aload_n 0, 1) := by decide +kernel
theorem dX12_night_11 : decode cX12_night 11 = .ok (.invokevirtual 200, 3) := by decide +kernel
theorem dX12_night_14 : decode cX12_night 14 = .ok (.aload_n 0, 1) := by decide +kernel
theorem dX12_night_15 : decode cX12_night 15 = .ok (.iconst 0, 1) := by decide +kernel
theorem dX12_night_16 : decode cX12_night 16 = .ok (.invokevirtual 203, 3) := by decide +kernel
theorem dX12_night_19 : decode cX12_night 19 = .ok (.ireturn, 1) := by decide +kernel
set_option maxRecDepth 100000 in
theorem ggX12_bids_X12_isName : GoodIn wsX12_bids wsX12_isName := goodIn_r _ [6, 7, 8, 9, 5, 10] rfl (by decide +kernel)
set_option maxRecDepth 100000 in
theorem gX12_bids_X12_isName : GoodIn wsX12_bids (va_wsS RX12 153 yX12_isName wsX12_isName) := goodIn_app (goodIn_r ([.methodLink RX12 153 yX12_isName, .static yX12_isName, .initialized RX12] : List Cond) [3, 4, 5] rfl (by decide +kernel)) ggX12_bids_X12_isName
set_option maxRecDepth 100000 in
theorem ggX12_bids_X12_in : GoodIn wsX12_bids wsX12_in := goodIn_r _ [10] rfl (by decide +kernel)
set_option maxRecDepth 100000 in
theorem gX12_bids_X12_in : GoodIn wsX12_bids (va_wsS RX12 68 yX12_in wsX12_in) := goodIn_app (goodIn_r ([.methodLink RX12 68 yX12_in, .static yX12_in, .initialized RX12] : List Cond) [8, 9, 5] rfl (by decide +kernel)) ggX12_bids_X12_in
set_option maxRecDepth 100000 in
theorem ggX12_bids_X12_minds : GoodIn wsX12_bids wsX12_minds := goodIn_r _ [14, 15, 2, 16, 17, 18, 5, 19, 20, 21, 22, 23, 24, 25, 26, 27, 28, 29, 30, 31, 32, 33, 34, 35, 36, 37, 38, 39, 40, 41, 42, 43, 44, 45, 46, 47, 48, 49, 50, 51, 52, 53, 54] rfl (by decide +kernel)
set_option maxRecDepth 100000 in
theorem gX12_bids_X12_minds : GoodIn wsX12_bids (wsV RX12 200 RX12 yX12_minds wsX12_minds) := goodIn_app (goodIn_r ([.methodLink RX12 200 yX12_minds, .instanceMethod yX12_minds, .selects RX12 yX12_minds yX12_minds, .initialized RX12] : List Cond) [11, 12, 13, 5] rfl (by decide +kernel)) ggX12_bids_X12_minds
theorem dX12_bids_0 : decode cX12_bids 0 = .ok (.iload_n 1, 1) := by decide +kernel
theorem dX12_bids_1 : decode cX12_bids 1 = .ok (.invokestatic 153, 3) := by decide +kernel
theorem dX12_bids_4 : decode cX12_bids 4 = .ok (.ifCond .eq 15, 3) := by decide +kernel
theorem dX12_bids_7 : decode cX12_bids 7 = .ok (.iload_n 2, 1) := by decide +kernel
theorem dX12_bids_8 : decode cX12_bids 8 = .ok (.i2l, 1) := by decide +kernel
theorem dX12_bids_9 : decode cX12_bids 9 = .ok (.lconst 1, 1) := by decide +kernel
theorem dX12_bids_10 : decode cX12_bids 10 = .ok (.ldc2_w 206, 3) := by decide +kernel
theorem dX12_bids_13 : decode cX12_bids 13 = .ok (.invokestatic 68, 3) := by decide +kernel
theorem dX12_bids_16 : decode cX12_bids 16 = .ok (.ifCond .ne 5, 3) := by decide +kernel
theorem dX12_bids_19 : decode cX12_bids 19 = .ok (.iconst (-1), 1) := by decide +kernel
theorem dX12_bids_20 : decode cX12_bids 20 = .ok (.ireturn, 1) := by decide +kernel
theorem dX12_bids_21 : decode cX12_bids 21 = .ok (.aload_n 0, 1) := by decide +kernel
theorem dX12_bids_22 : decode cX12_bids 22 = .ok (.invokevirtual 200, 3) := by decide +kernel
theorem dX12_bids_25 : decode cX12_bids 25 = .ok (.aload_n 0, 1) := by decide +kernel
theorem dX12_bids_26 : decode cX12_bids 26 = .ok (.getfield 7, 3) := by decide +kernel
theorem dX12_bids_29 : decode cX12_bids 29 = .ok (.iconst 4, 1) := by decide +kernel
theorem dX12_bids_30 : decode cX12_bids 30 = .ok (.iaload, 1) := by decide +kernel
theorem dX12_bids_31 : decode cX12_bids 31 = .ok (.ifCond .le 12, 3) := by decide +kernel
theorem dX12_bids_34 : decode cX12_bids 34 = .ok (.aload_n 0, 1) := by decide +kernel
theorem dX12_bids_35 : decode cX12_bids 35 = .ok (.getfield 7, 3) := by decide +kernel
theorem dX12_bids_38 : decode cX12_bids 38 = .ok (.iconst 5, 1) := by decide +kernel
theorem dX12_bids_39 : decode cX12_bids 39 = .ok (.iaload, 1) := by decide +kernel
theorem dX12_bids_40 : decode cX12_bids 40 = .ok (.goto 5, 3) := by decide +kernel
theorem dX12_bids_43 : decode cX12_bids 43 = .ok (.bipush (-9), 2) := by decide +kernel
theorem dX12_bids_45 : decode cX12_bids 45 = .ok (.istore_n 3, 1) := by decide +kernel
theorem dX12_bids_46 : decode cX12_bids 46 = .ok (.aload_n 0, 1) := by decide +kernel
theorem dX12_bids_47 : decode cX12_bids 47 = .ok (.getfield 7, 3) := by decide +kernel
theorem dX12_bids_50 : decode cX12_bids 50 = .ok (.iconst 4, 1) := by decide +kernel
theorem dX12_bids_51 : decode cX12_bids 51 = .ok (.iload_n 2, 1) := by decide +kernel
theorem dX12_bids_52 : decode cX12_bids 52 = .ok (.iastore, 1) := by decide +kernel
theorem dX12_bids_53 : decode cX12_bids 53 = .ok (.aload_n 0, 1) := by decide +kernel
theorem dX12_bids_54 : decode cX12_bids 54 = .ok (.getfield 7, 3) := by decide +kernel
theorem dX12_bids_57 : decode cX12_bids 57 = .ok (.iconst 5, 1) := by decide +kernel
theorem dX12_bids_58 : decode cX12_bids 58 = .ok (.iload_n 1, 1) := by decide +kernel
theorem dX12_bids_59 : decode cX12_bids 59 = .ok (.iastore, 1) := by decide +kernel
theorem dX12_bids_60 : decode cX12_bids 60 = .ok (.iload_n 3, 1) := by decide +kernel
theorem dX12_bids_61 : decode cX12_bids 61 = .ok (.ireturn, 1) := by decide +kernel
set_option maxRecDepth 100000 in
theorem ggX12_undo_X12_copy : GoodIn wsX12_undo wsX12_copy := goodIn_r _ [6, 7, 8, 9, 10, 11, 12, 13, 14, 15, 16, 17, 18, 19, 20, 21, 22, 23, 24, 25, 26, 27, 28, 29, 30, 31, 32, 33, 34, 35, 36, 37, 38, 39, 40, 41, 42] rfl (by decide +kernel)
set_option maxRecDepth 100000 in
theorem gX12_undo_X12_copy : GoodIn wsX12_undo (wsV RX12 188 RX12 yX12_copy wsX12_copy) := goodIn_app (goodIn_r ([.methodLink RX12 188 yX12_copy, .instanceMethod yX12_copy, .selects RX12 yX12_copy yX12_copy, .initialized RX12] : List Cond) [2, 3, 4, 5] rfl (by decide +kernel)) ggX12_undo_X12_copy
theorem dX12_undo_0 : decode cX12_undo 0 = .ok (.aload_n 0, 1) := by decide +kernel
theorem dX12_undo_1 : decode cX12_undo 1 = .ok (.getfield 137, 3) := by decide +kernel
theorem dX12_undo_4 : decode cX12_undo 4 = .ok (.ifCond .ne 6, 3) := by decide +kernel
theorem dX12_undo_7 : decode cX12_undo 7 = .ok (.bipush (-2), 2) := by decide +kernel
theorem dX12_undo_9 : decode cX12_undo 9 = .ok (.ireturn, 1) := by decide +kernel
theorem dX12_undo_10 : decode cX12_undo 10 = .ok (.aload_n 0, 1) := by decide +kernel
theorem dX12_undo_11 : decode cX12_undo 11 = .ok (.dup, 1) := by decide +kernel
theorem dX12_undo_12 : decode cX12_undo 12 = .ok (.getfield 137, 3) := by decide +kernel
theorem dX12_undo_15 : decode cX12_undo 15 = .ok (.iconst 1, 1) := by decide +kernel
theorem dX12_undo_16 : decode cX12_undo 16 = .ok (.isub, 1) := by decide +kernel
theorem dX12_undo_17 : decode cX12_undo 17 = .ok (.putfield 137, 3) := by decide +kernel
theorem dX12_undo_20 : decode cX12_undo 20 = .ok (.aload_n 0, 1) := by decide +kernel
theorem dX12_undo_21 : decode cX12_undo 21 = .ok (.sipush 480, 3) := by decide +kernel
theorem dX12_undo_24 : decode cX12_undo 24 = .ok (.bipush 120, 2) := by decide +kernel
theorem dX12_undo_26 : decode cX12_undo 26 = .ok (.aload_n 0, 1) := by decide +kernel
theorem dX12_undo_27 : decode cX12_undo 27 = .ok (.getfield 137, 3) := by decide +kernel
theorem dX12_undo_30 : decode cX12_undo 30 = .ok (.imul, 1) := by decide +kernel
theorem dX12_undo_31 : decode cX12_undo 31 = .ok (.iadd, 1) := by decide +kernel
theorem dX12_undo_32 : decode cX12_undo 32 = .ok (.iconst 0, 1) := by decide +kernel
theorem dX12_undo_33 : decode cX12_undo 33 = .ok (.invokevirtual 188, 3) := by decide +kernel
theorem dX12_undo_36 : decode cX12_undo 36 = .ok (.aload_n 0, 1) := by decide +kernel
theorem dX12_undo_37 : decode cX12_undo 37 = .ok (.getfield 137, 3) := by decide +kernel
theorem dX12_undo_40 : decode cX12_undo 40 = .ok (.ireturn, 1) := by decide +kernel
set_option maxRecDepth 100000 in
theorem ggX12_goesMany_X12_tries : GoodIn wsX12_goesMany wsX12_tries := goodIn_r _ [5, 6, 7, 8, 9, 4, 10, 50, 51, 52, 53, 54, 55, 56, 57, 58, 59, 60, 61, 62, 63, 64, 65, 66, 67, 68, 69, 70, 71, 72, 73, 74, 75, 76, 77, 78, 79, 80, 81, 82, 83, 84] rfl (by decide +kernel)
set_option maxRecDepth 100000 in
theorem gX12_goesMany_X12_tries : GoodIn wsX12_goesMany (wsV RX12 208 RX12 yX12_tries wsX12_tries) := goodIn_app (goodIn_r ([.methodLink RX12 208 yX12_tries, .instanceMethod yX12_tries, .selects RX12 yX12_tries yX12_tries, .initialized RX12] : List Cond) [1, 2, 3, 4] rfl (by decide +kernel)) ggX12_goesMany_X12_tries
set_option maxRecDepth 100000 in
theorem ggX12_goesMany_X12_goes : GoodIn wsX12_goesMany wsX12_goes := goodIn_r _ [14, 15, 16, 17, 4, 18, 19, 20, 21, 6, 22, 23, 24, 25, 26, 27, 28, 29, 30, 31, 32, 33, 34, 35, 36, 37, 38, 39, 40, 41, 42, 43, 44, 45, 46, 47, 48, 49, 50, 51, 52, 53, 54, 55, 56, 57, 58, 59, 60, 61, 62, 63, 64, 65, 66, 67, 68, 69, 70, 71, 72, 73, 74, 75, 76, 77, 78, 79, 80, 81, 82, 83, 84] rfl (by decide +kernel)
set_option maxRecDepth 100000 in
theorem gX12_goesMany_X12_goes : GoodIn wsX12_goesMany (wsV RX12 203 RX12 yX12_goes wsX12_goes) := goodIn_app (goodIn_r ([.methodLink RX12 203 yX12_goes, .instanceMethod yX12_goes, .selects RX12 yX12_goes yX12_goes, .initialized RX12] : List Cond) [11, 12, 13, 4] rfl (by decide +kernel)) ggX12_goesMany_X12_goes
theorem dX12_goesMany_0 : decode cX12_goesMany 0 = .ok (.aload_n 0, 1) := by decide +kernel
theorem dX12_goesMany_1 : decode cX12_goesMany 1 = .ok (.invokevirtual 208, 3) := by decide +kernel
theorem dX12_goesMany_4 : decode cX12_goesMany 4 = .ok (.iconst 0, 1) := by decide +kernel
theorem dX12_goesMany_5 : decode cX12_goesMany 5 = .ok (.istore_n 2, 1) := by decide +kernel
theorem dX12_goesMany_6 : decode cX12_goesMany 6 = .ok (.iload_n 2, 1) := by decide +kernel
theorem dX12_goesMany_7 : decode cX12_goesMany 7 = .ok (.iload_n 1, 1) := by decide +kernel
theorem dX12_goesMany_8 : decode cX12_goesMany 8 = .ok (.if_icmp .ge 16, 3) := by decide +kernel
theorem dX12_goesMany_11 : decode cX12_goesMany 11 = .ok (.aload_n 0, 1) := by decide +kernel
theorem dX12_goesMany_12 : decode cX12_goesMany 12 = .ok (.bipush 120, 2) := by decide +kernel
theorem dX12_goesMany_14 : decode cX12_goesMany 14 = .ok (.invokevirtual 203, 3) := by decide +kernel
theorem dX12_goesMany_17 : decode cX12_goesMany 17 = .ok (.pop, 1) := by decide +kernel
theorem dX12_goesMany_18 : decode cX12_goesMany 18 = .ok (.iinc 2 1, 3) := by decide +kernel
theorem dX12_goesMany_21 : decode cX12_goesMany 21 = .ok (.goto (-15), 3) := by decide +kernel
theorem dX12_goesMany_24 : decode cX12_goesMany 24 = .ok (.return_, 1) := by decide +kernel
set_option maxRecDepth 100000 in
theorem ggX12_inNights_X12_in : GoodIn wsX12_inNights wsX12_in := goodIn_r _ [7] rfl (by decide +kernel)
set_option maxRecDepth 100000 in
theorem gX12_inNights_X12_in : GoodIn wsX12_inNights (va_wsS RX12 68 yX12_in wsX12_in) := goodIn_app (goodIn_r ([.methodLink RX12 68 yX12_in, .static yX12_in, .initialized RX12] : List Cond) [4, 5, 6] rfl (by decide +kernel)) ggX12_inNights_X12_in
set_option maxRecDepth 100000 in
theorem ggX12_inNights_X12_goesMany : GoodIn wsX12_inNights wsX12_goesMany := goodIn_r _ [11, 12, 13, 14, 6, 15, 3, 16, 17, 18, 19, 20, 21, 22, 23, 24, 25, 26, 27, 28, 29, 30, 31, 32, 33, 34, 35, 36, 37, 38, 39, 40, 41, 42, 43, 44, 45, 46, 47, 48, 49, 50, 51, 52, 53, 54, 55, 56, 57, 58, 59, 60, 61, 62, 63, 64, 65, 66, 67, 68, 69, 70, 71, 72, 73, 74, 75, 76, 77, 78, 79, 80, 81, 82, 83, 84, 85, 86, 87, 88, 89, 90, 91, 92, 93] rfl (by decide +kernel)
set_option maxRecDepth 100000 in
theorem gX12_inNights_X12_goesMany : GoodIn wsX12_inNights (wsV RX12 213 RX12 yX12_goesMany wsX12_goesMany) := goodIn_app (goodIn_r ([.methodLink RX12 213 yX12_goesMany, .instanceMethod yX12_goesMany, .selects RX12 yX12_goesMany yX12_goesMany, .initialized RX12] : List Cond) [8, 9, 10, 6] rfl (by decide +kernel)) ggX12_inNights_X12_goesMany
theorem dX12_inNights_0 : decode cX12_inNights 0 = .ok (.iload_n 1, 1) := by decide +kernel
theorem dX12_inNights_1 : decode cX12_inNights 1 = .ok (.i2l, 1) := by decide +kernel
theorem dX12_inNights_2 : decode cX12_inNights 2 = .ok (.lconst 0, 1) := by decide +kernel
theorem dX12_inNights_3 : decode cX12_inNights 3 = .ok (.ldc2_w 211, 3) := by decide +kernel
theorem dX12_inNights_6 : decode cX12_inNights 6 = .ok (.invokestatic 68, 3) := by decide +kernel
theorem dX12_inNights_9 : decode cX12_inNights 9 = .ok (.ifCond .eq 15, 3) := by decide +kernel
theorem dX12_inNights_12 : decode cX12_inNights 12 = .ok (.iload_n 2, 1) := by decide +kernel
theorem dX12_inNights_13 : decode cX12_inNights 13 = .ok (.i2l, 1) := by decide +kernel
theorem dX12_inNights_14 : decode cX12_inNights 14 = .ok (.lconst 0, 1) := by decide +kernel
theorem dX12_inNights_15 : decode cX12_inNights 15 = .ok (.ldc2_w 156, 3) := by decide +kernel
theorem dX12_inNights_18 : decode cX12_inNights 18 = .ok (.invokestatic 68, 3) := by decide +kernel
theorem dX12_inNights_21 : decode cX12_inNights 21 = .ok (.ifCond .ne 5, 3) := by decide +kernel
theorem dX12_inNights_24 : decode cX12_inNights 24 = .ok (.iconst (-1), 1) := by decide +kernel
theorem dX12_inNights_25 : decode cX12_inNights 25 = .ok (.ireturn, 1) := by decide +kernel
theorem dX12_inNights_26 : decode cX12_inNights 26 = .ok (.aload_n 0, 1) := by decide +kernel
theorem dX12_inNights_27 : decode cX12_inNights 27 = .ok (.iload_n 1, 1) := by decide +kernel
theorem dX12_inNights_28 : decode cX12_inNights 28 = .ok (.invokevirtual 213, 3) := by decide +kernel
theorem dX12_inNights_31 : decode cX12_inNights 31 = .ok (.aload_n 0, 1) := by decide +kernel
theorem dX12_inNights_32 : decode cX12_inNights 32 = .ok (.getfield 7, 3) := by decide +kernel
theorem dX12_inNights_35 : decode cX12_inNights 35 = .ok (.bipush 120, 2) := by decide +kernel
theorem dX12_inNights_37 : decode cX12_inNights 37 = .ok (.iaload, 1) := by decide +kernel
theorem dX12_inNights_38 : decode cX12_inNights 38 = .ok (.istore_n 3, 1) := by decide +kernel
theorem dX12_inNights_39 : decode cX12_inNights 39 = .ok (.iload_n 2, 1) := by decide +kernel
theorem dX12_inNights_40 : decode cX12_inNights 40 = .ok (.iconst 1, 1) := by decide +kernel
theorem dX12_inNights_41 : decode cX12_inNights 41 = .ok (.if_icmp .ne 7, 3) := by decide +kernel
theorem dX12_inNights_44 : decode cX12_inNights 44 = .ok (.iload_n 3, 1) := by decide +kernel
theorem dX12_inNights_45 : decode cX12_inNights 45 = .ok (.goto 39, 3) := by decide +kernel
theorem dX12_inNights_48 : decode cX12_inNights 48 = .ok (.iload_n 2, 1) := by decide +kernel
theorem dX12_inNights_49 : decode cX12_inNights 49 = .ok (.iconst 2, 1) := by decide +kernel
theorem dX12_inNights_50 : decode cX12_inNights 50 = .ok (.if_icmp .ne 13, 3) := by decide +kernel
theorem dX12_inNights_53 : decode cX12_inNights 53 = .ok (.aload_n 0, 1) := by decide +kernel
theorem dX12_inNights_54 : decode cX12_inNights 54 = .ok (.getfield 7, 3) := by decide +kernel
theorem dX12_inNights_57 : decode cX12_inNights 57 = .ok (.bipush 123, 2) := by decide +kernel
theorem dX12_inNights_59 : decode cX12_inNights 59 = .ok (.iaload, 1) := by decide +kernel
theorem dX12_inNights_60 : decode cX12_inNights 60 = .ok (.goto 24, 3) := by decide +kernel
theorem dX12_inNights_63 : decode cX12_inNights 63 = .ok (.iload_n 3, 1) := by decide +kernel
theorem dX12_inNights_64 : decode cX12_inNights 64 = .ok (.ifCond .ne 8, 3) := by decide +kernel
theorem dX12_inNights_67 : decode cX12_inNights 67 = .ok (.bipush (-9), 2) := by decide +kernel
theorem dX12_inNights_69 : decode cX12_inNights 69 = .ok (.goto 15, 3) := by decide +kernel
theorem dX12_inNights_72 : decode cX12_inNights 72 = .ok (.aload_n 0, 1) := by decide +kernel
theorem dX12_inNights_73 : decode cX12_inNights 73 = .ok (.getfield 7, 3) := by decide +kernel
theorem dX12_inNights_76 : decode cX12_inNights 76 = .ok (.sipush 136, 3) := by decide +kernel
theorem dX12_inNights_79 : decode cX12_inNights 79 = .ok (.iload_n 3, 1) := by decide +kernel
theorem dX12_inNights_80 : decode cX12_inNights 80 = .ok (.iadd, 1) := by decide +kernel
theorem dX12_inNights_81 : decode cX12_inNights 81 = .ok (.iconst 1, 1) := by decide +kernel
theorem dX12_inNights_82 : decode cX12_inNights 82 = .ok (.isub, 1) := by decide +kernel
theorem dX12_inNights_83 : decode cX12_inNights 83 = .ok (.iaload, 1) := by decide +kernel
theorem dX12_inNights_84 : decode cX12_inNights 84 = .ok (.ireturn, 1) := by decide +kernel
set_option maxRecDepth 100000 in
theorem ggX12_purseIn_X12_isBidder : GoodIn wsX12_purseIn wsX12_isBidder := goodIn_r _ [7, 8, 9, 10, 6, 11, 62, 63, 64, 65, 66, 67, 68, 69, 70, 71, 72, 73, 74, 75, 76, 77, 78, 79, 80, 81, 82, 83, 84, 85, 86, 87, 88, 89, 90, 91, 92, 93, 94, 95, 96] rfl (by decide +kernel)
set_option maxRecDepth 100000 in
theorem gX12_purseIn_X12_isBidder : GoodIn wsX12_purseIn (wsV RX12 142 RX12 yX12_isBidder wsX12_isBidder) := goodIn_app (goodIn_r ([.methodLink RX12 142 yX12_isBidder, .instanceMethod yX12_isBidder, .selects RX12 yX12_isBidder yX12_isBidder, .initialized RX12] : List Cond) [3, 4, 5, 6] rfl (by decide +kernel)) ggX12_purseIn_X12_isBidder
set_option maxRecDepth 100000 in
theorem ggX12_purseIn_X12_in : GoodIn wsX12_purseIn wsX12_in := goodIn_r _ [11] rfl (by decide +kernel)
set_option maxRecDepth 100000 in
theorem gX12_purseIn_X12_in : GoodIn wsX12_purseIn (va_wsS RX12 68 yX12_in wsX12_in) := goodIn_app (goodIn_r ([.methodLink RX12 68 yX12_in, .static yX12_in, .initialized RX12] : List Cond) [9, 10, 6] rfl (by decide +kernel)) ggX12_purseIn_X12_in
set_option maxRecDepth 100000 in
theorem ggX12_purseIn_X12_goesMany : GoodIn wsX12_purseIn wsX12_goesMany := goodIn_r _ [15, 16, 17, 18, 6, 19, 2, 20, 21, 22, 23, 24, 25, 26, 27, 28, 29, 30, 31, 32, 8, 33, 34, 35, 36, 37, 38, 39, 40, 41, 42, 43, 44, 45, 46, 47, 48, 49, 50, 51, 52, 53, 54, 55, 56, 57, 58, 59, 60, 61, 62, 63, 64, 65, 66, 67, 68, 69, 70, 71, 72, 73, 74, 75, 76, 77, 78, 79, 80, 81, 82, 83, 84, 85, 86, 87, 88, 89, 90, 91, 92, 93, 94, 95, 96] rfl (by decide +kernel)
set_option maxRecDepth 100000 in
theorem gX12_purseIn_X12_goesMany : GoodIn wsX12_purseIn (wsV RX12 213 RX12 yX12_goesMany wsX12_goesMany) := goodIn_app (goodIn_r ([.methodLink RX12 213 yX12_goesMany, .instanceMethod yX12_goesMany, .selects RX12 yX12_goesMany yX12_goesMany, .initialized RX12] : List Cond) [12, 13, 14, 6] rfl (by decide +kernel)) ggX12_purseIn_X12_goesMany
theorem dX12_purseIn_0 : decode cX12_purseIn 0 = .ok (.aload_n 0, 1) := by decide +kernel
theorem dX12_purseIn_1 : decode cX12_purseIn 1 = .ok (.iload_n 1, 1) := by decide +kernel
theorem dX12_purseIn_2 : decode cX12_purseIn 2 = .ok (.invokevirtual 142, 3) := by decide +kernel
theorem dX12_purseIn_5 : decode cX12_purseIn 5 = .ok (.ifCond .eq 15, 3) := by decide +kernel
theorem dX12_purseIn_8 : decode cX12_purseIn 8 = .ok (.iload_n 2, 1) := by decide +kernel
theorem dX12_purseIn_9 : decode cX12_purseIn 9 = .ok (.i2l, 1) := by decide +kernel
theorem dX12_purseIn_10 : decode cX12_purseIn 10 = .ok (.lconst 0, 1) := by decide +kernel
theorem dX12_purseIn_11 : decode cX12_purseIn 11 = .ok (.ldc2_w 211, 3) := by decide +kernel
theorem dX12_purseIn_14 : decode cX12_purseIn 14 = .ok (.invokestatic 68, 3) := by decide +kernel
theorem dX12_purseIn_17 : decode cX12_purseIn 17 = .ok (.ifCond .ne 5, 3) := by decide +kernel
theorem dX12_purseIn_20 : decode cX12_purseIn 20 = .ok (.iconst (-1), 1) := by decide +kernel
theorem dX12_purseIn_21 : decode cX12_purseIn 21 = .ok (.ireturn, 1) := by decide +kernel
theorem dX12_purseIn_22 : decode cX12_purseIn 22 = .ok (.aload_n 0, 1) := by decide +kernel
theorem dX12_purseIn_23 : decode cX12_purseIn 23 = .ok (.iload_n 2, 1) := by decide +kernel
theorem dX12_purseIn_24 : decode cX12_purseIn 24 = .ok (.invokevirtual 213, 3) := by decide +kernel
theorem dX12_purseIn_27 : decode cX12_purseIn 27 = .ok (.aload_n 0, 1) := by decide +kernel
theorem dX12_purseIn_28 : decode cX12_purseIn 28 = .ok (.getfield 7, 3) := by decide +kernel
theorem dX12_purseIn_31 : decode cX12_purseIn 31 = .ok (.bipush 126, 2) := by decide +kernel
theorem dX12_purseIn_33 : decode cX12_purseIn 33 = .ok (.iload_n 1, 1) := by decide +kernel
theorem dX12_purseIn_34 : decode cX12_purseIn 34 = .ok (.iadd, 1) := by decide +kernel
theorem dX12_purseIn_35 : decode cX12_purseIn 35 = .ok (.iaload, 1) := by decide +kernel
theorem dX12_purseIn_36 : decode cX12_purseIn 36 = .ok (.ireturn, 1) := by decide +kernel
set_option maxRecDepth 100000 in
theorem ggX12_falls_X12_isDebt : GoodIn wsX12_falls wsX12_isDebt := goodIn_r _ [6, 7, 8, 9, 5, 10, 57, 58, 59, 60, 61, 62, 63, 64, 65, 66, 67, 68, 69, 70, 71, 72, 73, 74, 75, 76, 77, 78, 79, 80, 81, 82, 83, 84, 85, 86, 87, 88, 89, 90, 91] rfl (by decide +kernel)
set_option maxRecDepth 100000 in
theorem gX12_falls_X12_isDebt : GoodIn wsX12_falls (wsV RX12 148 RX12 yX12_isDebt wsX12_isDebt) := goodIn_app (goodIn_r ([.methodLink RX12 148 yX12_isDebt, .instanceMethod yX12_isDebt, .selects RX12 yX12_isDebt yX12_isDebt, .initialized RX12] : List Cond) [2, 3, 4, 5] rfl (by decide +kernel)) ggX12_falls_X12_isDebt
set_option maxRecDepth 100000 in
theorem ggX12_falls_X12_tries : GoodIn wsX12_falls wsX12_tries := goodIn_r _ [14, 1, 15, 16, 17, 5, 18, 57, 58, 59, 60, 61, 62, 63, 64, 65, 66, 67, 68, 69, 70, 71, 72, 73, 74, 75, 76, 77, 78, 79, 80, 81, 82, 83, 84, 85, 86, 87, 88, 89, 90, 91] rfl (by decide +kernel)
set_option maxRecDepth 100000 in
theorem gX12_falls_X12_tries : GoodIn wsX12_falls (wsV RX12 208 RX12 yX12_tries wsX12_tries) := goodIn_app (goodIn_r ([.methodLink RX12 208 yX12_tries, .instanceMethod yX12_tries, .selects RX12 yX12_tries yX12_tries, .initialized RX12] : List Cond) [11, 12, 13, 5] rfl (by decide +kernel)) ggX12_falls_X12_tries
set_option maxRecDepth 100000 in
theorem ggX12_falls_X12_goes : GoodIn wsX12_falls wsX12_goes := goodIn_r _ [22, 23, 24, 25, 5, 26, 27, 28, 29, 1, 30, 31, 32, 33, 34, 35, 36, 37, 38, 39, 40, 41, 42, 43, 44, 45, 46, 47, 48, 49, 50, 51, 7, 52, 53, 54, 55, 56, 57, 58, 59, 60, 61, 62, 63, 64, 65, 66, 67, 68, 69, 70, 71, 72, 73, 74, 75, 76, 77, 78, 79, 80, 81, 82, 83, 84, 85, 86, 87, 88, 89, 90, 91] rfl (by decide +kernel)
set_option maxRecDepth 100000 in
theorem gX12_falls_X12_goes : GoodIn wsX12_falls (wsV RX12 203 RX12 yX12_goes wsX12_goes) := goodIn_app (goodIn_r ([.methodLink RX12 203 yX12_goes, .instanceMethod yX12_goes, .selects RX12 yX12_goes yX12_goes, .initialized RX12] : List Cond) [19, 20, 21, 5] rfl (by decide +kernel)) ggX12_falls_X12_goes
theorem dX12_falls_0 : decode cX12_falls 0 = .ok (.aload_n 0, 1) := by decide +kernel
theorem dX12_falls_1 : decode cX12_falls 1 = .ok (.iload_n 1, 1) := by decide +kernel
theorem dX12_falls_2 : decode cX12_falls 2 = .ok (.invokevirtual 148, 3) := by decide +kernel
theorem dX12_falls_5 : decode cX12_falls 5 = .ok (.ifCond .ne 5, 3) := by decide +kernel
theorem dX12_falls_8 : decode cX12_falls 8 = .ok (.iconst (-1), 1) := by decide +kernel
theorem dX12_falls_9 : decode cX12_falls 9 = .ok (.ireturn, 1) := by decide +kernel
theorem dX12_falls_10 : decode cX12_falls 10 = .ok (.aload_n 0, 1) := by decide +kernel
theorem dX12_falls_11 : decode cX12_falls 11 = .ok (.invokevirtual 208, 3) := by decide +kernel
theorem dX12_falls_14 : decode cX12_falls 14 = .ok (.iconst 0, 1) := by decide +kernel
theorem dX12_falls_15 : decode cX12_falls 15 = .ok (.istore_n 2, 1) := by decide +kernel
theorem dX12_falls_16 : decode cX12_falls 16 = .ok (.iload_n 2, 1) := by decide +kernel
theorem dX12_falls_17 : decode cX12_falls 17 = .ok (.bipush 40, 2) := by decide +kernel
theorem dX12_falls_19 : decode cX12_falls 19 = .ok (.if_icmp .gt 31, 3) := by decide +kernel
theorem dX12_falls_22 : decode cX12_falls 22 = .ok (.aload_n 0, 1) := by decide +kernel
theorem dX12_falls_23 : decode cX12_falls 23 = .ok (.getfield 7, 3) := by decide +kernel
theorem dX12_falls_26 : decode cX12_falls 26 = .ok (.sipush 130, 3) := by decide +kernel
theorem dX12_falls_29 : decode cX12_falls 29 = .ok (.iload_n 1, 1) := by decide +kernel
theorem dX12_falls_30 : decode cX12_falls 30 = .ok (.iadd, 1) := by decide +kernel
theorem dX12_falls_31 : decode cX12_falls 31 = .ok (.iaload, 1) := by decide +kernel
theorem dX12_falls_32 : decode cX12_falls 32 = .ok (.ifCond .eq 5, 3) := by decide +kernel
theorem dX12_falls_35 : decode cX12_falls 35 = .ok (.iload_n 2, 1) := by decide +kernel
theorem dX12_falls_36 : decode cX12_falls 36 = .ok (.ireturn, 1) := by decide +kernel
theorem dX12_falls_37 : decode cX12_falls 37 = .ok (.aload_n 0, 1) := by decide +kernel
theorem dX12_falls_38 : decode cX12_falls 38 = .ok (.bipush 120, 2) := by decide +kernel
theorem dX12_falls_40 : decode cX12_falls 40 = .ok (.invokevirtual 203, 3) := by decide +kernel
theorem dX12_falls_43 : decode cX12_falls 43 = .ok (.pop, 1) := by decide +kernel
theorem dX12_falls_44 : decode cX12_falls 44 = .ok (.iinc 2 1, 3) := by decide +kernel
theorem dX12_falls_47 : decode cX12_falls 47 = .ok (.goto (-31), 3) := by decide +kernel
theorem dX12_falls_50 : decode cX12_falls 50 = .ok (.bipush (-9), 2) := by decide +kernel
theorem dX12_falls_52 : decode cX12_falls 52 = .ok (.ireturn, 1) := by decide +kernel
set_option maxRecDepth 100000 in
theorem ggX12_buy_X12_isName : GoodIn wsX12_buy wsX12_isName := goodIn_r _ [8, 9, 10, 11, 7, 12] rfl (by decide +kernel)
set_option maxRecDepth 100000 in
theorem gX12_buy_X12_isName : GoodIn wsX12_buy (va_wsS RX12 153 yX12_isName wsX12_isName) := goodIn_app (goodIn_r ([.methodLink RX12 153 yX12_isName, .static yX12_isName, .initialized RX12] : List Cond) [5, 6, 7] rfl (by decide +kernel)) ggX12_buy_X12_isName
set_option maxRecDepth 100000 in
theorem ggX12_buy_X12_in : GoodIn wsX12_buy wsX12_in := goodIn_r _ [12] rfl (by decide +kernel)
set_option maxRecDepth 100000 in
theorem gX12_buy_X12_in : GoodIn wsX12_buy (va_wsS RX12 68 yX12_in wsX12_in) := goodIn_app (goodIn_r ([.methodLink RX12 68 yX12_in, .static yX12_in, .initialized RX12] : List Cond) [10, 11, 7] rfl (by decide +kernel)) ggX12_buy_X12_in
set_option maxRecDepth 100000 in
theorem ggX12_buy_X12_tries : GoodIn wsX12_buy wsX12_tries := goodIn_r _ [16, 17, 18, 19, 20, 7, 21, 58, 59, 60, 61, 62, 63, 64, 65, 66, 67, 68, 69, 70, 71, 72, 73, 74, 75, 76, 77, 78, 79, 80, 81, 82, 83, 84, 85, 86, 87, 88, 89, 90, 91, 92] rfl (by decide +kernel)
set_option maxRecDepth 100000 in
theorem gX12_buy_X12_tries : GoodIn wsX12_buy (wsV RX12 208 RX12 yX12_tries wsX12_tries) := goodIn_app (goodIn_r ([.methodLink RX12 208 yX12_tries, .instanceMethod yX12_tries, .selects RX12 yX12_tries yX12_tries, .initialized RX12] : List Cond) [13, 14, 15, 7] rfl (by decide +kernel)) ggX12_buy_X12_tries
set_option maxRecDepth 100000 in
theorem ggX12_buy_X12_bidsOf : GoodIn wsX12_buy wsX12_bidsOf := goodIn_r _ [25, 26, 27, 28, 17, 3, 29, 30, 31, 7, 32, 33, 58, 59, 60, 61, 62, 63, 64, 65, 66, 67, 68, 69, 70, 71, 72, 73, 74, 75, 76, 77, 78, 79, 80, 81, 82, 83, 84, 85, 86, 87, 88, 89, 90, 91, 92] rfl (by decide +kernel)
set_option maxRecDepth 100000 in
theorem gX12_buy_X12_bidsOf : GoodIn wsX12_buy (wsV RX12 181 RX12 yX12_bidsOf wsX12_bidsOf) := goodIn_app (goodIn_r ([.methodLink RX12 181 yX12_bidsOf, .instanceMethod yX12_bidsOf, .selects RX12 yX12_bidsOf yX12_bidsOf, .initialized RX12] : List Cond) [22, 23, 24, 7] rfl (by decide +kernel)) ggX12_buy_X12_bidsOf
set_option maxRecDepth 100000 in
theorem ggX12_buy_X12_sells : GoodIn wsX12_buy wsX12_sells := goodIn_r _ [37, 2, 4, 26, 38, 58, 59, 60, 61, 62, 63, 64, 65, 66, 67, 68, 69, 70, 71, 72, 73, 74, 75, 76, 77, 78, 79, 80, 81, 82, 83, 84, 85, 86, 87, 88, 89, 90, 91, 92] rfl (by decide +kernel)
set_option maxRecDepth 100000 in
theorem gX12_buy_X12_sells : GoodIn wsX12_buy (wsV RX12 174 RX12 yX12_sells wsX12_sells) := goodIn_app (goodIn_r ([.methodLink RX12 174 yX12_sells, .instanceMethod yX12_sells, .selects RX12 yX12_sells yX12_sells, .initialized RX12] : List Cond) [34, 35, 36, 7] rfl (by decide +kernel)) ggX12_buy_X12_sells
set_option maxRecDepth 100000 in
theorem ggX12_buy_X12_isBarred : GoodIn wsX12_buy wsX12_isBarred := goodIn_r _ [32, 33, 17, 58, 59, 60, 61, 62, 63, 64, 65, 66, 67, 68, 69, 70, 71, 72, 73, 74, 75, 76, 77, 78, 79, 80, 81, 82, 83, 84, 85, 86, 87, 88, 89, 90, 91, 92] rfl (by decide +kernel)
set_option maxRecDepth 100000 in
theorem gX12_buy_X12_isBarred : GoodIn wsX12_buy (wsV RX12 162 RX12 yX12_isBarred wsX12_isBarred) := goodIn_app (goodIn_r ([.methodLink RX12 162 yX12_isBarred, .instanceMethod yX12_isBarred, .selects RX12 yX12_isBarred yX12_isBarred, .initialized RX12] : List Cond) [29, 30, 31, 7] rfl (by decide +kernel)) ggX12_buy_X12_isBarred
set_option maxRecDepth 100000 in
theorem ggX12_buy_X12_goes : GoodIn wsX12_buy wsX12_goes := goodIn_r _ [42, 22, 23, 24, 7, 25, 26, 27, 28, 17, 3, 29, 30, 31, 32, 33, 43, 44, 45, 46, 2, 38, 34, 35, 36, 37, 4, 47, 48, 49, 50, 51, 52, 53, 54, 55, 56, 57, 58, 59, 60, 61, 62, 63, 64, 65, 66, 67, 68, 69, 70, 71, 72, 73, 74, 75, 76, 77, 78, 79, 80, 81, 82, 83, 84, 85, 86, 87, 88, 89, 90, 91, 92] rfl (by decide +kernel)
set_option maxRecDepth 100000 in
theorem gX12_buy_X12_goes : GoodIn wsX12_buy (wsV RX12 203 RX12 yX12_goes wsX12_goes) := goodIn_app (goodIn_r ([.methodLink RX12 203 yX12_goes, .instanceMethod yX12_goes, .selects RX12 yX12_goes yX12_goes, .initialized RX12] : List Cond) [39, 40, 41, 7] rfl (by decide +kernel)) ggX12_buy_X12_goes
theorem dX12_buy_0 : decode cX12_buy 0 = .ok (.iload_n 1, 1) := by decide +kernel
theorem dX12_buy_1 : decode cX12_buy 1 = .ok (.invokestatic 153, 3) := by decide +kernel
theorem dX12_buy_4 : decode cX12_buy 4 = .ok (.ifCond .eq 25, 3) := by decide +kernel
theorem dX12_buy_7 : decode cX12_buy 7 = .ok (.iload_n 2, 1) := by decide +kernel
theorem dX12_buy_8 : decode cX12_buy 8 = .ok (.i2l, 1) := by decide +kernel
theorem dX12_buy_9 : decode cX12_buy 9 = .ok (.lconst 1, 1) := by decide +kernel
theorem dX12_buy_10 : decode cX12_buy 10 = .ok (.ldc2_w 216, 3) := by decide +kernel
theorem dX12_buy_13 : decode cX12_buy 13 = .ok (.invokestatic 68, 3) := by decide +kernel
theorem dX12_buy_16 : decode cX12_buy 16 = .ok (.ifCond .eq 13, 3) := by decide +kernel
theorem dX12_buy_19 : decode cX12_buy 19 = .ok (.iload_n 3, 1) := by decide +kernel
theorem dX12_buy_20 : decode cX12_buy 20 = .ok (.i2l, 1) := by decide +kernel
theorem dX12_buy_21 : decode cX12_buy 21 = .ok (.lconst 0, 1) := by decide +kernel
theorem dX12_buy_22 : decode cX12_buy 22 = .ok (.lconst 1, 1) := by decide +kernel
theorem dX12_buy_23 : decode cX12_buy 23 = .ok (.invokestatic 68, 3) := by decide +kernel
theorem dX12_buy_26 : decode cX12_buy 26 = .ok (.ifCond .ne 5, 3) := by decide +kernel
theorem dX12_buy_29 : decode cX12_buy 29 = .ok (.iconst (-1), 1) := by decide +kernel
theorem dX12_buy_30 : decode cX12_buy 30 = .ok (.ireturn, 1) := by decide +kernel
theorem dX12_buy_31 : decode cX12_buy 31 = .ok (.bipush (-9), 2) := by decide +kernel
theorem dX12_buy_33 : decode cX12_buy 33 = .ok (.istore 4, 2) := by decide +kernel
theorem dX12_buy_35 : decode cX12_buy 35 = .ok (.bipush 41, 2) := by decide +kernel
theorem dX12_buy_37 : decode cX12_buy 37 = .ok (.istore 5, 2) := by decide +kernel
theorem dX12_buy_39 : decode cX12_buy 39 = .ok (.aload_n 0, 1) := by decide +kernel
theorem dX12_buy_40 : decode cX12_buy 40 = .ok (.invokevirtual 208, 3) := by decide +kernel
theorem dX12_buy_43 : decode cX12_buy 43 = .ok (.iconst 1, 1) := by decide +kernel
theorem dX12_buy_44 : decode cX12_buy 44 = .ok (.istore 6, 2) := by decide +kernel
theorem dX12_buy_46 : decode cX12_buy 46 = .ok (.iload 6, 2) := by decide +kernel
theorem dX12_buy_48 : decode cX12_buy 48 = .ok (.iload_n 2, 1) := by decide +kernel
theorem dX12_buy_49 : decode cX12_buy 49 = .ok (.if_icmp .gt 119, 3) := by decide +kernel
theorem dX12_buy_52 : decode cX12_buy 52 = .ok (.aload_n 0, 1) := by decide +kernel
theorem dX12_buy_53 : decode cX12_buy 53 = .ok (.bipush 120, 2) := by decide +kernel
theorem dX12_buy_55 : decode cX12_buy 55 = .ok (.invokevirtual 181, 3) := by decide +kernel
theorem dX12_buy_58 : decode cX12_buy 58 = .ok (.aload_n 0, 1) := by decide +kernel
theorem dX12_buy_59 : decode cX12_buy 59 = .ok (.invokevirtual 174, 3) := by decide +kernel
theorem dX12_buy_62 : decode cX12_buy 62 = .ok (.aload_n 0, 1) := by decide +kernel
theorem dX12_buy_63 : decode cX12_buy 63 = .ok (.bipush 120, 2) := by decide +kernel
theorem dX12_buy_65 : decode cX12_buy 65 = .ok (.iload_n 1, 1) := by decide +kernel
theorem dX12_buy_66 : decode cX12_buy 66 = .ok (.invokevirtual 162, 3) := by decide +kernel
theorem dX12_buy_69 : decode cX12_buy 69 = .ok (.ifCond .ne 7, 3) := by decide +kernel
theorem dX12_buy_72 : decode cX12_buy 72 = .ok (.iconst 1, 1) := by decide +kernel
theorem dX12_buy_73 : decode cX12_buy 73 = .ok (.goto 4, 3) := by decide +kernel
theorem dX12_buy_76 : decode cX12_buy 76 = .ok (.iconst 0, 1) := by decide +kernel
theorem dX12_buy_77 : decode cX12_buy 77 = .ok (.istore 7, 2) := by decide +kernel
theorem dX12_buy_79 : decode cX12_buy 79 = .ok (.aload_n 0, 1) := by decide +kernel
theorem dX12_buy_80 : decode cX12_buy 80 = .ok (.getfield 165, 3) := by decide +kernel
theorem dX12_buy_83 : decode cX12_buy 83 = .ok (.bipush (-9), 2) := by decide +kernel
theorem dX12_buy_85 : decode cX12_buy 85 = .ok (.if_icmp .eq 20, 3) := by decide +kernel
theorem dX12_buy_88 : decode cX12_buy 88 = .ok (.aload_n 0, 1) := by decide +kernel
theorem dX12_buy_89 : decode cX12_buy 89 = .ok (.getfield 60, 3) := by decide +kernel
theorem dX12_buy_92 : decode cX12_buy 92 = .ok (.aload_n 0, 1) := by decide +kernel
theorem dX12_buy_93 : decode cX12_buy 93 = .ok (.getfield 165, 3) := by decide +kernel
theorem dX12_buy_96 : decode cX12_buy 96 = .ok (.iaload, 1) := by decide +kernel
theorem dX12_buy_97 : decode cX12_buy 97 = .ok (.iload_n 1, 1) := by decide +kernel
theorem dX12_buy_98 : decode cX12_buy 98 = .ok (.if_icmp .ne 7, 3) := by decide +kernel
theorem dX12_buy_101 : decode cX12_buy 101 = .ok (.iconst 0, 1) := by decide +kernel
theorem dX12_buy_102 : decode cX12_buy 102 = .ok (.goto 9, 3) := by decide +kernel
theorem dX12_buy_105 : decode cX12_buy 105 = .ok (.aload_n 0, 1) := by decide +kernel
theorem dX12_buy_106 : decode cX12_buy 106 = .ok (.getfield 168, 3) := by decide +kernel
theorem dX12_buy_109 : decode cX12_buy 109 = .ok (.iconst 1, 1) := by decide +kernel
theorem dX12_buy_110 : decode cX12_buy 110 = .ok (.iadd, 1) := by decide +kernel
theorem dX12_buy_111 : decode cX12_buy 111 = .ok (.istore 8, 2) := by decide +kernel
theorem dX12_buy_113 : decode cX12_buy 113 = .ok (.iload 7, 2) := by decide +kernel
theorem dX12_buy_115 : decode cX12_buy 115 = .ok (.ifCond .eq 15, 3) := by decide +kernel
theorem dX12_buy_118 : decode cX12_buy 118 = .ok (.iload 8, 2) := by decide +kernel
theorem dX12_buy_120 : decode cX12_buy 120 = .ok (.iload 5, 2) := by decide +kernel
theorem dX12_buy_122 : decode cX12_buy 122 = .ok (.if_icmp .ge 8, 3) := by decide +kernel
theorem dX12_buy_125 : decode cX12_buy 125 = .ok (.iload 6, 2) := by decide +kernel
theorem dX12_buy_127 : decode cX12_buy 127 = .ok (.goto 5, 3) := by decide +kernel
theorem dX12_buy_130 : decode cX12_buy 130 = .ok (.iload 4, 2) := by decide +kernel
theorem dX12_buy_132 : decode cX12_buy 132 = .ok (.istore 4, 2) := by decide +kernel
theorem dX12_buy_134 : decode cX12_buy 134 = .ok (.iload 7, 2) := by decide +kernel
theorem dX12_buy_136 : decode cX12_buy 136 = .ok (.ifCond .eq 15, 3) := by decide +kernel
theorem dX12_buy_139 : decode cX12_buy 139 = .ok (.iload 8, 2) := by decide +kernel
theorem dX12_buy_141 : decode cX12_buy 141 = .ok (.iload 5, 2) := by decide +kernel
theorem dX12_buy_143 : decode cX12_buy 143 = .ok (.if_icmp .ge 8, 3) := by decide +kernel
theorem dX12_buy_146 : decode cX12_buy 146 = .ok (.iload 8, 2) := by decide +kernel
theorem dX12_buy_148 : decode cX12_buy 148 = .ok (.goto 5, 3) := by decide +kernel
theorem dX12_buy_151 : decode cX12_buy 151 = .ok (.iload 5, 2) := by decide +kernel
theorem dX12_buy_153 : decode cX12_buy 153 = .ok (.istore 5, 2) := by decide +kernel
theorem dX12_buy_155 : decode cX12_buy 155 = .ok (.aload_n 0, 1) := by decide +kernel
theorem dX12_buy_156 : decode cX12_buy 156 = .ok (.bipush 120, 2) := by decide +kernel
theorem dX12_buy_158 : decode cX12_buy 158 = .ok (.invokevirtual 203, 3) := by decide +kernel
theorem dX12_buy_161 : decode cX12_buy 161 = .ok (.pop, 1) := by decide +kernel
theorem dX12_buy_162 : decode cX12_buy 162 = .ok (.iinc 6 1, 3) := by decide +kernel
theorem dX12_buy_165 : decode cX12_buy 165 = .ok (.goto (-119), 3) := by decide +kernel
theorem dX12_buy_168 : decode cX12_buy 168 = .ok (.iload 4, 2) := by decide +kernel
theorem dX12_buy_170 : decode cX12_buy 170 = .ok (.bipush (-9), 2) := by decide +kernel
theorem dX12_buy_172 : decode cX12_buy 172 = .ok (.if_icmp .eq 7, 3) := by decide +kernel
theorem dX12_buy_175 : decode cX12_buy 175 = .ok (.iload_n 3, 1) := by decide +kernel
theorem dX12_buy_176 : decode cX12_buy 176 = .ok (.ifCond .ne 8, 3) := by decide +kernel
theorem dX12_buy_179 : decode cX12_buy 179 = .ok (.iload 4, 2) := by decide +kernel
theorem dX12_buy_181 : decode cX12_buy 181 = .ok (.goto 5, 3) := by decide +kernel
theorem dX12_buy_184 : decode cX12_buy 184 = .ok (.iload 5, 2) := by decide +kernel
theorem dX12_buy_186 : decode cX12_buy 186 = .ok (.ireturn, 1) := by decide +kernel
set_option maxRecDepth 100000 in
theorem ggX12_hold_X12_isName : GoodIn wsX12_hold wsX12_isName := goodIn_r _ [7, 8, 9, 10, 6, 11] rfl (by decide +kernel)
set_option maxRecDepth 100000 in
theorem gX12_hold_X12_isName : GoodIn wsX12_hold (va_wsS RX12 153 yX12_isName wsX12_isName) := goodIn_app (goodIn_r ([.methodLink RX12 153 yX12_isName, .static yX12_isName, .initialized RX12] : List Cond) [4, 5, 6] rfl (by decide +kernel)) ggX12_hold_X12_isName
set_option maxRecDepth 100000 in
theorem ggX12_hold_X12_in : GoodIn wsX12_hold wsX12_in := goodIn_r _ [11] rfl (by decide +kernel)
set_option maxRecDepth 100000 in
theorem gX12_hold_X12_in : GoodIn wsX12_hold (va_wsS RX12 68 yX12_in wsX12_in) := goodIn_app (goodIn_r ([.methodLink RX12 68 yX12_in, .static yX12_in, .initialized RX12] : List Cond) [9, 10, 6] rfl (by decide +kernel)) ggX12_hold_X12_in
set_option maxRecDepth 100000 in
theorem ggX12_hold_X12_tries : GoodIn wsX12_hold wsX12_tries := goodIn_r _ [15, 2, 16, 17, 18, 6, 19, 58, 59, 60, 61, 62, 63, 64, 65, 66, 67, 68, 69, 70, 71, 72, 73, 74, 75, 76, 77, 78, 79, 80, 81, 82, 83, 84, 85, 86, 87, 88, 89, 90, 91, 92] rfl (by decide +kernel)
set_option maxRecDepth 100000 in
theorem gX12_hold_X12_tries : GoodIn wsX12_hold (wsV RX12 208 RX12 yX12_tries wsX12_tries) := goodIn_app (goodIn_r ([.methodLink RX12 208 yX12_tries, .instanceMethod yX12_tries, .selects RX12 yX12_tries yX12_tries, .initialized RX12] : List Cond) [12, 13, 14, 6] rfl (by decide +kernel)) ggX12_hold_X12_tries
set_option maxRecDepth 100000 in
theorem ggX12_hold_X12_isBarred : GoodIn wsX12_hold wsX12_isBarred := goodIn_r _ [23, 24, 2, 58, 59, 60, 61, 62, 63, 64, 65, 66, 67, 68, 69, 70, 71, 72, 73, 74, 75, 76, 77, 78, 79, 80, 81, 82, 83, 84, 85, 86, 87, 88, 89, 90, 91, 92] rfl (by decide +kernel)
set_option maxRecDepth 100000 in
theorem gX12_hold_X12_isBarred : GoodIn wsX12_hold (wsV RX12 162 RX12 yX12_isBarred wsX12_isBarred) := goodIn_app (goodIn_r ([.methodLink RX12 162 yX12_isBarred, .instanceMethod yX12_isBarred, .selects RX12 yX12_isBarred yX12_isBarred, .initialized RX12] : List Cond) [20, 21, 22, 6] rfl (by decide +kernel)) ggX12_hold_X12_isBarred
set_option maxRecDepth 100000 in
theorem ggX12_hold_X12_bidsOf : GoodIn wsX12_hold wsX12_bidsOf := goodIn_r _ [28, 29, 30, 31, 2, 32, 20, 21, 22, 6, 23, 24, 58, 59, 60, 61, 62, 63, 64, 65, 66, 67, 68, 69, 70, 71, 72, 73, 74, 75, 76, 77, 78, 79, 80, 81, 82, 83, 84, 85, 86, 87, 88, 89, 90, 91, 92] rfl (by decide +kernel)
set_option maxRecDepth 100000 in
theorem gX12_hold_X12_bidsOf : GoodIn wsX12_hold (wsV RX12 181 RX12 yX12_bidsOf wsX12_bidsOf) := goodIn_app (goodIn_r ([.methodLink RX12 181 yX12_bidsOf, .instanceMethod yX12_bidsOf, .selects RX12 yX12_bidsOf yX12_bidsOf, .initialized RX12] : List Cond) [25, 26, 27, 6] rfl (by decide +kernel)) ggX12_hold_X12_bidsOf
set_option maxRecDepth 100000 in
theorem ggX12_hold_X12_sells : GoodIn wsX12_hold wsX12_sells := goodIn_r _ [36, 37, 3, 29, 38, 58, 59, 60, 61, 62, 63, 64, 65, 66, 67, 68, 69, 70, 71, 72, 73, 74, 75, 76, 77, 78, 79, 80, 81, 82, 83, 84, 85, 86, 87, 88, 89, 90, 91, 92] rfl (by decide +kernel)
set_option maxRecDepth 100000 in
theorem gX12_hold_X12_sells : GoodIn wsX12_hold (wsV RX12 174 RX12 yX12_sells wsX12_sells) := goodIn_app (goodIn_r ([.methodLink RX12 174 yX12_sells, .instanceMethod yX12_sells, .selects RX12 yX12_sells yX12_sells, .initialized RX12] : List Cond) [33, 34, 35, 6] rfl (by decide +kernel)) ggX12_hold_X12_sells
set_option maxRecDepth 100000 in
theorem ggX12_hold_X12_goes : GoodIn wsX12_hold wsX12_goes := goodIn_r _ [42, 25, 26, 27, 6, 28, 29, 30, 31, 2, 32, 20, 21, 22, 23, 24, 43, 44, 45, 46, 37, 38, 33, 34, 35, 36, 3, 47, 48, 49, 50, 51, 52, 53, 54, 55, 56, 57, 58, 59, 60, 61, 62, 63, 64, 65, 66, 67, 68, 69, 70, 71, 72, 73, 74, 75, 76, 77, 78, 79, 80, 81, 82, 83, 84, 85, 86, 87, 88, 89, 90, 91, 92] rfl (by decide +kernel)
set_option maxRecDepth 100000 in
theorem gX12_hold_X12_goes : GoodIn wsX12_hold (wsV RX12 203 RX12 yX12_goes wsX12_goes) := goodIn_app (goodIn_r ([.methodLink RX12 203 yX12_goes, .instanceMethod yX12_goes, .selects RX12 yX12_goes yX12_goes, .initialized RX12] : List Cond) [39, 40, 41, 6] rfl (by decide +kernel)) ggX12_hold_X12_goes
theorem dX12_hold_0 : decode cX12_hold 0 = .ok (.iload_n 1, 1) := by decide +kernel
theorem dX12_hold_1 : decode cX12_hold 1 = .ok (.invokestatic 153, 3) := by decide +kernel
theorem dX12_hold_4 : decode cX12_hold 4 = .ok (.ifCond .eq 25, 3) := by decide +kernel
theorem dX12_hold_7 : decode cX12_hold 7 = .ok (.iload_n 2, 1) := by decide +kernel
theorem dX12_hold_8 : decode cX12_hold 8 = .ok (.i2l, 1) := by decide +kernel
theorem dX12_hold_9 : decode cX12_hold 9 = .ok (.lconst 1, 1) := by decide +kernel
theorem dX12_hold_10 : decode cX12_hold 10 = .ok (.ldc2_w 146, 3) := by decide +kernel
theorem dX12_hold_13 : decode cX12_hold 13 = .ok (.invokestatic 68, 3) := by decide +kernel
theorem dX12_hold_16 : decode cX12_hold 16 = .ok (.ifCond .eq 13, 3) := by decide +kernel
theorem dX12_hold_19 : decode cX12_hold 19 = .ok (.iload_n 3, 1) := by decide +kernel
theorem dX12_hold_20 : decode cX12_hold 20 = .ok (.i2l, 1) := by decide +kernel
theorem dX12_hold_21 : decode cX12_hold 21 = .ok (.lconst 0, 1) := by decide +kernel
theorem dX12_hold_22 : decode cX12_hold 22 = .ok (.lconst 1, 1) := by decide +kernel
theorem dX12_hold_23 : decode cX12_hold 23 = .ok (.invokestatic 68, 3) := by decide +kernel
theorem dX12_hold_26 : decode cX12_hold 26 = .ok (.ifCond .ne 5, 3) := by decide +kernel
theorem dX12_hold_29 : decode cX12_hold 29 = .ok (.iconst (-1), 1) := by decide +kernel
theorem dX12_hold_30 : decode cX12_hold 30 = .ok (.ireturn, 1) := by decide +kernel
theorem dX12_hold_31 : decode cX12_hold 31 = .ok (.iconst 0, 1) := by decide +kernel
theorem dX12_hold_32 : decode cX12_hold 32 = .ok (.istore 4, 2) := by decide +kernel
theorem dX12_hold_34 : decode cX12_hold 34 = .ok (.aload_n 0, 1) := by decide +kernel
theorem dX12_hold_35 : decode cX12_hold 35 = .ok (.invokevirtual 208, 3) := by decide +kernel
theorem dX12_hold_38 : decode cX12_hold 38 = .ok (.aload_n 0, 1) := by decide +kernel
theorem dX12_hold_39 : decode cX12_hold 39 = .ok (.getfield 7, 3) := by decide +kernel
theorem dX12_hold_42 : decode cX12_hold 42 = .ok (.bipush 122, 2) := by decide +kernel
theorem dX12_hold_44 : decode cX12_hold 44 = .ok (.iaload, 1) := by decide +kernel
theorem dX12_hold_45 : decode cX12_hold 45 = .ok (.istore 5, 2) := by decide +kernel
theorem dX12_hold_47 : decode cX12_hold 47 = .ok (.iconst 0, 1) := by decide +kernel
theorem dX12_hold_48 : decode cX12_hold 48 = .ok (.istore 6, 2) := by decide +kernel
theorem dX12_hold_50 : decode cX12_hold 50 = .ok (.iload 6, 2) := by decide +kernel
theorem dX12_hold_52 : decode cX12_hold 52 = .ok (.iload_n 2, 1) := by decide +kernel
theorem dX12_hold_53 : decode cX12_hold 53 = .ok (.if_icmp .ge 84, 3) := by decide +kernel
theorem dX12_hold_56 : decode cX12_hold 56 = .ok (.aload_n 0, 1) := by decide +kernel
theorem dX12_hold_57 : decode cX12_hold 57 = .ok (.bipush 120, 2) := by decide +kernel
theorem dX12_hold_59 : decode cX12_hold 59 = .ok (.iload_n 1, 1) := by decide +kernel
theorem dX12_hold_60 : decode cX12_hold 60 = .ok (.invokevirtual 162, 3) := by decide +kernel
theorem dX12_hold_63 : decode cX12_hold 63 = .ok (.ifCond .ne 48, 3) := by decide +kernel
theorem dX12_hold_66 : decode cX12_hold 66 = .ok (.aload_n 0, 1) := by decide +kernel
theorem dX12_hold_67 : decode cX12_hold 67 = .ok (.bipush 120, 2) := by decide +kernel
theorem dX12_hold_69 : decode cX12_hold 69 = .ok (.invokevirtual 181, 3) := by decide +kernel
theorem dX12_hold_72 : decode cX12_hold 72 = .ok (.aload_n 0, 1) := by decide +kernel
theorem dX12_hold_73 : decode cX12_hold 73 = .ok (.invokevirtual 174, 3) := by decide +kernel
theorem dX12_hold_76 : decode cX12_hold 76 = .ok (.aload_n 0, 1) := by decide +kernel
theorem dX12_hold_77 : decode cX12_hold 77 = .ok (.getfield 168, 3) := by decide +kernel
theorem dX12_hold_80 : decode cX12_hold 80 = .ok (.iconst 1, 1) := by decide +kernel
theorem dX12_hold_81 : decode cX12_hold 81 = .ok (.iadd, 1) := by decide +kernel
theorem dX12_hold_82 : decode cX12_hold 82 = .ok (.bipush 40, 2) := by decide +kernel
theorem dX12_hold_84 : decode cX12_hold 84 = .ok (.if_icmp .le 6, 3) := by decide +kernel
theorem dX12_hold_87 : decode cX12_hold 87 = .ok (.bipush (-9), 2) := by decide +kernel
theorem dX12_hold_89 : decode cX12_hold 89 = .ok (.ireturn, 1) := by decide +kernel
theorem dX12_hold_90 : decode cX12_hold 90 = .ok (.aload_n 0, 1) := by decide +kernel
theorem dX12_hold_91 : decode cX12_hold 91 = .ok (.getfield 7, 3) := by decide +kernel
theorem dX12_hold_94 : decode cX12_hold 94 = .ok (.bipush 124, 2) := by decide +kernel
theorem dX12_hold_96 : decode cX12_hold 96 = .ok (.aload_n 0, 1) := by decide +kernel
theorem dX12_hold_97 : decode cX12_hold 97 = .ok (.getfield 168, 3) := by decide +kernel
theorem dX12_hold_100 : decode cX12_hold 100 = .ok (.iconst 1, 1) := by decide +kernel
theorem dX12_hold_101 : decode cX12_hold 101 = .ok (.iadd, 1) := by decide +kernel
theorem dX12_hold_102 : decode cX12_hold 102 = .ok (.iastore, 1) := by decide +kernel
theorem dX12_hold_103 : decode cX12_hold 103 = .ok (.aload_n 0, 1) := by decide +kernel
theorem dX12_hold_104 : decode cX12_hold 104 = .ok (.getfield 7, 3) := by decide +kernel
theorem dX12_hold_107 : decode cX12_hold 107 = .ok (.bipush 125, 2) := by decide +kernel
theorem dX12_hold_109 : decode cX12_hold 109 = .ok (.iload_n 1, 1) := by decide +kernel
theorem dX12_hold_110 : decode cX12_hold 110 = .ok (.iastore, 1) := by decide +kernel
theorem dX12_hold_111 : decode cX12_hold 111 = .ok (.iload 4, 2) := by decide +kernel
theorem dX12_hold_113 : decode cX12_hold 113 = .ok (.aload_n 0, 1) := by decide +kernel
theorem dX12_hold_114 : decode cX12_hold 114 = .ok (.bipush 120, 2) := by decide +kernel
theorem dX12_hold_116 : decode cX12_hold 116 = .ok (.invokevirtual 203, 3) := by decide +kernel
theorem dX12_hold_119 : decode cX12_hold 119 = .ok (.iload_n 1, 1) := by decide +kernel
theorem dX12_hold_120 : decode cX12_hold 120 = .ok (.if_icmp .ne 7, 3) := by decide +kernel
theorem dX12_hold_123 : decode cX12_hold 123 = .ok (.iconst 1, 1) := by decide +kernel
theorem dX12_hold_124 : decode cX12_hold 124 = .ok (.goto 4, 3) := by decide +kernel
theorem dX12_hold_127 : decode cX12_hold 127 = .ok (.iconst 0, 1) := by decide +kernel
theorem dX12_hold_128 : decode cX12_hold 128 = .ok (.iadd, 1) := by decide +kernel
theorem dX12_hold_129 : decode cX12_hold 129 = .ok (.istore 4, 2) := by decide +kernel
theorem dX12_hold_131 : decode cX12_hold 131 = .ok (.iinc 6 1, 3) := by decide +kernel
theorem dX12_hold_134 : decode cX12_hold 134 = .ok (.goto (-84), 3) := by decide +kernel
theorem dX12_hold_137 : decode cX12_hold 137 = .ok (.iload_n 3, 1) := by decide +kernel
theorem dX12_hold_138 : decode cX12_hold 138 = .ok (.ifCond .ne 16, 3) := by decide +kernel
theorem dX12_hold_141 : decode cX12_hold 141 = .ok (.aload_n 0, 1) := by decide +kernel
theorem dX12_hold_142 : decode cX12_hold 142 = .ok (.getfield 7, 3) := by decide +kernel
theorem dX12_hold_145 : decode cX12_hold 145 = .ok (.bipush 122, 2) := by decide +kernel
theorem dX12_hold_147 : decode cX12_hold 147 = .ok (.iaload, 1) := by decide +kernel
theorem dX12_hold_148 : decode cX12_hold 148 = .ok (.iload 5, 2) := by decide +kernel
theorem dX12_hold_150 : decode cX12_hold 150 = .ok (.isub, 1) := by decide +kernel
theorem dX12_hold_151 : decode cX12_hold 151 = .ok (.goto 5, 3) := by decide +kernel
theorem dX12_hold_154 : decode cX12_hold 154 = .ok (.iload 4, 2) := by decide +kernel
theorem dX12_hold_156 : decode cX12_hold 156 = .ok (.ireturn, 1) := by decide +kernel
set_option maxRecDepth 100000 in
theorem ggX12_paidBy_X12_tries : GoodIn wsX12_paidBy wsX12_tries := goodIn_r _ [8, 9, 10, 11, 12, 7, 13, 46, 47, 48, 49, 50, 51, 52, 53, 54, 55, 56, 57, 58, 59, 60, 61, 62, 63, 64, 65, 66, 67, 68, 69, 70, 71, 72, 73, 74, 75, 76, 77, 78, 79, 80] rfl (by decide +kernel)
set_option maxRecDepth 100000 in
theorem gX12_paidBy_X12_tries : GoodIn wsX12_paidBy (wsV RX12 208 RX12 yX12_tries wsX12_tries) := goodIn_app (goodIn_r ([.methodLink RX12 208 yX12_tries, .instanceMethod yX12_tries, .selects RX12 yX12_tries yX12_tries, .initialized RX12] : List Cond) [4, 5, 6, 7] rfl (by decide +kernel)) ggX12_paidBy_X12_tries
set_option maxRecDepth 100000 in
theorem ggX12_paidBy_X12_bidsOf : GoodIn wsX12_paidBy wsX12_bidsOf := goodIn_r _ [17, 1, 18, 19, 9, 20, 21, 22, 23, 7, 24, 25, 46, 47, 48, 49, 50, 51, 52, 53, 54, 55, 56, 57, 58, 59, 60, 61, 62, 63, 64, 65, 66, 67, 68, 69, 70, 71, 72, 73, 74, 75, 76, 77, 78, 79, 80] rfl (by decide +kernel)
set_option maxRecDepth 100000 in
theorem gX12_paidBy_X12_bidsOf : GoodIn wsX12_paidBy (wsV RX12 181 RX12 yX12_bidsOf wsX12_bidsOf) := goodIn_app (goodIn_r ([.methodLink RX12 181 yX12_bidsOf, .instanceMethod yX12_bidsOf, .selects RX12 yX12_bidsOf yX12_bidsOf, .initialized RX12] : List Cond) [14, 15, 16, 7] rfl (by decide +kernel)) ggX12_paidBy_X12_bidsOf
set_option maxRecDepth 100000 in
theorem ggX12_paidBy_X12_ends : GoodIn wsX12_paidBy wsX12_ends := goodIn_r _ [29, 9, 2, 3, 20, 30, 31, 32, 7, 33, 34, 1, 35, 36, 37, 38, 18, 39, 40, 41, 42, 43, 44, 45, 46, 47, 48, 49, 50, 51, 52, 53, 54, 55, 56, 57, 58, 59, 60, 61, 62, 63, 64, 65, 66, 67, 68, 69, 70, 71, 72, 73, 74, 75, 76, 77, 78, 79, 80] rfl (by decide +kernel)
set_option maxRecDepth 100000 in
theorem gX12_paidBy_X12_ends : GoodIn wsX12_paidBy (wsV RX12 185 RX12 yX12_ends wsX12_ends) := goodIn_app (goodIn_r ([.methodLink RX12 185 yX12_ends, .instanceMethod yX12_ends, .selects RX12 yX12_ends yX12_ends, .initialized RX12] : List Cond) [26, 27, 28, 7] rfl (by decide +kernel)) ggX12_paidBy_X12_ends
theorem dX12_paidBy_0 : decode cX12_paidBy 0 = .ok (.iconst 0, 1) := by decide +kernel
theorem dX12_paidBy_1 : decode cX12_paidBy 1 = .ok (.istore 5, 2) := by decide +kernel
theorem dX12_paidBy_3 : decode cX12_paidBy 3 = .ok (.aload_n 0, 1) := by decide +kernel
theorem dX12_paidBy_4 : decode cX12_paidBy 4 = .ok (.invokevirtual 208, 3) := by decide +kernel
theorem dX12_paidBy_7 : decode cX12_paidBy 7 = .ok (.iconst 0, 1) := by decide +kernel
theorem dX12_paidBy_8 : decode cX12_paidBy 8 = .ok (.istore 6, 2) := by decide +kernel
theorem dX12_paidBy_10 : decode cX12_paidBy 10 = .ok (.iload 6, 2) := by decide +kernel
theorem dX12_paidBy_12 : decode cX12_paidBy 12 = .ok (.iload_n 3, 1) := by decide +kernel
theorem dX12_paidBy_13 : decode cX12_paidBy 13 = .ok (.if_icmp .ge 132, 3) := by decide +kernel
theorem dX12_paidBy_16 : decode cX12_paidBy 16 = .ok (.aload_n 0, 1) := by decide +kernel
theorem dX12_paidBy_17 : decode cX12_paidBy 17 = .ok (.bipush 120, 2) := by decide +kernel
theorem dX12_paidBy_19 : decode cX12_paidBy 19 = .ok (.invokevirtual 181, 3) := by decide +kernel
theorem dX12_paidBy_22 : decode cX12_paidBy 22 = .ok (.iload 4, 2) := by decide +kernel
theorem dX12_paidBy_24 : decode cX12_paidBy 24 = .ok (.ifCond .eq 71, 3) := by decide +kernel
theorem dX12_paidBy_27 : decode cX12_paidBy 27 = .ok (.aload_n 0, 1) := by decide +kernel
theorem dX12_paidBy_28 : decode cX12_paidBy 28 = .ok (.getfield 57, 3) := by decide +kernel
theorem dX12_paidBy_31 : decode cX12_paidBy 31 = .ok (.iload_n 1, 1) := by decide +kernel
theorem dX12_paidBy_32 : decode cX12_paidBy 32 = .ok (.iaload, 1) := by decide +kernel
theorem dX12_paidBy_33 : decode cX12_paidBy 33 = .ok (.ifCond .le 62, 3) := by decide +kernel
theorem dX12_paidBy_36 : decode cX12_paidBy 36 = .ok (.aload_n 0, 1) := by decide +kernel
theorem dX12_paidBy_37 : decode cX12_paidBy 37 = .ok (.getfield 57, 3) := by decide +kernel
theorem dX12_paidBy_40 : decode cX12_paidBy 40 = .ok (.iload_n 2, 1) := by decide +kernel
theorem dX12_paidBy_41 : decode cX12_paidBy 41 = .ok (.iaload, 1) := by decide +kernel
theorem dX12_paidBy_42 : decode cX12_paidBy 42 = .ok (.ifCond .le 53, 3) := by decide +kernel
theorem dX12_paidBy_45 : decode cX12_paidBy 45 = .ok (.aload_n 0, 1) := by decide +kernel
theorem dX12_paidBy_46 : decode cX12_paidBy 46 = .ok (.getfield 57, 3) := by decide +kernel
theorem dX12_paidBy_49 : decode cX12_paidBy 49 = .ok (.iload_n 1, 1) := by decide +kernel
theorem dX12_paidBy_50 : decode cX12_paidBy 50 = .ok (.iaload, 1) := by decide +kernel
theorem dX12_paidBy_51 : decode cX12_paidBy 51 = .ok (.aload_n 0, 1) := by decide +kernel
theorem dX12_paidBy_52 : decode cX12_paidBy 52 = .ok (.getfield 57, 3) := by decide +kernel
theorem dX12_paidBy_55 : decode cX12_paidBy 55 = .ok (.iload_n 2, 1) := by decide +kernel
theorem dX12_paidBy_56 : decode cX12_paidBy 56 = .ok (.iaload, 1) := by decide +kernel
theorem dX12_paidBy_57 : decode cX12_paidBy 57 = .ok (.if_icmp .lt 23, 3) := by decide +kernel
theorem dX12_paidBy_60 : decode cX12_paidBy 60 = .ok (.aload_n 0, 1) := by decide +kernel
theorem dX12_paidBy_61 : decode cX12_paidBy 61 = .ok (.getfield 57, 3) := by decide +kernel
theorem dX12_paidBy_64 : decode cX12_paidBy 64 = .ok (.iload_n 1, 1) := by decide +kernel
theorem dX12_paidBy_65 : decode cX12_paidBy 65 = .ok (.iaload, 1) := by decide +kernel
theorem dX12_paidBy_66 : decode cX12_paidBy 66 = .ok (.aload_n 0, 1) := by decide +kernel
theorem dX12_paidBy_67 : decode cX12_paidBy 67 = .ok (.getfield 57, 3) := by decide +kernel
theorem dX12_paidBy_70 : decode cX12_paidBy 70 = .ok (.iload_n 2, 1) := by decide +kernel
theorem dX12_paidBy_71 : decode cX12_paidBy 71 = .ok (.iaload, 1) := by decide +kernel
theorem dX12_paidBy_72 : decode cX12_paidBy 72 = .ok (.if_icmp .ne 12, 3) := by decide +kernel
theorem dX12_paidBy_75 : decode cX12_paidBy 75 = .ok (.iload_n 1, 1) := by decide +kernel
theorem dX12_paidBy_76 : decode cX12_paidBy 76 = .ok (.iload_n 2, 1) := by decide +kernel
theorem dX12_paidBy_77 : decode cX12_paidBy 77 = .ok (.if_icmp .le 7, 3) := by decide +kernel
theorem dX12_paidBy_80 : decode cX12_paidBy 80 = .ok (.iload_n 1, 1) := by decide +kernel
theorem dX12_paidBy_81 : decode cX12_paidBy 81 = .ok (.goto 4, 3) := by decide +kernel
theorem dX12_paidBy_84 : decode cX12_paidBy 84 = .ok (.iload_n 2, 1) := by decide +kernel
theorem dX12_paidBy_85 : decode cX12_paidBy 85 = .ok (.istore 7, 2) := by decide +kernel
theorem dX12_paidBy_87 : decode cX12_paidBy 87 = .ok (.aload_n 0, 1) := by decide +kernel
theorem dX12_paidBy_88 : decode cX12_paidBy 88 = .ok (.getfield 57, 3) := by decide +kernel
theorem dX12_paidBy_91 : decode cX12_paidBy 91 = .ok (.iload 7, 2) := by decide +kernel
theorem dX12_paidBy_93 : decode cX12_paidBy 93 = .ok (.iconst 0, 1) := by decide +kernel
theorem dX12_paidBy_94 : decode cX12_paidBy 94 = .ok (.iastore, 1) := by decide +kernel
theorem dX12_paidBy_95 : decode cX12_paidBy 95 = .ok (.aload_n 0, 1) := by decide +kernel
theorem dX12_paidBy_96 : decode cX12_paidBy 96 = .ok (.bipush 120, 2) := by decide +kernel
theorem dX12_paidBy_98 : decode cX12_paidBy 98 = .ok (.invokevirtual 185, 3) := by decide +kernel
theorem dX12_paidBy_101 : decode cX12_paidBy 101 = .ok (.istore 7, 2) := by decide +kernel
theorem dX12_paidBy_103 : decode cX12_paidBy 103 = .ok (.iload 5, 2) := by decide +kernel
theorem dX12_paidBy_105 : decode cX12_paidBy 105 = .ok (.iload 7, 2) := by decide +kernel
theorem dX12_paidBy_107 : decode cX12_paidBy 107 = .ok (.bipush (-5), 2) := by decide +kernel
theorem dX12_paidBy_109 : decode cX12_paidBy 109 = .ok (.if_icmp .eq 26, 3) := by decide +kernel
theorem dX12_paidBy_112 : decode cX12_paidBy 112 = .ok (.aload_n 0, 1) := by decide +kernel
theorem dX12_paidBy_113 : decode cX12_paidBy 113 = .ok (.getfield 165, 3) := by decide +kernel
theorem dX12_paidBy_116 : decode cX12_paidBy 116 = .ok (.iload_n 1, 1) := by decide +kernel
theorem dX12_paidBy_117 : decode cX12_paidBy 117 = .ok (.if_icmp .eq 11, 3) := by decide +kernel
theorem dX12_paidBy_120 : decode cX12_paidBy 120 = .ok (.aload_n 0, 1) := by decide +kernel
theorem dX12_paidBy_121 : decode cX12_paidBy 121 = .ok (.getfield 165, 3) := by decide +kernel
theorem dX12_paidBy_124 : decode cX12_paidBy 124 = .ok (.iload_n 2, 1) := by decide +kernel
theorem dX12_paidBy_125 : decode cX12_paidBy 125 = .ok (.if_icmp .ne 10, 3) := by decide +kernel
theorem dX12_paidBy_128 : decode cX12_paidBy 128 = .ok (.aload_n 0, 1) := by decide +kernel
theorem dX12_paidBy_129 : decode cX12_paidBy 129 = .ok (.getfield 171, 3) := by decide +kernel
theorem dX12_paidBy_132 : decode cX12_paidBy 132 = .ok (.goto 4, 3) := by decide +kernel
theorem dX12_paidBy_135 : decode cX12_paidBy 135 = .ok (.iconst 0, 1) := by decide +kernel
theorem dX12_paidBy_136 : decode cX12_paidBy 136 = .ok (.iadd, 1) := by decide +kernel
theorem dX12_paidBy_137 : decode cX12_paidBy 137 = .ok (.istore 5, 2) := by decide +kernel
theorem dX12_paidBy_139 : decode cX12_paidBy 139 = .ok (.iinc 6 1, 3) := by decide +kernel
theorem dX12_paidBy_142 : decode cX12_paidBy 142 = .ok (.goto (-132), 3) := by decide +kernel
theorem dX12_paidBy_145 : decode cX12_paidBy 145 = .ok (.iload 5, 2) := by decide +kernel
theorem dX12_paidBy_147 : decode cX12_paidBy 147 = .ok (.ireturn, 1) := by decide +kernel
set_option maxRecDepth 100000 in
theorem ggX12_ring_X12_isBidder : GoodIn wsX12_ring wsX12_isBidder := goodIn_r _ [7, 8, 9, 10, 6, 11, 59, 60, 61, 62, 63, 64, 65, 66, 67, 68, 69, 70, 71, 72, 73, 74, 75, 76, 77, 78, 79, 80, 81, 82, 83, 84, 85, 86, 87, 88, 89, 90, 91, 92, 93] rfl (by decide +kernel)
set_option maxRecDepth 100000 in
theorem gX12_ring_X12_isBidder : GoodIn wsX12_ring (wsV RX12 142 RX12 yX12_isBidder wsX12_isBidder) := goodIn_app (goodIn_r ([.methodLink RX12 142 yX12_isBidder, .instanceMethod yX12_isBidder, .selects RX12 yX12_isBidder yX12_isBidder, .initialized RX12] : List Cond) [3, 4, 5, 6] rfl (by decide +kernel)) ggX12_ring_X12_isBidder
set_option maxRecDepth 100000 in
theorem ggX12_ring_X12_in : GoodIn wsX12_ring wsX12_in := goodIn_r _ [11] rfl (by decide +kernel)
set_option maxRecDepth 100000 in
theorem gX12_ring_X12_in : GoodIn wsX12_ring (va_wsS RX12 68 yX12_in wsX12_in) := goodIn_app (goodIn_r ([.methodLink RX12 68 yX12_in, .static yX12_in, .initialized RX12] : List Cond) [9, 10, 6] rfl (by decide +kernel)) ggX12_ring_X12_in
set_option maxRecDepth 100000 in
theorem ggX12_ring_X12_paidBy : GoodIn wsX12_ring wsX12_paidBy := goodIn_r _ [15, 16, 17, 18, 19, 20, 21, 6, 22, 23, 24, 25, 26, 27, 28, 29, 30, 31, 8, 32, 33, 34, 35, 36, 37, 38, 39, 40, 41, 42, 43, 44, 45, 46, 47, 48, 49, 50, 51, 52, 53, 54, 55, 56, 57, 58, 59, 60, 61, 62, 63, 64, 65, 66, 67, 68, 69, 70, 71, 72, 73, 74, 75, 76, 77, 78, 79, 80, 81, 82, 83, 84, 85, 86, 87, 88, 89, 90, 91, 92, 93] rfl (by decide +kernel)
set_option maxRecDepth 100000 in
theorem gX12_ring_X12_paidBy : GoodIn wsX12_ring (wsV RX12 219 RX12 yX12_paidBy wsX12_paidBy) := goodIn_app (goodIn_r ([.methodLink RX12 219 yX12_paidBy, .instanceMethod yX12_paidBy, .selects RX12 yX12_paidBy yX12_paidBy, .initialized RX12] : List Cond) [12, 13, 14, 6] rfl (by decide +kernel)) ggX12_ring_X12_paidBy
theorem dX12_ring_0 : decode cX12_ring 0 = .ok (.aload_n 0, 1) := by decide +kernel
theorem dX12_ring_1 : decode cX12_ring 1 = .ok (.iload_n 1, 1) := by decide +kernel
theorem dX12_ring_2 : decode cX12_ring 2 = .ok (.invokevirtual 142, 3) := by decide +kernel
theorem dX12_ring_5 : decode cX12_ring 5 = .ok (.ifCond .eq 28, 3) := by decide +kernel
theorem dX12_ring_8 : decode cX12_ring 8 = .ok (.aload_n 0, 1) := by decide +kernel
theorem dX12_ring_9 : decode cX12_ring 9 = .ok (.iload_n 2, 1) := by decide +kernel
theorem dX12_ring_10 : decode cX12_ring 10 = .ok (.invokevirtual 142, 3) := by decide +kernel
theorem dX12_ring_13 : decode cX12_ring 13 = .ok (.ifCond .eq 20, 3) := by decide +kernel
theorem dX12_ring_16 : decode cX12_ring 16 = .ok (.iload_n 1, 1) := by decide +kernel
theorem dX12_ring_17 : decode cX12_ring 17 = .ok (.iload_n 2, 1) := by decide +kernel
theorem dX12_ring_18 : decode cX12_ring 18 = .ok (.if_icmp .eq 15, 3) := by decide +kernel
theorem dX12_ring_21 : decode cX12_ring 21 = .ok (.iload_n 3, 1) := by decide +kernel
theorem dX12_ring_22 : decode cX12_ring 22 = .ok (.i2l, 1) := by decide +kernel
theorem dX12_ring_23 : decode cX12_ring 23 = .ok (.lconst 1, 1) := by decide +kernel
theorem dX12_ring_24 : decode cX12_ring 24 = .ok (.ldc2_w 211, 3) := by decide +kernel
theorem dX12_ring_27 : decode cX12_ring 27 = .ok (.invokestatic 68, 3) := by decide +kernel
theorem dX12_ring_30 : decode cX12_ring 30 = .ok (.ifCond .ne 6, 3) := by decide +kernel
theorem dX12_ring_33 : decode cX12_ring 33 = .ok (.ldc 218, 2) := by decide +kernel
theorem dX12_ring_35 : decode cX12_ring 35 = .ok (.ireturn, 1) := by decide +kernel
theorem dX12_ring_36 : decode cX12_ring 36 = .ok (.aload_n 0, 1) := by decide +kernel
theorem dX12_ring_37 : decode cX12_ring 37 = .ok (.iload_n 1, 1) := by decide +kernel
theorem dX12_ring_38 : decode cX12_ring 38 = .ok (.iload_n 2, 1) := by decide +kernel
theorem dX12_ring_39 : decode cX12_ring 39 = .ok (.iload_n 3, 1) := by decide +kernel
theorem dX12_ring_40 : decode cX12_ring 40 = .ok (.iconst 0, 1) := by decide +kernel
theorem dX12_ring_41 : decode cX12_ring 41 = .ok (.invokevirtual 219, 3) := by decide +kernel
theorem dX12_ring_44 : decode cX12_ring 44 = .ok (.istore 4, 2) := by decide +kernel
theorem dX12_ring_46 : decode cX12_ring 46 = .ok (.iload 4, 2) := by decide +kernel
theorem dX12_ring_48 : decode cX12_ring 48 = .ok (.aload_n 0, 1) := by decide +kernel
theorem dX12_ring_49 : decode cX12_ring 49 = .ok (.iload_n 1, 1) := by decide +kernel
theorem dX12_ring_50 : decode cX12_ring 50 = .ok (.iload_n 2, 1) := by decide +kernel
theorem dX12_ring_51 : decode cX12_ring 51 = .ok (.iload_n 3, 1) := by decide +kernel
theorem dX12_ring_52 : decode cX12_ring 52 = .ok (.iconst 1, 1) := by decide +kernel
theorem dX12_ring_53 : decode cX12_ring 53 = .ok (.invokevirtual 219, 3) := by decide +kernel
theorem dX12_ring_56 : decode cX12_ring 56 = .ok (.isub, 1) := by decide +kernel
theorem dX12_ring_57 : decode cX12_ring 57 = .ok (.ireturn, 1) := by decide +kernel
set_option maxRecDepth 100000 in
theorem ggX12_found_X12_in : GoodIn wsX12_found wsX12_in := goodIn_r _ [10] rfl (by decide +kernel)
set_option maxRecDepth 100000 in
theorem gX12_found_X12_in : GoodIn wsX12_found (va_wsS RX12 68 yX12_in wsX12_in) := goodIn_app (goodIn_r ([.methodLink RX12 68 yX12_in, .static yX12_in, .initialized RX12] : List Cond) [7, 8, 9] rfl (by decide +kernel)) ggX12_found_X12_in
theorem dX12_found_0 : decode cX12_found 0 = .ok (.iload_n 1, 1) := by decide +kernel
theorem dX12_found_1 : decode cX12_found 1 = .ok (.i2l, 1) := by decide +kernel
theorem dX12_found_2 : decode cX12_found 2 = .ok (.lconst 1, 1) := by decide +kernel
theorem dX12_found_3 : decode cX12_found 3 = .ok (.ldc2_w 223, 3) := by decide +kernel
theorem dX12_found_6 : decode cX12_found 6 = .ok (.invokestatic 68, 3) := by decide +kernel
theorem dX12_found_9 : decode cX12_found 9 = .ok (.ifCond .eq 17, 3) := by decide +kernel
theorem dX12_found_12 : decode cX12_found 12 = .ok (.iload_n 2, 1) := by decide +kernel
theorem dX12_found_13 : decode cX12_found 13 = .ok (.i2l, 1) := by decide +kernel
theorem dX12_found_14 : decode cX12_found 14 = .ok (.ldc2_w 225, 3) := by decide +kernel
theorem dX12_found_17 : decode cX12_found 17 = .ok (.ldc2_w 140, 3) := by decide +kernel
theorem dX12_found_20 : decode cX12_found 20 = .ok (.invokestatic 68, 3) := by decide +kernel
theorem dX12_found_23 : decode cX12_found 23 = .ok (.ifCond .ne 5, 3) := by decide +kernel
theorem dX12_found_26 : decode cX12_found 26 = .ok (.iconst (-1), 1) := by decide +kernel
theorem dX12_found_27 : decode cX12_found 27 = .ok (.ireturn, 1) := by decide +kernel
theorem dX12_found_28 : decode cX12_found 28 = .ok (.aload_n 0, 1) := by decide +kernel
theorem dX12_found_29 : decode cX12_found 29 = .ok (.getfield 131, 3) := by decide +kernel
theorem dX12_found_32 : decode cX12_found 32 = .ok (.iconst 5, 1) := by decide +kernel
theorem dX12_found_33 : decode cX12_found 33 = .ok (.if_icmp .ne 6, 3) := by decide +kernel
theorem dX12_found_36 : decode cX12_found 36 = .ok (.bipush (-3), 2) := by decide +kernel
theorem dX12_found_38 : decode cX12_found 38 = .ok (.ireturn, 1) := by decide +kernel
theorem dX12_found_39 : decode cX12_found 39 = .ok (.aload_n 0, 1) := by decide +kernel
theorem dX12_found_40 : decode cX12_found 40 = .ok (.getfield 33, 3) := by decide +kernel
theorem dX12_found_43 : decode cX12_found 43 = .ok (.aload_n 0, 1) := by decide +kernel
theorem dX12_found_44 : decode cX12_found 44 = .ok (.getfield 131, 3) := by decide +kernel
theorem dX12_found_47 : decode cX12_found 47 = .ok (.iload_n 1, 1) := by decide +kernel
theorem dX12_found_48 : decode cX12_found 48 = .ok (.iastore, 1) := by decide +kernel
theorem dX12_found_49 : decode cX12_found 49 = .ok (.aload_n 0, 1) := by decide +kernel
theorem dX12_found_50 : decode cX12_found 50 = .ok (.getfield 36, 3) := by decide +kernel
theorem dX12_found_53 : decode cX12_found 53 = .ok (.aload_n 0, 1) := by decide +kernel
theorem dX12_found_54 : decode cX12_found 54 = .ok (.getfield 131, 3) := by decide +kernel
theorem dX12_found_57 : decode cX12_found 57 = .ok (.iload_n 2, 1) := by decide +kernel
theorem dX12_found_58 : decode cX12_found 58 = .ok (.iastore, 1) := by decide +kernel
theorem dX12_found_59 : decode cX12_found 59 = .ok (.aload_n 0, 1) := by decide +kernel
theorem dX12_found_60 : decode cX12_found 60 = .ok (.dup, 1) := by decide +kernel
theorem dX12_found_61 : decode cX12_found 61 = .ok (.getfield 131, 3) := by decide +kernel
theorem dX12_found_64 : decode cX12_found 64 = .ok (.iconst 1, 1) := by decide +kernel
theorem dX12_found_65 : decode cX12_found 65 = .ok (.iadd, 1) := by decide +kernel
theorem dX12_found_66 : decode cX12_found 66 = .ok (.putfield 131, 3) := by decide +kernel
theorem dX12_found_69 : decode cX12_found 69 = .ok (.aload_n 0, 1) := by decide +kernel
theorem dX12_found_70 : decode cX12_found 70 = .ok (.getfield 131, 3) := by decide +kernel
theorem dX12_found_73 : decode cX12_found 73 = .ok (.ireturn, 1) := by decide +kernel
theorem dX12_forget_0 : decode cX12_forget 0 = .ok (.aload_n 0, 1) := by decide +kernel
theorem dX12_forget_1 : decode cX12_forget 1 = .ok (.getfield 131, 3) := by decide +kernel
theorem dX12_forget_4 : decode cX12_forget 4 = .ok (.istore_n 1, 1) := by decide +kernel
theorem dX12_forget_5 : decode cX12_forget 5 = .ok (.aload_n 0, 1) := by decide +kernel
theorem dX12_forget_6 : decode cX12_forget 6 = .ok (.iconst 0, 1) := by decide +kernel
theorem dX12_forget_7 : decode cX12_forget 7 = .ok (.putfield 131, 3) := by decide +kernel
theorem dX12_forget_10 : decode cX12_forget 10 = .ok (.iload_n 1, 1) := by decide +kernel
theorem dX12_forget_11 : decode cX12_forget 11 = .ok (.ireturn, 1) := by decide +kernel
set_option maxRecDepth 100000 in
theorem ggX12_isSo_X12_tries : GoodIn wsX12_isSo wsX12_tries := goodIn_r _ [8, 9, 10, 11, 12, 7, 13, 53, 54, 55, 56, 57, 58, 59, 60, 61, 62, 63, 64, 65, 66, 67, 68, 69, 70, 71, 72, 73, 74, 75, 76, 77, 78, 79, 80, 81, 82, 83, 84, 85, 86, 87] rfl (by decide +kernel)
set_option maxRecDepth 100000 in
theorem gX12_isSo_X12_tries : GoodIn wsX12_isSo (wsV RX12 208 RX12 yX12_tries wsX12_tries) := goodIn_app (goodIn_r ([.methodLink RX12 208 yX12_tries, .instanceMethod yX12_tries, .selects RX12 yX12_tries yX12_tries, .initialized RX12] : List Cond) [4, 5, 6, 7] rfl (by decide +kernel)) ggX12_isSo_X12_tries
set_option maxRecDepth 100000 in
theorem ggX12_isSo_X12_goes : GoodIn wsX12_isSo wsX12_goes := goodIn_r _ [17, 18, 19, 20, 7, 21, 22, 23, 24, 9, 25, 26, 27, 28, 29, 30, 31, 32, 33, 34, 35, 36, 37, 38, 39, 40, 41, 42, 43, 44, 45, 46, 47, 48, 49, 50, 51, 52, 53, 54, 55, 56, 57, 58, 59, 60, 61, 62, 63, 64, 65, 66, 67, 68, 69, 70, 71, 72, 73, 74, 75, 76, 77, 78, 79, 80, 81, 82, 83, 84, 85, 86, 87] rfl (by decide +kernel)
set_option maxRecDepth 100000 in
theorem gX12_isSo_X12_goes : GoodIn wsX12_isSo (wsV RX12 203 RX12 yX12_goes wsX12_goes) := goodIn_app (goodIn_r ([.methodLink RX12 203 yX12_goes, .instanceMethod yX12_goes, .selects RX12 yX12_goes yX12_goes, .initialized RX12] : List Cond) [14, 15, 16, 7] rfl (by decide +kernel)) ggX12_isSo_X12_goes
theorem dX12_isSo_0 : decode cX12_isSo 0 = .ok (.iconst 1, 1) := by decide +kernel
theorem dX12_isSo_1 : decode cX12_isSo 1 = .ok (.istore_n 1, 1) := by decide +kernel
theorem dX12_isSo_2 : decode cX12_isSo 2 = .ok (.aload_n 0, 1) := by decide +kernel
theorem dX12_isSo_3 : decode cX12_isSo 3 = .ok (.invokevirtual 208, 3) := by decide +kernel
theorem dX12_isSo_6 : decode cX12_isSo 6 = .ok (.iconst 1, 1) := by decide +kernel
theorem dX12_isSo_7 : decode cX12_isSo 7 = .ok (.istore_n 2, 1) := by decide +kernel
theorem dX12_isSo_8 : decode cX12_isSo 8 = .ok (.iload_n 2, 1) := by decide +kernel
theorem dX12_isSo_9 : decode cX12_isSo 9 = .ok (.bipush 8, 2) := by decide +kernel
theorem dX12_isSo_11 : decode cX12_isSo 11 = .ok (.if_icmp .gt 76, 3) := by decide +kernel
theorem dX12_isSo_14 : decode cX12_isSo 14 = .ok (.aload_n 0, 1) := by decide +kernel
theorem dX12_isSo_15 : decode cX12_isSo 15 = .ok (.bipush 120, 2) := by decide +kernel
theorem dX12_isSo_17 : decode cX12_isSo 17 = .ok (.invokevirtual 203, 3) := by decide +kernel
theorem dX12_isSo_20 : decode cX12_isSo 20 = .ok (.istore_n 3, 1) := by decide +kernel
theorem dX12_isSo_21 : decode cX12_isSo 21 = .ok (.iconst 0, 1) := by decide +kernel
theorem dX12_isSo_22 : decode cX12_isSo 22 = .ok (.istore 4, 2) := by decide +kernel
theorem dX12_isSo_24 : decode cX12_isSo 24 = .ok (.iload 4, 2) := by decide +kernel
theorem dX12_isSo_26 : decode cX12_isSo 26 = .ok (.aload_n 0, 1) := by decide +kernel
theorem dX12_isSo_27 : decode cX12_isSo 27 = .ok (.getfield 131, 3) := by decide +kernel
theorem dX12_isSo_30 : decode cX12_isSo 30 = .ok (.if_icmp .ge 51, 3) := by decide +kernel
theorem dX12_isSo_33 : decode cX12_isSo 33 = .ok (.iload_n 1, 1) := by decide +kernel
theorem dX12_isSo_34 : decode cX12_isSo 34 = .ok (.ifCond .eq 39, 3) := by decide +kernel
theorem dX12_isSo_37 : decode cX12_isSo 37 = .ok (.aload_n 0, 1) := by decide +kernel
theorem dX12_isSo_38 : decode cX12_isSo 38 = .ok (.getfield 33, 3) := by decide +kernel
theorem dX12_isSo_41 : decode cX12_isSo 41 = .ok (.iload 4, 2) := by decide +kernel
theorem dX12_isSo_43 : decode cX12_isSo 43 = .ok (.iaload, 1) := by decide +kernel
theorem dX12_isSo_44 : decode cX12_isSo 44 = .ok (.iload_n 2, 1) := by decide +kernel
theorem dX12_isSo_45 : decode cX12_isSo 45 = .ok (.if_icmp .ne 24, 3) := by decide +kernel
theorem dX12_isSo_48 : decode cX12_isSo 48 = .ok (.aload_n 0, 1) := by decide +kernel
theorem dX12_isSo_49 : decode cX12_isSo 49 = .ok (.getfield 36, 3) := by decide +kernel
theorem dX12_isSo_52 : decode cX12_isSo 52 = .ok (.iload 4, 2) := by decide +kernel
theorem dX12_isSo_54 : decode cX12_isSo 54 = .ok (.iaload, 1) := by decide +kernel
theorem dX12_isSo_55 : decode cX12_isSo 55 = .ok (.iload_n 3, 1) := by decide +kernel
theorem dX12_isSo_56 : decode cX12_isSo 56 = .ok (.bipush (-5), 2) := by decide +kernel
theorem dX12_isSo_58 : decode cX12_isSo 58 = .ok (.if_icmp .ne 7, 3) := by decide +kernel
theorem dX12_isSo_61 : decode cX12_isSo 61 = .ok (.iconst (-1), 1) := by decide +kernel
theorem dX12_isSo_62 : decode cX12_isSo 62 = .ok (.goto 4, 3) := by decide +kernel
theorem dX12_isSo_65 : decode cX12_isSo 65 = .ok (.iload_n 3, 1) := by decide +kernel
theorem dX12_isSo_66 : decode cX12_isSo 66 = .ok (.if_icmp .ne 7, 3) := by decide +kernel
theorem dX12_isSo_69 : decode cX12_isSo 69 = .ok (.iconst 1, 1) := by decide +kernel
theorem dX12_isSo_70 : decode cX12_isSo 70 = .ok (.goto 4, 3) := by decide +kernel
theorem dX12_isSo_73 : decode cX12_isSo 73 = .ok (.iconst 0, 1) := by decide +kernel
theorem dX12_isSo_74 : decode cX12_isSo 74 = .ok (.istore_n 1, 1) := by decide +kernel
theorem dX12_isSo_75 : decode cX12_isSo 75 = .ok (.iinc 4 1, 3) := by decide +kernel
theorem dX12_isSo_78 : decode cX12_isSo 78 = .ok (.goto (-54), 3) := by decide +kernel
theorem dX12_isSo_81 : decode cX12_isSo 81 = .ok (.iinc 2 1, 3) := by decide +kernel
theorem dX12_isSo_84 : decode cX12_isSo 84 = .ok (.goto (-76), 3) := by decide +kernel
theorem dX12_isSo_87 : decode cX12_isSo 87 = .ok (.iload_n 1, 1) := by decide +kernel
theorem dX12_isSo_88 : decode cX12_isSo 88 = .ok (.ireturn, 1) := by decide +kernel
set_option maxRecDepth 100000 in
theorem ggX12_mayBe_X12_isBidder : GoodIn wsX12_mayBe wsX12_isBidder := goodIn_r _ [6, 7, 8, 9, 5, 10, 68, 69, 70, 71, 72, 73, 74, 75, 76, 77, 78, 79, 80, 81, 82, 83, 84, 85, 86, 87, 88, 89, 90, 91, 92, 93, 94, 95, 96, 97, 98, 99, 100, 101, 102] rfl (by decide +kernel)
set_option maxRecDepth 100000 in
theorem gX12_mayBe_X12_isBidder : GoodIn wsX12_mayBe (wsV RX12 142 RX12 yX12_isBidder wsX12_isBidder) := goodIn_app (goodIn_r ([.methodLink RX12 142 yX12_isBidder, .instanceMethod yX12_isBidder, .selects RX12 yX12_isBidder yX12_isBidder, .initialized RX12] : List Cond) [2, 3, 4, 5] rfl (by decide +kernel)) ggX12_mayBe_X12_isBidder
set_option maxRecDepth 100000 in
theorem ggX12_mayBe_X12_isName : GoodIn wsX12_mayBe wsX12_isName := goodIn_r _ [13, 14, 8, 9, 5, 10] rfl (by decide +kernel)
set_option maxRecDepth 100000 in
theorem gX12_mayBe_X12_isName : GoodIn wsX12_mayBe (va_wsS RX12 153 yX12_isName wsX12_isName) := goodIn_app (goodIn_r ([.methodLink RX12 153 yX12_isName, .static yX12_isName, .initialized RX12] : List Cond) [11, 12, 5] rfl (by decide +kernel)) ggX12_mayBe_X12_isName
set_option maxRecDepth 100000 in
theorem ggX12_mayBe_X12_in : GoodIn wsX12_mayBe wsX12_in := goodIn_r _ [10] rfl (by decide +kernel)
set_option maxRecDepth 100000 in
theorem gX12_mayBe_X12_in : GoodIn wsX12_mayBe (va_wsS RX12 68 yX12_in wsX12_in) := goodIn_app (goodIn_r ([.methodLink RX12 68 yX12_in, .static yX12_in, .initialized RX12] : List Cond) [8, 9, 5] rfl (by decide +kernel)) ggX12_mayBe_X12_in
set_option maxRecDepth 100000 in
theorem ggX12_mayBe_X12_isSo : GoodIn wsX12_mayBe wsX12_isSo := goodIn_r _ [18, 19, 20, 21, 22, 23, 24, 5, 25, 26, 27, 28, 29, 30, 31, 32, 33, 34, 35, 36, 37, 38, 39, 7, 1, 40, 41, 42, 43, 44, 45, 46, 47, 48, 49, 50, 51, 52, 53, 54, 55, 56, 57, 58, 59, 60, 61, 62, 63, 64, 65, 66, 67, 68, 69, 70, 71, 72, 73, 74, 75, 76, 77, 78, 79, 80, 81, 82, 83, 84, 85, 86, 87, 88, 89, 90, 91, 92, 93, 94, 95, 96, 97, 98, 99, 100, 101, 102] rfl (by decide +kernel)
set_option maxRecDepth 100000 in
theorem gX12_mayBe_X12_isSo : GoodIn wsX12_mayBe (wsV RX12 227 RX12 yX12_isSo wsX12_isSo) := goodIn_app (goodIn_r ([.methodLink RX12 227 yX12_isSo, .instanceMethod yX12_isSo, .selects RX12 yX12_isSo yX12_isSo, .initialized RX12] : List Cond) [15, 16, 17, 5] rfl (by decide +kernel)) ggX12_mayBe_X12_isSo
theorem dX12_mayBe_0 : decode cX12_mayBe 0 = .ok (.aload_n 0, 1) := by decide +kernel
theorem dX12_mayBe_1 : decode cX12_mayBe 1 = .ok (.iload_n 1, 1) := by decide +kernel
theorem dX12_mayBe_2 : decode cX12_mayBe 2 = .ok (.invokevirtual 142, 3) := by decide +kernel
theorem dX12_mayBe_5 : decode cX12_mayBe 5 = .ok (.ifCond .eq 20, 3) := by decide +kernel
theorem dX12_mayBe_8 : decode cX12_mayBe 8 = .ok (.iload_n 2, 1) := by decide +kernel
theorem dX12_mayBe_9 : decode cX12_mayBe 9 = .ok (.invokestatic 153, 3) := by decide +kernel
theorem dX12_mayBe_12 : decode cX12_mayBe 12 = .ok (.ifCond .eq 13, 3) := by decide +kernel
theorem dX12_mayBe_15 : decode cX12_mayBe 15 = .ok (.iload_n 3, 1) := by decide +kernel
theorem dX12_mayBe_16 : decode cX12_mayBe 16 = .ok (.i2l, 1) := by decide +kernel
theorem dX12_mayBe_17 : decode cX12_mayBe 17 = .ok (.lconst 0, 1) := by decide +kernel
theorem dX12_mayBe_18 : decode cX12_mayBe 18 = .ok (.lconst 1, 1) := by decide +kernel
theorem dX12_mayBe_19 : decode cX12_mayBe 19 = .ok (.invokestatic 68, 3) := by decide +kernel
theorem dX12_mayBe_22 : decode cX12_mayBe 22 = .ok (.ifCond .ne 5, 3) := by decide +kernel
theorem dX12_mayBe_25 : decode cX12_mayBe 25 = .ok (.iconst (-1), 1) := by decide +kernel
theorem dX12_mayBe_26 : decode cX12_mayBe 26 = .ok (.ireturn, 1) := by decide +kernel
theorem dX12_mayBe_27 : decode cX12_mayBe 27 = .ok (.iconst 5, 1) := by decide +kernel
theorem dX12_mayBe_28 : decode cX12_mayBe 28 = .ok (.iload_n 1, 1) := by decide +kernel
theorem dX12_mayBe_29 : decode cX12_mayBe 29 = .ok (.imul, 1) := by decide +kernel
theorem dX12_mayBe_30 : decode cX12_mayBe 30 = .ok (.iload_n 2, 1) := by decide +kernel
theorem dX12_mayBe_31 : decode cX12_mayBe 31 = .ok (.iadd, 1) := by decide +kernel
theorem dX12_mayBe_32 : decode cX12_mayBe 32 = .ok (.istore 4, 2) := by decide +kernel
theorem dX12_mayBe_34 : decode cX12_mayBe 34 = .ok (.aload_n 0, 1) := by decide +kernel
theorem dX12_mayBe_35 : decode cX12_mayBe 35 = .ok (.getfield 23, 3) := by decide +kernel
theorem dX12_mayBe_38 : decode cX12_mayBe 38 = .ok (.iload 4, 2) := by decide +kernel
theorem dX12_mayBe_40 : decode cX12_mayBe 40 = .ok (.iaload, 1) := by decide +kernel
theorem dX12_mayBe_41 : decode cX12_mayBe 41 = .ok (.istore 5, 2) := by decide +kernel
theorem dX12_mayBe_43 : decode cX12_mayBe 43 = .ok (.iconst 0, 1) := by decide +kernel
theorem dX12_mayBe_44 : decode cX12_mayBe 44 = .ok (.istore 6, 2) := by decide +kernel
theorem dX12_mayBe_46 : decode cX12_mayBe 46 = .ok (.bipush (-9), 2) := by decide +kernel
theorem dX12_mayBe_48 : decode cX12_mayBe 48 = .ok (.istore 7, 2) := by decide +kernel
theorem dX12_mayBe_50 : decode cX12_mayBe 50 = .ok (.iconst 0, 1) := by decide +kernel
theorem dX12_mayBe_51 : decode cX12_mayBe 51 = .ok (.istore 8, 2) := by decide +kernel
theorem dX12_mayBe_53 : decode cX12_mayBe 53 = .ok (.iload 8, 2) := by decide +kernel
theorem dX12_mayBe_55 : decode cX12_mayBe 55 = .ok (.bipush 20, 2) := by decide +kernel
theorem dX12_mayBe_57 : decode cX12_mayBe 57 = .ok (.if_icmp .gt 42, 3) := by decide +kernel
theorem dX12_mayBe_60 : decode cX12_mayBe 60 = .ok (.aload_n 0, 1) := by decide +kernel
theorem dX12_mayBe_61 : decode cX12_mayBe 61 = .ok (.getfield 23, 3) := by decide +kernel
theorem dX12_mayBe_64 : decode cX12_mayBe 64 = .ok (.iload 4, 2) := by decide +kernel
theorem dX12_mayBe_66 : decode cX12_mayBe 66 = .ok (.iload 8, 2) := by decide +kernel
theorem dX12_mayBe_68 : decode cX12_mayBe 68 = .ok (.iastore, 1) := by decide +kernel
theorem dX12_mayBe_69 : decode cX12_mayBe 69 = .ok (.aload_n 0, 1) := by decide +kernel
theorem dX12_mayBe_70 : decode cX12_mayBe 70 = .ok (.invokevirtual 227, 3) := by decide +kernel
theorem dX12_mayBe_73 : decode cX12_mayBe 73 = .ok (.ifCond .eq 20, 3) := by decide +kernel
theorem dX12_mayBe_76 : decode cX12_mayBe 76 = .ok (.iload 6, 2) := by decide +kernel
theorem dX12_mayBe_78 : decode cX12_mayBe 78 = .ok (.ifCond .ne 8, 3) := by decide +kernel
theorem dX12_mayBe_81 : decode cX12_mayBe 81 = .ok (.iload 8, 2) := by decide +kernel
theorem dX12_mayBe_83 : decode cX12_mayBe 83 = .ok (.goto 5, 3) := by decide +kernel
theorem dX12_mayBe_86 : decode cX12_mayBe 86 = .ok (.iload 7, 2) := by decide +kernel
theorem dX12_mayBe_88 : decode cX12_mayBe 88 = .ok (.istore 7, 2) := by decide +kernel
theorem dX12_mayBe_90 : decode cX12_mayBe 90 = .ok (.iinc 6 1, 3) := by decide +kernel
theorem dX12_mayBe_93 : decode cX12_mayBe 93 = .ok (.iinc 8 1, 3) := by decide +kernel
theorem dX12_mayBe_96 : decode cX12_mayBe 96 = .ok (.goto (-43), 3) := by decide +kernel
theorem dX12_mayBe_99 : decode cX12_mayBe 99 = .ok (.aload_n 0, 1) := by decide +kernel
theorem dX12_mayBe_100 : decode cX12_mayBe 100 = .ok (.getfield 23, 3) := by decide +kernel
theorem dX12_mayBe_103 : decode cX12_mayBe 103 = .ok (.iload 4, 2) := by decide +kernel
theorem dX12_mayBe_105 : decode cX12_mayBe 105 = .ok (.iload 5, 2) := by decide +kernel
theorem dX12_mayBe_107 : decode cX12_mayBe 107 = .ok (.iastore, 1) := by decide +kernel
theorem dX12_mayBe_108 : decode cX12_mayBe 108 = .ok (.iload_n 3, 1) := by decide +kernel
theorem dX12_mayBe_109 : decode cX12_mayBe 109 = .ok (.ifCond .ne 8, 3) := by decide +kernel
theorem dX12_mayBe_112 : decode cX12_mayBe 112 = .ok (.iload 6, 2) := by decide +kernel
theorem dX12_mayBe_114 : decode cX12_mayBe 114 = .ok (.goto 5, 3) := by decide +kernel
theorem dX12_mayBe_117 : decode cX12_mayBe 117 = .ok (.iload 7, 2) := by decide +kernel
theorem dX12_mayBe_119 : decode cX12_mayBe 119 = .ok (.ireturn, 1) := by decide +kernel
set_option maxRecDepth 100000 in
theorem ggX12_plan_X12_in : GoodIn wsX12_plan wsX12_in := goodIn_r _ [8] rfl (by decide +kernel)
set_option maxRecDepth 100000 in
theorem gX12_plan_X12_in : GoodIn wsX12_plan (va_wsS RX12 68 yX12_in wsX12_in) := goodIn_app (goodIn_r ([.methodLink RX12 68 yX12_in, .static yX12_in, .initialized RX12] : List Cond) [5, 6, 7] rfl (by decide +kernel)) ggX12_plan_X12_in
theorem dX12_plan_0 : decode cX12_plan 0 = .ok (.iload_n 1, 1) := by decide +kernel
theorem dX12_plan_1 : decode cX12_plan 1 = .ok (.i2l, 1) := by decide +kernel
theorem dX12_plan_2 : decode cX12_plan 2 = .ok (.ldc2_w 225, 3) := by decide +kernel
theorem dX12_plan_5 : decode cX12_plan 5 = .ok (.ldc2_w 140, 3) := by decide +kernel
theorem dX12_plan_8 : decode cX12_plan 8 = .ok (.invokestatic 68, 3) := by decide +kernel
theorem dX12_plan_11 : decode cX12_plan 11 = .ok (.ifCond .ne 5, 3) := by decide +kernel
theorem dX12_plan_14 : decode cX12_plan 14 = .ok (.iconst (-1), 1) := by decide +kernel
theorem dX12_plan_15 : decode cX12_plan 15 = .ok (.ireturn, 1) := by decide +kernel
theorem dX12_plan_16 : decode cX12_plan 16 = .ok (.aload_n 0, 1) := by decide +kernel
theorem dX12_plan_17 : decode cX12_plan 17 = .ok (.getfield 134, 3) := by decide +kernel
theorem dX12_plan_20 : decode cX12_plan 20 = .ok (.bipush 8, 2) := by decide +kernel
theorem dX12_plan_22 : decode cX12_plan 22 = .ok (.if_icmp .ne 6, 3) := by decide +kernel
theorem dX12_plan_25 : decode cX12_plan 25 = .ok (.bipush (-3), 2) := by decide +kernel
theorem dX12_plan_27 : decode cX12_plan 27 = .ok (.ireturn, 1) := by decide +kernel
theorem dX12_plan_28 : decode cX12_plan 28 = .ok (.aload_n 0, 1) := by decide +kernel
theorem dX12_plan_29 : decode cX12_plan 29 = .ok (.getfield 39, 3) := by decide +kernel
theorem dX12_plan_32 : decode cX12_plan 32 = .ok (.aload_n 0, 1) := by decide +kernel
theorem dX12_plan_33 : decode cX12_plan 33 = .ok (.getfield 134, 3) := by decide +kernel
theorem dX12_plan_36 : decode cX12_plan 36 = .ok (.iload_n 1, 1) := by decide +kernel
theorem dX12_plan_37 : decode cX12_plan 37 = .ok (.iastore, 1) := by decide +kernel
theorem dX12_plan_38 : decode cX12_plan 38 = .ok (.aload_n 0, 1) := by decide +kernel
theorem dX12_plan_39 : decode cX12_plan 39 = .ok (.dup, 1) := by decide +kernel
theorem dX12_plan_40 : decode cX12_plan 40 = .ok (.getfield 134, 3) := by decide +kernel
theorem dX12_plan_43 : decode cX12_plan 43 = .ok (.iconst 1, 1) := by decide +kernel
theorem dX12_plan_44 : decode cX12_plan 44 = .ok (.iadd, 1) := by decide +kernel
theorem dX12_plan_45 : decode cX12_plan 45 = .ok (.putfield 134, 3) := by decide +kernel
theorem dX12_plan_48 : decode cX12_plan 48 = .ok (.aload_n 0, 1) := by decide +kernel
theorem dX12_plan_49 : decode cX12_plan 49 = .ok (.getfield 134, 3) := by decide +kernel
theorem dX12_plan_52 : decode cX12_plan 52 = .ok (.ireturn, 1) := by decide +kernel
theorem dX12_unplan_0 : decode cX12_unplan 0 = .ok (.aload_n 0, 1) := by decide +kernel
theorem dX12_unplan_1 : decode cX12_unplan 1 = .ok (.getfield 134, 3) := by decide +kernel
theorem dX12_unplan_4 : decode cX12_unplan 4 = .ok (.istore_n 1, 1) := by decide +kernel
theorem dX12_unplan_5 : decode cX12_unplan 5 = .ok (.aload_n 0, 1) := by decide +kernel
theorem dX12_unplan_6 : decode cX12_unplan 6 = .ok (.iconst 0, 1) := by decide +kernel
theorem dX12_unplan_7 : decode cX12_unplan 7 = .ok (.putfield 134, 3) := by decide +kernel
theorem dX12_unplan_10 : decode cX12_unplan 10 = .ok (.iload_n 1, 1) := by decide +kernel
theorem dX12_unplan_11 : decode cX12_unplan 11 = .ok (.ireturn, 1) := by decide +kernel
set_option maxRecDepth 100000 in
theorem ggX12_planned_X12_isBidder : GoodIn wsX12_planned wsX12_isBidder := goodIn_r _ [8, 9, 10, 11, 7, 12, 32, 33, 34, 35, 36, 37, 38, 39, 40, 41, 42, 43, 44, 45, 46, 47, 48, 49, 50, 51, 52, 53, 54, 55, 56, 57, 58, 59, 60, 61, 62, 63, 64, 65, 66] rfl (by decide +kernel)
set_option maxRecDepth 100000 in
theorem gX12_planned_X12_isBidder : GoodIn wsX12_planned (wsV RX12 142 RX12 yX12_isBidder wsX12_isBidder) := goodIn_app (goodIn_r ([.methodLink RX12 142 yX12_isBidder, .instanceMethod yX12_isBidder, .selects RX12 yX12_isBidder yX12_isBidder, .initialized RX12] : List Cond) [4, 5, 6, 7] rfl (by decide +kernel)) ggX12_planned_X12_isBidder
set_option maxRecDepth 100000 in
theorem ggX12_planned_X12_tries : GoodIn wsX12_planned wsX12_tries := goodIn_r _ [16, 3, 17, 18, 19, 7, 20, 32, 33, 34, 35, 36, 37, 38, 39, 40, 41, 42, 43, 44, 45, 46, 47, 48, 49, 50, 51, 52, 53, 54, 55, 56, 57, 58, 59, 60, 61, 62, 63, 64, 65, 66] rfl (by decide +kernel)
set_option maxRecDepth 100000 in
theorem gX12_planned_X12_tries : GoodIn wsX12_planned (wsV RX12 208 RX12 yX12_tries wsX12_tries) := goodIn_app (goodIn_r ([.methodLink RX12 208 yX12_tries, .instanceMethod yX12_tries, .selects RX12 yX12_tries yX12_tries, .initialized RX12] : List Cond) [13, 14, 15, 7] rfl (by decide +kernel)) ggX12_planned_X12_tries
set_option maxRecDepth 100000 in
theorem ggX12_planned_X12_comes : GoodIn wsX12_planned wsX12_comes := goodIn_r _ [24, 3, 9, 25, 26, 27, 28, 29, 30, 7, 31, 32, 33, 34, 35, 36, 37, 38, 39, 40, 41, 42, 43, 44, 45, 46, 47, 48, 49, 50, 51, 52, 53, 54, 55, 56, 57, 58, 59, 60, 61, 62, 63, 64, 65, 66] rfl (by decide +kernel)
set_option maxRecDepth 100000 in
theorem gX12_planned_X12_comes : GoodIn wsX12_planned (wsV RX12 177 RX12 yX12_comes wsX12_comes) := goodIn_app (goodIn_r ([.methodLink RX12 177 yX12_comes, .instanceMethod yX12_comes, .selects RX12 yX12_comes yX12_comes, .initialized RX12] : List Cond) [21, 22, 23, 7] rfl (by decide +kernel)) ggX12_planned_X12_comes
theorem dX12_planned_0 : decode cX12_planned 0 = .ok (.iload_n 1, 1) := by decide +kernel
theorem dX12_planned_1 : decode cX12_planned 1 = .ok (.iconst (-1), 1) := by decide +kernel
theorem dX12_planned_2 : decode cX12_planned 2 = .ok (.if_icmp .eq 13, 3) := by decide +kernel
theorem dX12_planned_5 : decode cX12_planned 5 = .ok (.aload_n 0, 1) := by decide +kernel
theorem dX12_planned_6 : decode cX12_planned 6 = .ok (.iload_n 1, 1) := by decide +kernel
theorem dX12_planned_7 : decode cX12_planned 7 = .ok (.invokevirtual 142, 3) := by decide +kernel
theorem dX12_planned_10 : decode cX12_planned 10 = .ok (.ifCond .ne 5, 3) := by decide +kernel
theorem dX12_planned_13 : decode cX12_planned 13 = .ok (.iconst (-1), 1) := by decide +kernel
theorem dX12_planned_14 : decode cX12_planned 14 = .ok (.ireturn, 1) := by decide +kernel
theorem dX12_planned_15 : decode cX12_planned 15 = .ok (.aload_n 0, 1) := by decide +kernel
theorem dX12_planned_16 : decode cX12_planned 16 = .ok (.invokevirtual 208, 3) := by decide +kernel
theorem dX12_planned_19 : decode cX12_planned 19 = .ok (.iconst 0, 1) := by decide +kernel
theorem dX12_planned_20 : decode cX12_planned 20 = .ok (.istore_n 2, 1) := by decide +kernel
theorem dX12_planned_21 : decode cX12_planned 21 = .ok (.iload_n 2, 1) := by decide +kernel
theorem dX12_planned_22 : decode cX12_planned 22 = .ok (.aload_n 0, 1) := by decide +kernel
theorem dX12_planned_23 : decode cX12_planned 23 = .ok (.getfield 134, 3) := by decide +kernel
theorem dX12_planned_26 : decode cX12_planned 26 = .ok (.if_icmp .ge 30, 3) := by decide +kernel
theorem dX12_planned_29 : decode cX12_planned 29 = .ok (.aload_n 0, 1) := by decide +kernel
theorem dX12_planned_30 : decode cX12_planned 30 = .ok (.getfield 39, 3) := by decide +kernel
theorem dX12_planned_33 : decode cX12_planned 33 = .ok (.iload_n 2, 1) := by decide +kernel
theorem dX12_planned_34 : decode cX12_planned 34 = .ok (.iaload, 1) := by decide +kernel
theorem dX12_planned_35 : decode cX12_planned 35 = .ok (.ifCond .lt 15, 3) := by decide +kernel
theorem dX12_planned_38 : decode cX12_planned 38 = .ok (.aload_n 0, 1) := by decide +kernel
theorem dX12_planned_39 : decode cX12_planned 39 = .ok (.bipush 120, 2) := by decide +kernel
theorem dX12_planned_41 : decode cX12_planned 41 = .ok (.aload_n 0, 1) := by decide +kernel
theorem dX12_planned_42 : decode cX12_planned 42 = .ok (.getfield 39, 3) := by decide +kernel
theorem dX12_planned_45 : decode cX12_planned 45 = .ok (.iload_n 2, 1) := by decide +kernel
theorem dX12_planned_46 : decode cX12_planned 46 = .ok (.iaload, 1) := by decide +kernel
theorem dX12_planned_47 : decode cX12_planned 47 = .ok (.invokevirtual 177, 3) := by decide +kernel
theorem dX12_planned_50 : decode cX12_planned 50 = .ok (.iinc 2 1, 3) := by decide +kernel
theorem dX12_planned_53 : decode cX12_planned 53 = .ok (.goto (-32), 3) := by decide +kernel
theorem dX12_planned_56 : decode cX12_planned 56 = .ok (.iload_n 1, 1) := by decide +kernel
theorem dX12_planned_57 : decode cX12_planned 57 = .ok (.ifCond .ge 20, 3) := by decide +kernel
theorem dX12_planned_60 : decode cX12_planned 60 = .ok (.aload_n 0, 1) := by decide +kernel
theorem dX12_planned_61 : decode cX12_planned 61 = .ok (.getfield 7, 3) := by decide +kernel
theorem dX12_planned_64 : decode cX12_planned 64 = .ok (.bipush 123, 2) := by decide +kernel
theorem dX12_planned_66 : decode cX12_planned 66 = .ok (.iaload, 1) := by decide +kernel
theorem dX12_planned_67 : decode cX12_planned 67 = .ok (.aload_n 0, 1) := by decide +kernel
theorem dX12_planned_68 : decode cX12_planned 68 = .ok (.getfield 7, 3) := by decide +kernel
theorem dX12_planned_71 : decode cX12_planned 71 = .ok (.iconst 3, 1) := by decide +kernel
theorem dX12_planned_72 : decode cX12_planned 72 = .ok (.iaload, 1) := by decide +kernel
theorem dX12_planned_73 : decode cX12_planned 73 = .ok (.isub, 1) := by decide +kernel
theorem dX12_planned_74 : decode cX12_planned 74 = .ok (.goto 12, 3) := by decide +kernel
theorem dX12_planned_77 : decode cX12_planned 77 = .ok (.aload_n 0, 1) := by decide +kernel
theorem dX12_planned_78 : decode cX12_planned 78 = .ok (.getfield 7, 3) := by decide +kernel
theorem dX12_planned_81 : decode cX12_planned 81 = .ok (.bipush 126, 2) := by decide +kernel
theorem dX12_planned_83 : decode cX12_planned 83 = .ok (.iload_n 1, 1) := by decide +kernel
theorem dX12_planned_84 : decode cX12_planned 84 = .ok (.iadd, 1) := by decide +kernel
theorem dX12_planned_85 : decode cX12_planned 85 = .ok (.iaload, 1) := by decide +kernel
theorem dX12_planned_86 : decode cX12_planned 86 = .ok (.ireturn, 1) := by decide +kernel
set_option maxRecDepth 100000 in
theorem ggX12_odds_X12_isDebt : GoodIn wsX12_odds wsX12_isDebt := goodIn_r _ [8, 9, 10, 11, 7, 12, 62, 63, 64, 65, 66, 67, 68, 69, 70, 71, 72, 73, 74, 75, 76, 77, 78, 79, 80, 81, 82, 83, 84, 85, 86, 87, 88, 89, 90, 91, 92, 93, 94, 95, 96] rfl (by decide +kernel)
set_option maxRecDepth 100000 in
theorem gX12_odds_X12_isDebt : GoodIn wsX12_odds (wsV RX12 148 RX12 yX12_isDebt wsX12_isDebt) := goodIn_app (goodIn_r ([.methodLink RX12 148 yX12_isDebt, .instanceMethod yX12_isDebt, .selects RX12 yX12_isDebt yX12_isDebt, .initialized RX12] : List Cond) [4, 5, 6, 7] rfl (by decide +kernel)) ggX12_odds_X12_isDebt
set_option maxRecDepth 100000 in
theorem ggX12_odds_X12_in : GoodIn wsX12_odds wsX12_in := goodIn_r _ [12] rfl (by decide +kernel)
set_option maxRecDepth 100000 in
theorem gX12_odds_X12_in : GoodIn wsX12_odds (va_wsS RX12 68 yX12_in wsX12_in) := goodIn_app (goodIn_r ([.methodLink RX12 68 yX12_in, .static yX12_in, .initialized RX12] : List Cond) [10, 11, 7] rfl (by decide +kernel)) ggX12_odds_X12_in
set_option maxRecDepth 100000 in
theorem ggX12_odds_X12_tries : GoodIn wsX12_odds wsX12_tries := goodIn_r _ [16, 3, 17, 18, 19, 7, 20, 62, 63, 64, 65, 66, 67, 68, 69, 70, 71, 72, 73, 74, 75, 76, 77, 78, 79, 80, 81, 82, 83, 84, 85, 86, 87, 88, 89, 90, 91, 92, 93, 94, 95, 96] rfl (by decide +kernel)
set_option maxRecDepth 100000 in
theorem gX12_odds_X12_tries : GoodIn wsX12_odds (wsV RX12 208 RX12 yX12_tries wsX12_tries) := goodIn_app (goodIn_r ([.methodLink RX12 208 yX12_tries, .instanceMethod yX12_tries, .selects RX12 yX12_tries yX12_tries, .initialized RX12] : List Cond) [13, 14, 15, 7] rfl (by decide +kernel)) ggX12_odds_X12_tries
set_option maxRecDepth 100000 in
theorem ggX12_odds_X12_has : GoodIn wsX12_odds wsX12_has := goodIn_r _ [23] rfl (by decide +kernel)
set_option maxRecDepth 100000 in
theorem gX12_odds_X12_has : GoodIn wsX12_odds (va_wsS RX12 230 yX12_has wsX12_has) := goodIn_app (goodIn_r ([.methodLink RX12 230 yX12_has, .static yX12_has, .initialized RX12] : List Cond) [21, 22, 7] rfl (by decide +kernel)) ggX12_odds_X12_has
set_option maxRecDepth 100000 in
theorem ggX12_odds_X12_goes : GoodIn wsX12_odds wsX12_goes := goodIn_r _ [27, 28, 29, 30, 7, 31, 32, 33, 34, 3, 35, 36, 37, 38, 39, 40, 41, 42, 43, 44, 45, 46, 47, 48, 49, 50, 51, 52, 53, 54, 55, 56, 9, 57, 58, 59, 60, 61, 62, 63, 64, 65, 66, 67, 68, 69, 70, 71, 72, 73, 74, 75, 76, 77, 78, 79, 80, 81, 82, 83, 84, 85, 86, 87, 88, 89, 90, 91, 92, 93, 94, 95, 96] rfl (by decide +kernel)
set_option maxRecDepth 100000 in
theorem gX12_odds_X12_goes : GoodIn wsX12_odds (wsV RX12 203 RX12 yX12_goes wsX12_goes) := goodIn_app (goodIn_r ([.methodLink RX12 203 yX12_goes, .instanceMethod yX12_goes, .selects RX12 yX12_goes yX12_goes, .initialized RX12] : List Cond) [24, 25, 26, 7] rfl (by decide +kernel)) ggX12_odds_X12_goes
theorem dX12_odds_0 : decode cX12_odds 0 = .ok (.aload_n 0, 1) := by decide +kernel
theorem dX12_odds_1 : decode cX12_odds 1 = .ok (.iload_n 1, 1) := by decide +kernel
theorem dX12_odds_2 : decode cX12_odds 2 = .ok (.invokevirtual 148, 3) := by decide +kernel
theorem dX12_odds_5 : decode cX12_odds 5 = .ok (.ifCond .eq 38, 3) := by decide +kernel
theorem dX12_odds_8 : decode cX12_odds 8 = .ok (.iload_n 2, 1) := by decide +kernel
theorem dX12_odds_9 : decode cX12_odds 9 = .ok (.i2l, 1) := by decide +kernel
theorem dX12_odds_10 : decode cX12_odds 10 = .ok (.lconst 0, 1) := by decide +kernel
theorem dX12_odds_11 : decode cX12_odds 11 = .ok (.ldc2_w 216, 3) := by decide +kernel
theorem dX12_odds_14 : decode cX12_odds 14 = .ok (.invokestatic 68, 3) := by decide +kernel
theorem dX12_odds_17 : decode cX12_odds 17 = .ok (.ifCond .eq 26, 3) := by decide +kernel
theorem dX12_odds_20 : decode cX12_odds 20 = .ok (.iload_n 3, 1) := by decide +kernel
theorem dX12_odds_21 : decode cX12_odds 21 = .ok (.i2l, 1) := by decide +kernel
theorem dX12_odds_22 : decode cX12_odds 22 = .ok (.lconst 0, 1) := by decide +kernel
theorem dX12_odds_23 : decode cX12_odds 23 = .ok (.ldc2_w 146, 3) := by decide +kernel
theorem dX12_odds_26 : decode cX12_odds 26 = .ok (.invokestatic 68, 3) := by decide +kernel
theorem dX12_odds_29 : decode cX12_odds 29 = .ok (.ifCond .eq 14, 3) := by decide +kernel
theorem dX12_odds_32 : decode cX12_odds 32 = .ok (.iload 4, 2) := by decide +kernel
theorem dX12_odds_34 : decode cX12_odds 34 = .ok (.i2l, 1) := by decide +kernel
theorem dX12_odds_35 : decode cX12_odds 35 = .ok (.lconst 0, 1) := by decide +kernel
theorem dX12_odds_36 : decode cX12_odds 36 = .ok (.lconst 1, 1) := by decide +kernel
theorem dX12_odds_37 : decode cX12_odds 37 = .ok (.invokestatic 68, 3) := by decide +kernel
theorem dX12_odds_40 : decode cX12_odds 40 = .ok (.ifCond .ne 5, 3) := by decide +kernel
theorem dX12_odds_43 : decode cX12_odds 43 = .ok (.iconst (-1), 1) := by decide +kernel
theorem dX12_odds_44 : decode cX12_odds 44 = .ok (.ireturn, 1) := by decide +kernel
theorem dX12_odds_45 : decode cX12_odds 45 = .ok (.iconst 0, 1) := by decide +kernel
theorem dX12_odds_46 : decode cX12_odds 46 = .ok (.istore 5, 2) := by decide +kernel
theorem dX12_odds_48 : decode cX12_odds 48 = .ok (.iconst 1, 1) := by decide +kernel
theorem dX12_odds_49 : decode cX12_odds 49 = .ok (.istore 6, 2) := by decide +kernel
theorem dX12_odds_51 : decode cX12_odds 51 = .ok (.iconst 0, 1) := by decide +kernel
theorem dX12_odds_52 : decode cX12_odds 52 = .ok (.istore 7, 2) := by decide +kernel
theorem dX12_odds_54 : decode cX12_odds 54 = .ok (.iload 7, 2) := by decide +kernel
theorem dX12_odds_56 : decode cX12_odds 56 = .ok (.iload_n 3, 1) := by decide +kernel
theorem dX12_odds_57 : decode cX12_odds 57 = .ok (.if_icmp .ge 16, 3) := by decide +kernel
theorem dX12_odds_60 : decode cX12_odds 60 = .ok (.iload 6, 2) := by decide +kernel
theorem dX12_odds_62 : decode cX12_odds 62 = .ok (.bipush 10, 2) := by decide +kernel
theorem dX12_odds_64 : decode cX12_odds 64 = .ok (.imul, 1) := by decide +kernel
theorem dX12_odds_65 : decode cX12_odds 65 = .ok (.istore 6, 2) := by decide +kernel
theorem dX12_odds_67 : decode cX12_odds 67 = .ok (.iinc 7 1, 3) := by decide +kernel
theorem dX12_odds_70 : decode cX12_odds 70 = .ok (.goto (-16), 3) := by decide +kernel
theorem dX12_odds_73 : decode cX12_odds 73 = .ok (.iconst 0, 1) := by decide +kernel
theorem dX12_odds_74 : decode cX12_odds 74 = .ok (.istore 7, 2) := by decide +kernel
theorem dX12_odds_76 : decode cX12_odds 76 = .ok (.iload 7, 2) := by decide +kernel
theorem dX12_odds_78 : decode cX12_odds 78 = .ok (.iconst 1, 1) := by decide +kernel
theorem dX12_odds_79 : decode cX12_odds 79 = .ok (.iload_n 3, 1) := by decide +kernel
theorem dX12_odds_80 : decode cX12_odds 80 = .ok (.ishl, 1) := by decide +kernel
theorem dX12_odds_81 : decode cX12_odds 81 = .ok (.if_icmp .ge 109, 3) := by decide +kernel
theorem dX12_odds_84 : decode cX12_odds 84 = .ok (.iconst 1, 1) := by decide +kernel
theorem dX12_odds_85 : decode cX12_odds 85 = .ok (.istore 8, 2) := by decide +kernel
theorem dX12_odds_87 : decode cX12_odds 87 = .ok (.aload_n 0, 1) := by decide +kernel
theorem dX12_odds_88 : decode cX12_odds 88 = .ok (.invokevirtual 208, 3) := by decide +kernel
theorem dX12_odds_91 : decode cX12_odds 91 = .ok (.iconst 0, 1) := by decide +kernel
theorem dX12_odds_92 : decode cX12_odds 92 = .ok (.istore 9, 2) := by decide +kernel
theorem dX12_odds_94 : decode cX12_odds 94 = .ok (.iload 9, 2) := by decide +kernel
theorem dX12_odds_96 : decode cX12_odds 96 = .ok (.iload_n 3, 1) := by decide +kernel
theorem dX12_odds_97 : decode cX12_odds 97 = .ok (.if_icmp .ge 63, 3) := by decide +kernel
theorem dX12_odds_100 : decode cX12_odds 100 = .ok (.iload 8, 2) := by decide +kernel
theorem dX12_odds_102 : decode cX12_odds 102 = .ok (.iload 7, 2) := by decide +kernel
theorem dX12_odds_104 : decode cX12_odds 104 = .ok (.iload 9, 2) := by decide +kernel
theorem dX12_odds_106 : decode cX12_odds 106 = .ok (.invokestatic 230, 3) := by decide +kernel
theorem dX12_odds_109 : decode cX12_odds 109 = .ok (.ifCond .eq 7, 3) := by decide +kernel
theorem dX12_odds_112 : decode cX12_odds 112 = .ok (.iload_n 2, 1) := by decide +kernel
theorem dX12_odds_113 : decode cX12_odds 113 = .ok (.goto 7, 3) := by decide +kernel
theorem dX12_odds_116 : decode cX12_odds 116 = .ok (.bipush 10, 2) := by decide +kernel
theorem dX12_odds_118 : decode cX12_odds 118 = .ok (.iload_n 2, 1) := by decide +kernel
theorem dX12_odds_119 : decode cX12_odds 119 = .ok (.isub, 1) := by decide +kernel
theorem dX12_odds_120 : decode cX12_odds 120 = .ok (.imul, 1) := by decide +kernel
theorem dX12_odds_121 : decode cX12_odds 121 = .ok (.istore 8, 2) := by decide +kernel
theorem dX12_odds_123 : decode cX12_odds 123 = .ok (.iload 7, 2) := by decide +kernel
theorem dX12_odds_125 : decode cX12_odds 125 = .ok (.iload 9, 2) := by decide +kernel
theorem dX12_odds_127 : decode cX12_odds 127 = .ok (.invokestatic 230, 3) := by decide +kernel
theorem dX12_odds_130 : decode cX12_odds 130 = .ok (.ifCond .eq 17, 3) := by decide +kernel
theorem dX12_odds_133 : decode cX12_odds 133 = .ok (.aload_n 0, 1) := by decide +kernel
theorem dX12_odds_134 : decode cX12_odds 134 = .ok (.getfield 7, 3) := by decide +kernel
theorem dX12_odds_137 : decode cX12_odds 137 = .ok (.bipush 121, 2) := by decide +kernel
theorem dX12_odds_139 : decode cX12_odds 139 = .ok (.dup2, 1) := by decide +kernel
theorem dX12_odds_140 : decode cX12_odds 140 = .ok (.iaload, 1) := by decide +kernel
theorem dX12_odds_141 : decode cX12_odds 141 = .ok (.iconst 1, 1) := by decide +kernel
theorem dX12_odds_142 : decode cX12_odds 142 = .ok (.iadd, 1) := by decide +kernel
theorem dX12_odds_143 : decode cX12_odds 143 = .ok (.iastore, 1) := by decide +kernel
theorem dX12_odds_144 : decode cX12_odds 144 = .ok (.goto 10, 3) := by decide +kernel
theorem dX12_odds_147 : decode cX12_odds 147 = .ok (.aload_n 0, 1) := by decide +kernel
theorem dX12_odds_148 : decode cX12_odds 148 = .ok (.bipush 120, 2) := by decide +kernel
theorem dX12_odds_150 : decode cX12_odds 150 = .ok (.invokevirtual 203, 3) := by decide +kernel
theorem dX12_odds_153 : decode cX12_odds 153 = .ok (.pop, 1) := by decide +kernel
theorem dX12_odds_154 : decode cX12_odds 154 = .ok (.iinc 9 1, 3) := by decide +kernel
theorem dX12_odds_157 : decode cX12_odds 157 = .ok (.goto (-63), 3) := by decide +kernel
theorem dX12_odds_160 : decode cX12_odds 160 = .ok (.iload 5, 2) := by decide +kernel
theorem dX12_odds_162 : decode cX12_odds 162 = .ok (.aload_n 0, 1) := by decide +kernel
theorem dX12_odds_163 : decode cX12_odds 163 = .ok (.getfield 7, 3) := by decide +kernel
theorem dX12_odds_166 : decode cX12_odds 166 = .ok (.sipush 130, 3) := by decide +kernel
theorem dX12_odds_169 : decode cX12_odds 169 = .ok (.iload_n 1, 1) := by decide +kernel
theorem dX12_odds_170 : decode cX12_odds 170 = .ok (.iadd, 1) := by decide +kernel
theorem dX12_odds_171 : decode cX12_odds 171 = .ok (.iaload, 1) := by decide +kernel
theorem dX12_odds_172 : decode cX12_odds 172 = .ok (.ifCond .eq 8, 3) := by decide +kernel
theorem dX12_odds_175 : decode cX12_odds 175 = .ok (.iload 8, 2) := by decide +kernel
theorem dX12_odds_177 : decode cX12_odds 177 = .ok (.goto 4, 3) := by decide +kernel
theorem dX12_odds_180 : decode cX12_odds 180 = .ok (.iconst 0, 1) := by decide +kernel
theorem dX12_odds_181 : decode cX12_odds 181 = .ok (.iadd, 1) := by decide +kernel
theorem dX12_odds_182 : decode cX12_odds 182 = .ok (.istore 5, 2) := by decide +kernel
theorem dX12_odds_184 : decode cX12_odds 184 = .ok (.iinc 7 1, 3) := by decide +kernel
theorem dX12_odds_187 : decode cX12_odds 187 = .ok (.goto (-111), 3) := by decide +kernel
theorem dX12_odds_190 : decode cX12_odds 190 = .ok (.iload 5, 2) := by decide +kernel
theorem dX12_odds_192 : decode cX12_odds 192 = .ok (.istore 7, 2) := by decide +kernel
