set_option maxRecDepth 100000 in
theorem ggX0_init_X3_init : GoodIn wsX0_init wsX3_init := goodIn_r _ [12, 13, 2, 3, 8, 14, 15, 16, 17, 18, 19, 20, 21, 22, 23, 24] rfl (by decide +kernel)
set_option maxRecDepth 100000 in
theorem gX0_init_X3_init_n11 : GoodIn wsX0_init (wsX3_init) := ggX0_init_X3_init
theorem dX0_init_0 : decode cX0_init 0 = .ok (.aload_n 0, 1) := by decide +kernel
theorem dX0_init_1 : decode cX0_init 1 = .ok (.invokespecial 3, 3) := by decide +kernel
theorem dX0_init_4 : decode cX0_init 4 = .ok (.aload_n 0, 1) := by decide +kernel
theorem dX0_init_5 : decode cX0_init 5 = .ok (.new 9, 3) := by decide +kernel
theorem dX0_init_8 : decode cX0_init 8 = .ok (.dup, 1) := by decide +kernel
theorem dX0_init_9 : decode cX0_init 9 = .ok (.invokespecial 11, 3) := by decide +kernel
theorem dX0_init_12 : decode cX0_init 12 = .ok (.putfield 12, 3) := by decide +kernel
theorem dX0_init_15 : decode cX0_init 15 = .ok (.aload_n 0, 1) := by decide +kernel
theorem dX0_init_16 : decode cX0_init 16 = .ok (.bipush 8, 2) := by decide +kernel
theorem dX0_init_18 : decode cX0_init 18 = .ok (.newarray .int, 2) := by decide +kernel
theorem dX0_init_20 : decode cX0_init 20 = .ok (.putfield 18, 3) := by decide +kernel
theorem dX0_init_23 : decode cX0_init 23 = .ok (.aload_n 0, 1) := by decide +kernel
theorem dX0_init_24 : decode cX0_init 24 = .ok (.aload_n 1, 1) := by decide +kernel
theorem dX0_init_25 : decode cX0_init 25 = .ok (.putfield 22, 3) := by decide +kernel
theorem dX0_init_28 : decode cX0_init 28 = .ok (.return_, 1) := by decide +kernel
set_option maxRecDepth 100000 in
theorem ggX0_add_X11_put : GoodIn wsX0_add wsX11_put := goodIn_r _ [5] rfl (by decide +kernel)
set_option maxRecDepth 100000 in
theorem gX0_add_X11_put_n30 : GoodIn wsX0_add (wsX11_put) := ggX0_add_X11_put
theorem dX0_add_0 : decode cX0_add 0 = .ok (.aload_n 0, 1) := by decide +kernel
theorem dX0_add_1 : decode cX0_add 1 = .ok (.getfield 18, 3) := by decide +kernel
theorem dX0_add_4 : decode cX0_add 4 = .ok (.aload_n 0, 1) := by decide +kernel
theorem dX0_add_5 : decode cX0_add 5 = .ok (.getfield 26, 3) := by decide +kernel
theorem dX0_add_8 : decode cX0_add 8 = .ok (.iload_n 1, 1) := by decide +kernel
theorem dX0_add_9 : decode cX0_add 9 = .ok (.invokestatic 30, 3) := by decide +kernel
theorem dX0_add_12 : decode cX0_add 12 = .ok (.aload_n 0, 1) := by decide +kernel
theorem dX0_add_13 : decode cX0_add 13 = .ok (.dup, 1) := by decide +kernel
theorem dX0_add_14 : decode cX0_add 14 = .ok (.getfield 26, 3) := by decide +kernel
theorem dX0_add_17 : decode cX0_add 17 = .ok (.iconst 1, 1) := by decide +kernel
theorem dX0_add_18 : decode cX0_add 18 = .ok (.iadd, 1) := by decide +kernel
theorem dX0_add_19 : decode cX0_add 19 = .ok (.putfield 26, 3) := by decide +kernel
theorem dX0_add_22 : decode cX0_add 22 = .ok (.return_, 1) := by decide +kernel
theorem dX0_empty_0 : decode cX0_empty 0 = .ok (.aload_n 0, 1) := by decide +kernel
theorem dX0_empty_1 : decode cX0_empty 1 = .ok (.getfield 26, 3) := by decide +kernel
theorem dX0_empty_4 : decode cX0_empty 4 = .ok (.istore_n 1, 1) := by decide +kernel
theorem dX0_empty_5 : decode cX0_empty 5 = .ok (.aload_n 0, 1) := by decide +kernel
theorem dX0_empty_6 : decode cX0_empty 6 = .ok (.iconst 0, 1) := by decide +kernel
theorem dX0_empty_7 : decode cX0_empty 7 = .ok (.putfield 26, 3) := by decide +kernel
theorem dX0_empty_10 : decode cX0_empty 10 = .ok (.iload_n 1, 1) := by decide +kernel
theorem dX0_empty_11 : decode cX0_empty 11 = .ok (.ireturn, 1) := by decide +kernel
set_option maxRecDepth 100000 in
theorem ggX0_carriedOut_X3_copyFrom : GoodIn wsX0_carriedOut wsX3_copyFrom := goodIn_r _ [9, 10, 11, 12, 13, 14, 15, 16, 17, 18, 19, 20, 78, 79, 80, 81, 82, 83, 84, 85] rfl (by decide +kernel)
set_option maxRecDepth 100000 in
theorem gX0_carriedOut_X3_copyFrom : GoodIn wsX0_carriedOut (wsV RX0 34 RX3 yX3_copyFrom wsX3_copyFrom) := goodIn_app (goodIn_r ([.methodLink RX0 34 yX3_copyFrom, .instanceMethod yX3_copyFrom, .selects RX3 yX3_copyFrom yX3_copyFrom, .initialized RX3] : List Cond) [5, 6, 7, 8] rfl (by decide +kernel)) ggX0_carriedOut_X3_copyFrom
set_option maxRecDepth 100000 in
theorem ggX0_carriedOut_X11_at : GoodIn wsX0_carriedOut wsX11_at := goodIn_r _ [22] rfl (by decide +kernel)
set_option maxRecDepth 100000 in
theorem gX0_carriedOut_X11_at_n38 : GoodIn wsX0_carriedOut (wsX11_at) := ggX0_carriedOut_X11_at
set_option maxRecDepth 100000 in
theorem ggX0_carriedOut_X4_callDay : GoodIn wsX0_carriedOut wsX4_callDay := goodIn_r _ [27, 28, 29, 30, 31, 8, 32, 10, 13, 33, 19, 34, 35, 36, 37, 38, 39, 40, 21, 22, 41, 42, 43, 44, 11, 45, 46, 47, 48, 49, 50, 51, 52, 53, 54, 55, 56, 57, 58, 59, 60, 61, 12, 62, 63, 64, 26, 65, 66, 67, 68, 69, 70, 71, 72, 73, 86, 87, 88, 89, 90, 91, 92, 93, 94, 78, 79, 80, 81, 82, 83, 84, 85] rfl (by decide +kernel)
set_option maxRecDepth 100000 in
theorem gX0_carriedOut_X4_callDay : GoodIn wsX0_carriedOut (wsV RX0 42 RX4 yX4_callDay wsX4_callDay) := goodIn_app (goodIn_r ([.methodLink RX0 42 yX4_callDay, .instanceMethod yX4_callDay, .selects RX4 yX4_callDay yX4_callDay, .initialized RX4] : List Cond) [23, 24, 25, 26] rfl (by decide +kernel)) ggX0_carriedOut_X4_callDay
theorem dX0_carriedOut_0 : decode cX0_carriedOut 0 = .ok (.aload_n 0, 1) := by decide +kernel
theorem dX0_carriedOut_1 : decode cX0_carriedOut 1 = .ok (.getfield 12, 3) := by decide +kernel
theorem dX0_carriedOut_4 : decode cX0_carriedOut 4 = .ok (.aload_n 1, 1) := by decide +kernel
theorem dX0_carriedOut_5 : decode cX0_carriedOut 5 = .ok (.invokevirtual 34, 3) := by decide +kernel
theorem dX0_carriedOut_8 : decode cX0_carriedOut 8 = .ok (.iconst 0, 1) := by decide +kernel
theorem dX0_carriedOut_9 : decode cX0_carriedOut 9 = .ok (.istore_n 2, 1) := by decide +kernel
theorem dX0_carriedOut_10 : decode cX0_carriedOut 10 = .ok (.iload_n 2, 1) := by decide +kernel
theorem dX0_carriedOut_11 : decode cX0_carriedOut 11 = .ok (.aload_n 0, 1) := by decide +kernel
theorem dX0_carriedOut_12 : decode cX0_carriedOut 12 = .ok (.getfield 26, 3) := by decide +kernel
theorem dX0_carriedOut_15 : decode cX0_carriedOut 15 = .ok (.if_icmp .ge 34, 3) := by decide +kernel
theorem dX0_carriedOut_18 : decode cX0_carriedOut 18 = .ok (.aload_n 0, 1) := by decide +kernel
theorem dX0_carriedOut_19 : decode cX0_carriedOut 19 = .ok (.getfield 18, 3) := by decide +kernel
theorem dX0_carriedOut_22 : decode cX0_carriedOut 22 = .ok (.iload_n 2, 1) := by decide +kernel
theorem dX0_carriedOut_23 : decode cX0_carriedOut 23 = .ok (.invokestatic 38, 3) := by decide +kernel
theorem dX0_carriedOut_26 : decode cX0_carriedOut 26 = .ok (.istore_n 3, 1) := by decide +kernel
theorem dX0_carriedOut_27 : decode cX0_carriedOut 27 = .ok (.iload_n 3, 1) := by decide +kernel
theorem dX0_carriedOut_28 : decode cX0_carriedOut 28 = .ok (.ifCond .lt 15, 3) := by decide +kernel
theorem dX0_carriedOut_31 : decode cX0_carriedOut 31 = .ok (.aload_n 0, 1) := by decide +kernel
theorem dX0_carriedOut_32 : decode cX0_carriedOut 32 = .ok (.getfield 22, 3) := by decide +kernel
theorem dX0_carriedOut_35 : decode cX0_carriedOut 35 = .ok (.aload_n 0, 1) := by decide +kernel
theorem dX0_carriedOut_36 : decode cX0_carriedOut 36 = .ok (.getfield 12, 3) := by decide +kernel
theorem dX0_carriedOut_39 : decode cX0_carriedOut 39 = .ok (.iload_n 3, 1) := by decide +kernel
theorem dX0_carriedOut_40 : decode cX0_carriedOut 40 = .ok (.invokevirtual 42, 3) := by decide +kernel
theorem dX0_carriedOut_43 : decode cX0_carriedOut 43 = .ok (.iinc 2 1, 3) := by decide +kernel
theorem dX0_carriedOut_46 : decode cX0_carriedOut 46 = .ok (.goto (-36), 3) := by decide +kernel
theorem dX0_carriedOut_49 : decode cX0_carriedOut 49 = .ok (.aload_n 0, 1) := by decide +kernel
theorem dX0_carriedOut_50 : decode cX0_carriedOut 50 = .ok (.getfield 12, 3) := by decide +kernel
theorem dX0_carriedOut_53 : decode cX0_carriedOut 53 = .ok (.areturn, 1) := by decide +kernel
theorem dX1_init_0 : decode cX1_init 0 = .ok (.aload_n 0, 1) := by decide +kernel
theorem dX1_init_1 : decode cX1_init 1 = .ok (.invokespecial 3, 3) := by decide +kernel
theorem dX1_init_4 : decode cX1_init 4 = .ok (.aload_n 0, 1) := by decide +kernel
theorem dX1_init_5 : decode cX1_init 5 = .ok (.iconst 5, 1) := by decide +kernel
theorem dX1_init_6 : decode cX1_init 6 = .ok (.newarray .int, 2) := by decide +kernel
theorem dX1_init_8 : decode cX1_init 8 = .ok (.putfield 9, 3) := by decide +kernel
theorem dX1_init_11 : decode cX1_init 11 = .ok (.aload_n 0, 1) := by decide +kernel
theorem dX1_init_12 : decode cX1_init 12 = .ok (.iconst 5, 1) := by decide +kernel
theorem dX1_init_13 : decode cX1_init 13 = .ok (.newarray .int, 2) := by decide +kernel
theorem dX1_init_15 : decode cX1_init 15 = .ok (.putfield 15, 3) := by decide +kernel
theorem dX1_init_18 : decode cX1_init 18 = .ok (.return_, 1) := by decide +kernel
set_option maxRecDepth 100000 in
theorem ggX1_callFor_X1_raise : GoodIn wsX1_callFor wsX1_raise := goodIn_r _ [6, 1, 7, 8, 9, 10, 11, 12, 13, 14, 15, 16, 17, 18, 19, 20, 21, 22, 23, 24, 25, 26, 27, 28, 29, 30, 5, 31, 32, 33, 34, 35, 36, 37, 38, 39, 40, 41, 42, 43, 44, 45, 46, 47, 48, 49] rfl (by decide +kernel)
set_option maxRecDepth 100000 in
theorem gX1_callFor_X1_raise : GoodIn wsX1_callFor (wsV RX1 24 RX1 yX1_raise wsX1_raise) := goodIn_app (goodIn_r ([.methodLink RX1 24 yX1_raise, .instanceMethod yX1_raise, .selects RX1 yX1_raise yX1_raise, .initialized RX1] : List Cond) [2, 3, 4, 5] rfl (by decide +kernel)) ggX1_callFor_X1_raise
theorem dX1_callFor_0 : decode cX1_callFor 0 = .ok (.iconst 0, 1) := by decide +kernel
theorem dX1_callFor_1 : decode cX1_callFor 1 = .ok (.istore_n 3, 1) := by decide +kernel
theorem dX1_callFor_2 : decode cX1_callFor 2 = .ok (.iload_n 3, 1) := by decide +kernel
theorem dX1_callFor_3 : decode cX1_callFor 3 = .ok (.aload_n 0, 1) := by decide +kernel
theorem dX1_callFor_4 : decode cX1_callFor 4 = .ok (.getfield 15, 3) := by decide +kernel
theorem dX1_callFor_7 : decode cX1_callFor 7 = .ok (.arraylength, 1) := by decide +kernel
theorem dX1_callFor_8 : decode cX1_callFor 8 = .ok (.if_icmp .ge 16, 3) := by decide +kernel
theorem dX1_callFor_11 : decode cX1_callFor 11 = .ok (.aload_n 0, 1) := by decide +kernel
theorem dX1_callFor_12 : decode cX1_callFor 12 = .ok (.getfield 15, 3) := by decide +kernel
theorem dX1_callFor_15 : decode cX1_callFor 15 = .ok (.iload_n 3, 1) := by decide +kernel
theorem dX1_callFor_16 : decode cX1_callFor 16 = .ok (.iconst 0, 1) := by decide +kernel
theorem dX1_callFor_17 : decode cX1_callFor 17 = .ok (.iastore, 1) := by decide +kernel
theorem dX1_callFor_18 : decode cX1_callFor 18 = .ok (.iinc 3 1, 3) := by decide +kernel
theorem dX1_callFor_21 : decode cX1_callFor 21 = .ok (.goto (-19), 3) := by decide +kernel
theorem dX1_callFor_24 : decode cX1_callFor 24 = .ok (.iconst 0, 1) := by decide +kernel
theorem dX1_callFor_25 : decode cX1_callFor 25 = .ok (.istore_n 3, 1) := by decide +kernel
theorem dX1_callFor_26 : decode cX1_callFor 26 = .ok (.iload_n 3, 1) := by decide +kernel
theorem dX1_callFor_27 : decode cX1_callFor 27 = .ok (.aload_n 1, 1) := by decide +kernel
theorem dX1_callFor_28 : decode cX1_callFor 28 = .ok (.getfield 18, 3) := by decide +kernel
theorem dX1_callFor_31 : decode cX1_callFor 31 = .ok (.if_icmp .ge 33, 3) := by decide +kernel
theorem dX1_callFor_34 : decode cX1_callFor 34 = .ok (.iconst 0, 1) := by decide +kernel
theorem dX1_callFor_35 : decode cX1_callFor 35 = .ok (.istore 4, 2) := by decide +kernel
theorem dX1_callFor_37 : decode cX1_callFor 37 = .ok (.iload 4, 2) := by decide +kernel
theorem dX1_callFor_39 : decode cX1_callFor 39 = .ok (.iconst 5, 1) := by decide +kernel
theorem dX1_callFor_40 : decode cX1_callFor 40 = .ok (.if_icmp .ge 18, 3) := by decide +kernel
theorem dX1_callFor_43 : decode cX1_callFor 43 = .ok (.aload_n 0, 1) := by decide +kernel
theorem dX1_callFor_44 : decode cX1_callFor 44 = .ok (.aload_n 1, 1) := by decide +kernel
theorem dX1_callFor_45 : decode cX1_callFor 45 = .ok (.aload_n 2, 1) := by decide +kernel
theorem dX1_callFor_46 : decode cX1_callFor 46 = .ok (.iload_n 3, 1) := by decide +kernel
theorem dX1_callFor_47 : decode cX1_callFor 47 = .ok (.iload 4, 2) := by decide +kernel
theorem dX1_callFor_49 : decode cX1_callFor 49 = .ok (.invokevirtual 24, 3) := by decide +kernel
theorem dX1_callFor_52 : decode cX1_callFor 52 = .ok (.iinc 4 1, 3) := by decide +kernel
theorem dX1_callFor_55 : decode cX1_callFor 55 = .ok (.goto (-18), 3) := by decide +kernel
theorem dX1_callFor_58 : decode cX1_callFor 58 = .ok (.iinc 3 1, 3) := by decide +kernel
theorem dX1_callFor_61 : decode cX1_callFor 61 = .ok (.goto (-35), 3) := by decide +kernel
theorem dX1_callFor_64 : decode cX1_callFor 64 = .ok (.return_, 1) := by decide +kernel
set_option maxRecDepth 100000 in
theorem ggX1_raise_X10_worth : GoodIn wsX1_raise wsX10_worth := goodIn_r _ [6, 7, 8, 9, 10, 33, 34, 35, 36, 37] rfl (by decide +kernel)
set_option maxRecDepth 100000 in
theorem gX1_raise_X10_worth : GoodIn wsX1_raise (wsV RX1 28 RX10 yX10_worth wsX10_worth) := goodIn_app (goodIn_r ([.methodLink RX1 28 yX10_worth, .instanceMethod yX10_worth, .selects RX10 yX10_worth yX10_worth, .initialized RX10] : List Cond) [2, 3, 4, 5] rfl (by decide +kernel)) ggX1_raise_X10_worth
set_option maxRecDepth 100000 in
theorem ggX1_raise_X11_at : GoodIn wsX1_raise wsX11_at := goodIn_r _ [10] rfl (by decide +kernel)
set_option maxRecDepth 100000 in
theorem gX1_raise_X11_at_n32 : GoodIn wsX1_raise (wsX11_at) := ggX1_raise_X11_at
set_option maxRecDepth 100000 in
theorem ggX1_raise_X3_purse : GoodIn wsX1_raise wsX3_purse := goodIn_r _ [15, 16, 8, 9, 10, 38, 39, 40, 41, 42, 43, 44, 45] rfl (by decide +kernel)
set_option maxRecDepth 100000 in
theorem gX1_raise_X3_purse : GoodIn wsX1_raise (wsV RX1 36 RX3 yX3_purse wsX3_purse) := goodIn_app (goodIn_r ([.methodLink RX1 36 yX3_purse, .instanceMethod yX3_purse, .selects RX3 yX3_purse yX3_purse, .initialized RX3] : List Cond) [11, 12, 13, 14] rfl (by decide +kernel)) ggX1_raise_X3_purse
set_option maxRecDepth 100000 in
theorem ggX1_raise_X3_isBarred : GoodIn wsX1_raise wsX3_isBarred := goodIn_r _ [20, 21, 22, 8, 9, 10, 38, 39, 40, 41, 42, 43, 44, 45] rfl (by decide +kernel)
set_option maxRecDepth 100000 in
theorem gX1_raise_X3_isBarred : GoodIn wsX1_raise (wsV RX1 45 RX3 yX3_isBarred wsX3_isBarred) := goodIn_app (goodIn_r ([.methodLink RX1 45 yX3_isBarred, .instanceMethod yX3_isBarred, .selects RX3 yX3_isBarred yX3_isBarred, .initialized RX3] : List Cond) [17, 18, 19, 14] rfl (by decide +kernel)) ggX1_raise_X3_isBarred
set_option maxRecDepth 100000 in
theorem ggX1_raise_X1_set : GoodIn wsX1_raise wsX1_set := goodIn_r _ [27, 28, 1, 29, 9, 30, 31, 32] rfl (by decide +kernel)
set_option maxRecDepth 100000 in
theorem gX1_raise_X1_set : GoodIn wsX1_raise (wsV RX1 49 RX1 yX1_set wsX1_set) := goodIn_app (goodIn_r ([.methodLink RX1 49 yX1_set, .instanceMethod yX1_set, .selects RX1 yX1_set yX1_set, .initialized RX1] : List Cond) [23, 24, 25, 26] rfl (by decide +kernel)) ggX1_raise_X1_set
theorem dX1_raise_0 : decode cX1_raise 0 = .ok (.aload_n 1, 1) := by decide +kernel
theorem dX1_raise_1 : decode cX1_raise 1 = .ok (.iload_n 3, 1) := by decide +kernel
theorem dX1_raise_2 : decode cX1_raise 2 = .ok (.iload 4, 2) := by decide +kernel
theorem dX1_raise_4 : decode cX1_raise 4 = .ok (.invokevirtual 28, 3) := by decide +kernel
theorem dX1_raise_7 : decode cX1_raise 7 = .ok (.istore 5, 2) := by decide +kernel
theorem dX1_raise_9 : decode cX1_raise 9 = .ok (.iload 5, 2) := by decide +kernel
theorem dX1_raise_11 : decode cX1_raise 11 = .ok (.aload_n 0, 1) := by decide +kernel
theorem dX1_raise_12 : decode cX1_raise 12 = .ok (.getfield 15, 3) := by decide +kernel
theorem dX1_raise_15 : decode cX1_raise 15 = .ok (.iload_n 3, 1) := by decide +kernel
theorem dX1_raise_16 : decode cX1_raise 16 = .ok (.invokestatic 32, 3) := by decide +kernel
theorem dX1_raise_19 : decode cX1_raise 19 = .ok (.if_icmp .le 13, 3) := by decide +kernel
theorem dX1_raise_22 : decode cX1_raise 22 = .ok (.iload 5, 2) := by decide +kernel
theorem dX1_raise_24 : decode cX1_raise 24 = .ok (.aload_n 2, 1) := by decide +kernel
theorem dX1_raise_25 : decode cX1_raise 25 = .ok (.iload_n 3, 1) := by decide +kernel
theorem dX1_raise_26 : decode cX1_raise 26 = .ok (.invokevirtual 36, 3) := by decide +kernel
theorem dX1_raise_29 : decode cX1_raise 29 = .ok (.if_icmp .le 4, 3) := by decide +kernel
theorem dX1_raise_32 : decode cX1_raise 32 = .ok (.return_, 1) := by decide +kernel
theorem dX1_raise_33 : decode cX1_raise 33 = .ok (.aload_n 2, 1) := by decide +kernel
theorem dX1_raise_34 : decode cX1_raise 34 = .ok (.iload 4, 2) := by decide +kernel
theorem dX1_raise_36 : decode cX1_raise 36 = .ok (.aload_n 1, 1) := by decide +kernel
theorem dX1_raise_37 : decode cX1_raise 37 = .ok (.getfield 42, 3) := by decide +kernel
theorem dX1_raise_40 : decode cX1_raise 40 = .ok (.invokevirtual 45, 3) := by decide +kernel
theorem dX1_raise_43 : decode cX1_raise 43 = .ok (.ifCond .eq 4, 3) := by decide +kernel
theorem dX1_raise_46 : decode cX1_raise 46 = .ok (.return_, 1) := by decide +kernel
theorem dX1_raise_47 : decode cX1_raise 47 = .ok (.aload_n 0, 1) := by decide +kernel
theorem dX1_raise_48 : decode cX1_raise 48 = .ok (.iload_n 3, 1) := by decide +kernel
theorem dX1_raise_49 : decode cX1_raise 49 = .ok (.iload 4, 2) := by decide +kernel
theorem dX1_raise_51 : decode cX1_raise 51 = .ok (.iload 5, 2) := by decide +kernel
theorem dX1_raise_53 : decode cX1_raise 53 = .ok (.invokevirtual 49, 3) := by decide +kernel
theorem dX1_raise_56 : decode cX1_raise 56 = .ok (.return_, 1) := by decide +kernel
set_option maxRecDepth 100000 in
theorem ggX1_set_X11_put : GoodIn wsX1_set wsX11_put := goodIn_r _ [5] rfl (by decide +kernel)
set_option maxRecDepth 100000 in
theorem gX1_set_X11_put_n53 : GoodIn wsX1_set (wsX11_put) := ggX1_set_X11_put
theorem dX1_set_0 : decode cX1_set 0 = .ok (.aload_n 0, 1) := by decide +kernel
theorem dX1_set_1 : decode cX1_set 1 = .ok (.getfield 9, 3) := by decide +kernel
theorem dX1_set_4 : decode cX1_set 4 = .ok (.iload_n 1, 1) := by decide +kernel
theorem dX1_set_5 : decode cX1_set 5 = .ok (.iload_n 2, 1) := by decide +kernel
theorem dX1_set_6 : decode cX1_set 6 = .ok (.invokestatic 53, 3) := by decide +kernel
theorem dX1_set_9 : decode cX1_set 9 = .ok (.aload_n 0, 1) := by decide +kernel
theorem dX1_set_10 : decode cX1_set 10 = .ok (.getfield 15, 3) := by decide +kernel
theorem dX1_set_13 : decode cX1_set 13 = .ok (.iload_n 1, 1) := by decide +kernel
theorem dX1_set_14 : decode cX1_set 14 = .ok (.iload_n 3, 1) := by decide +kernel
theorem dX1_set_15 : decode cX1_set 15 = .ok (.invokestatic 53, 3) := by decide +kernel
theorem dX1_set_18 : decode cX1_set 18 = .ok (.return_, 1) := by decide +kernel
set_option maxRecDepth 100000 in
theorem ggX1_silenceLower_X11_at : GoodIn wsX1_silenceLower wsX11_at := goodIn_r _ [11] rfl (by decide +kernel)
set_option maxRecDepth 100000 in
theorem gX1_silenceLower_X11_at_n32 : GoodIn wsX1_silenceLower (wsX11_at) := ggX1_silenceLower_X11_at
set_option maxRecDepth 100000 in
theorem ggX1_silenceLower_X11_put : GoodIn wsX1_silenceLower wsX11_put := goodIn_r _ [13] rfl (by decide +kernel)
set_option maxRecDepth 100000 in
theorem gX1_silenceLower_X11_put_n53 : GoodIn wsX1_silenceLower (wsX11_put) := ggX1_silenceLower_X11_put
theorem dX1_silenceLower_0 : decode cX1_silenceLower 0 = .ok (.iload_n 1, 1) := by decide +kernel
theorem dX1_silenceLower_1 : decode cX1_silenceLower 1 = .ok (.iload_n 2, 1) := by decide +kernel
theorem dX1_silenceLower_2 : decode cX1_silenceLower 2 = .ok (.invokestatic 57, 3) := by decide +kernel
theorem dX1_silenceLower_5 : decode cX1_silenceLower 5 = .ok (.istore_n 3, 1) := by decide +kernel
theorem dX1_silenceLower_6 : decode cX1_silenceLower 6 = .ok (.iload_n 1, 1) := by decide +kernel
theorem dX1_silenceLower_7 : decode cX1_silenceLower 7 = .ok (.iload_n 2, 1) := by decide +kernel
theorem dX1_silenceLower_8 : decode cX1_silenceLower 8 = .ok (.invokestatic 62, 3) := by decide +kernel
theorem dX1_silenceLower_11 : decode cX1_silenceLower 11 = .ok (.istore 4, 2) := by decide +kernel
theorem dX1_silenceLower_13 : decode cX1_silenceLower 13 = .ok (.aload_n 0, 1) := by decide +kernel
theorem dX1_silenceLower_14 : decode cX1_silenceLower 14 = .ok (.getfield 15, 3) := by decide +kernel
theorem dX1_silenceLower_17 : decode cX1_silenceLower 17 = .ok (.aload_n 0, 1) := by decide +kernel
theorem dX1_silenceLower_18 : decode cX1_silenceLower 18 = .ok (.getfield 15, 3) := by decide +kernel
theorem dX1_silenceLower_21 : decode cX1_silenceLower 21 = .ok (.iload_n 3, 1) := by decide +kernel
theorem dX1_silenceLower_22 : decode cX1_silenceLower 22 = .ok (.invokestatic 32, 3) := by decide +kernel
theorem dX1_silenceLower_25 : decode cX1_silenceLower 25 = .ok (.aload_n 0, 1) := by decide +kernel
theorem dX1_silenceLower_26 : decode cX1_silenceLower 26 = .ok (.getfield 15, 3) := by decide +kernel
theorem dX1_silenceLower_29 : decode cX1_silenceLower 29 = .ok (.iload 4, 2) := by decide +kernel
theorem dX1_silenceLower_31 : decode cX1_silenceLower 31 = .ok (.invokestatic 32, 3) := by decide +kernel
theorem dX1_silenceLower_34 : decode cX1_silenceLower 34 = .ok (.if_icmp .ge 7, 3) := by decide +kernel
theorem dX1_silenceLower_37 : decode cX1_silenceLower 37 = .ok (.iload_n 3, 1) := by decide +kernel
theorem dX1_silenceLower_38 : decode cX1_silenceLower 38 = .ok (.goto 5, 3) := by decide +kernel
theorem dX1_silenceLower_41 : decode cX1_silenceLower 41 = .ok (.iload 4, 2) := by decide +kernel
theorem dX1_silenceLower_43 : decode cX1_silenceLower 43 = .ok (.iconst 0, 1) := by decide +kernel
theorem dX1_silenceLower_44 : decode cX1_silenceLower 44 = .ok (.invokestatic 53, 3) := by decide +kernel
theorem dX1_silenceLower_47 : decode cX1_silenceLower 47 = .ok (.return_, 1) := by decide +kernel
theorem dX1_winner_0 : decode cX1_winner 0 = .ok (.bipush (-9), 2) := by decide +kernel
theorem dX1_winner_2 : decode cX1_winner 2 = .ok (.istore_n 1, 1) := by decide +kernel
theorem dX1_winner_3 : decode cX1_winner 3 = .ok (.iconst 0, 1) := by decide +kernel
theorem dX1_winner_4 : decode cX1_winner 4 = .ok (.istore_n 2, 1) := by decide +kernel
theorem dX1_winner_5 : decode cX1_winner 5 = .ok (.iconst 0, 1) := by decide +kernel
theorem dX1_winner_6 : decode cX1_winner 6 = .ok (.istore_n 3, 1) := by decide +kernel
theorem dX1_winner_7 : decode cX1_winner 7 = .ok (.iload_n 3, 1) := by decide +kernel
theorem dX1_winner_8 : decode cX1_winner 8 = .ok (.aload_n 0, 1) := by decide +kernel
theorem dX1_winner_9 : decode cX1_winner 9 = .ok (.getfield 15, 3) := by decide +kernel
theorem dX1_winner_12 : decode cX1_winner 12 = .ok (.arraylength, 1) := by decide +kernel
theorem dX1_winner_13 : decode cX1_winner 13 = .ok (.if_icmp .ge 28, 3) := by decide +kernel
theorem dX1_winner_16 : decode cX1_winner 16 = .ok (.aload_n 0, 1) := by decide +kernel
theorem dX1_winner_17 : decode cX1_winner 17 = .ok (.getfield 15, 3) := by decide +kernel
theorem dX1_winner_20 : decode cX1_winner 20 = .ok (.iload_n 3, 1) := by decide +kernel
theorem dX1_winner_21 : decode cX1_winner 21 = .ok (.iaload, 1) := by decide +kernel
theorem dX1_winner_22 : decode cX1_winner 22 = .ok (.iload_n 2, 1) := by decide +kernel
theorem dX1_winner_23 : decode cX1_winner 23 = .ok (.if_icmp .le 12, 3) := by decide +kernel
theorem dX1_winner_26 : decode cX1_winner 26 = .ok (.aload_n 0, 1) := by decide +kernel
theorem dX1_winner_27 : decode cX1_winner 27 = .ok (.getfield 15, 3) := by decide +kernel
theorem dX1_winner_30 : decode cX1_winner 30 = .ok (.iload_n 3, 1) := by decide +kernel
theorem dX1_winner_31 : decode cX1_winner 31 = .ok (.iaload, 1) := by decide +kernel
theorem dX1_winner_32 : decode cX1_winner 32 = .ok (.istore_n 2, 1) := by decide +kernel
theorem dX1_winner_33 : decode cX1_winner 33 = .ok (.iload_n 3, 1) := by decide +kernel
theorem dX1_winner_34 : decode cX1_winner 34 = .ok (.istore_n 1, 1) := by decide +kernel
theorem dX1_winner_35 : decode cX1_winner 35 = .ok (.iinc 3 1, 3) := by decide +kernel
theorem dX1_winner_38 : decode cX1_winner 38 = .ok (.goto (-31), 3) := by decide +kernel
theorem dX1_winner_41 : decode cX1_winner 41 = .ok (.iload_n 1, 1) := by decide +kernel
theorem dX1_winner_42 : decode cX1_winner 42 = .ok (.ireturn, 1) := by decide +kernel
set_option maxRecDepth 100000 in
theorem ggX1_highest_X1_winner : GoodIn wsX1_highest wsX1_winner := goodIn_r _ [6, 1, 10, 11] rfl (by decide +kernel)
set_option maxRecDepth 100000 in
theorem gX1_highest_X1_winner : GoodIn wsX1_highest (wsV RX1 65 RX1 yX1_winner wsX1_winner) := goodIn_app (goodIn_r ([.methodLink RX1 65 yX1_winner, .instanceMethod yX1_winner, .selects RX1 yX1_winner yX1_winner, .initialized RX1] : List Cond) [2, 3, 4, 5] rfl (by decide +kernel)) ggX1_highest_X1_winner
set_option maxRecDepth 100000 in
theorem ggX1_highest_X11_at : GoodIn wsX1_highest wsX11_at := goodIn_r _ [9] rfl (by decide +kernel)
set_option maxRecDepth 100000 in
theorem gX1_highest_X11_at_n32 : GoodIn wsX1_highest (wsX11_at) := ggX1_highest_X11_at
theorem dX1_highest_0 : decode cX1_highest 0 = .ok (.aload_n 0, 1) := by decide +kernel
theorem dX1_highest_1 : decode cX1_highest 1 = .ok (.getfield 15, 3) := by decide +kernel
theorem dX1_highest_4 : decode cX1_highest 4 = .ok (.aload_n 0, 1) := by decide +kernel
theorem dX1_highest_5 : decode cX1_highest 5 = .ok (.invokevirtual 65, 3) := by decide +kernel
theorem dX1_highest_8 : decode cX1_highest 8 = .ok (.invokestatic 32, 3) := by decide +kernel
theorem dX1_highest_11 : decode cX1_highest 11 = .ok (.ireturn, 1) := by decide +kernel
set_option maxRecDepth 100000 in
theorem ggX1_nameOf_X11_at : GoodIn wsX1_nameOf wsX11_at := goodIn_r _ [4] rfl (by decide +kernel)
set_option maxRecDepth 100000 in
theorem gX1_nameOf_X11_at_n32 : GoodIn wsX1_nameOf (wsX11_at) := ggX1_nameOf_X11_at
theorem dX1_nameOf_0 : decode cX1_nameOf 0 = .ok (.aload_n 0, 1) := by decide +kernel
theorem dX1_nameOf_1 : decode cX1_nameOf 1 = .ok (.getfield 9, 3) := by decide +kernel
theorem dX1_nameOf_4 : decode cX1_nameOf 4 = .ok (.iload_n 1, 1) := by decide +kernel
theorem dX1_nameOf_5 : decode cX1_nameOf 5 = .ok (.invokestatic 32, 3) := by decide +kernel
theorem dX1_nameOf_8 : decode cX1_nameOf 8 = .ok (.ireturn, 1) := by decide +kernel
set_option maxRecDepth 100000 in
theorem ggX1_price_X11_at : GoodIn wsX1_price wsX11_at := goodIn_r _ [11] rfl (by decide +kernel)
set_option maxRecDepth 100000 in
theorem gX1_price_X11_at_n32 : GoodIn wsX1_price (wsX11_at) := ggX1_price_X11_at
theorem dX1_price_0 : decode cX1_price 0 = .ok (.iconst 0, 1) := by decide +kernel
theorem dX1_price_1 : decode cX1_price 1 = .ok (.istore_n 2, 1) := by decide +kernel
theorem dX1_price_2 : decode cX1_price 2 = .ok (.iconst 0, 1) := by decide +kernel
theorem dX1_price_3 : decode cX1_price 3 = .ok (.istore_n 3, 1) := by decide +kernel
theorem dX1_price_4 : decode cX1_price 4 = .ok (.iload_n 3, 1) := by decide +kernel
theorem dX1_price_5 : decode cX1_price 5 = .ok (.aload_n 0, 1) := by decide +kernel
theorem dX1_price_6 : decode cX1_price 6 = .ok (.getfield 15, 3) := by decide +kernel
theorem dX1_price_9 : decode cX1_price 9 = .ok (.arraylength, 1) := by decide +kernel
theorem dX1_price_10 : decode cX1_price 10 = .ok (.if_icmp .ge 25, 3) := by decide +kernel
theorem dX1_price_13 : decode cX1_price 13 = .ok (.iload_n 3, 1) := by decide +kernel
theorem dX1_price_14 : decode cX1_price 14 = .ok (.iload_n 1, 1) := by decide +kernel
theorem dX1_price_15 : decode cX1_price 15 = .ok (.if_icmp .eq 14, 3) := by decide +kernel
theorem dX1_price_18 : decode cX1_price 18 = .ok (.iload_n 2, 1) := by decide +kernel
theorem dX1_price_19 : decode cX1_price 19 = .ok (.aload_n 0, 1) := by decide +kernel
theorem dX1_price_20 : decode cX1_price 20 = .ok (.getfield 15, 3) := by decide +kernel
theorem dX1_price_23 : decode cX1_price 23 = .ok (.iload_n 3, 1) := by decide +kernel
theorem dX1_price_24 : decode cX1_price 24 = .ok (.iaload, 1) := by decide +kernel
theorem dX1_price_25 : decode cX1_price 25 = .ok (.invokestatic 62, 3) := by decide +kernel
theorem dX1_price_28 : decode cX1_price 28 = .ok (.istore_n 2, 1) := by decide +kernel
theorem dX1_price_29 : decode cX1_price 29 = .ok (.iinc 3 1, 3) := by decide +kernel
theorem dX1_price_32 : decode cX1_price 32 = .ok (.goto (-28), 3) := by decide +kernel
theorem dX1_price_35 : decode cX1_price 35 = .ok (.aload_n 0, 1) := by decide +kernel
theorem dX1_price_36 : decode cX1_price 36 = .ok (.getfield 15, 3) := by decide +kernel
theorem dX1_price_39 : decode cX1_price 39 = .ok (.iload_n 1, 1) := by decide +kernel
theorem dX1_price_40 : decode cX1_price 40 = .ok (.invokestatic 32, 3) := by decide +kernel
theorem dX1_price_43 : decode cX1_price 43 = .ok (.iload_n 2, 1) := by decide +kernel
theorem dX1_price_44 : decode cX1_price 44 = .ok (.iconst 1, 1) := by decide +kernel
theorem dX1_price_45 : decode cX1_price 45 = .ok (.iadd, 1) := by decide +kernel
theorem dX1_price_46 : decode cX1_price 46 = .ok (.invokestatic 57, 3) := by decide +kernel
theorem dX1_price_49 : decode cX1_price 49 = .ok (.ireturn, 1) := by decide +kernel
set_option maxRecDepth 100000 in
theorem ggX2_init_X3_init : GoodIn wsX2_init wsX3_init := goodIn_r _ [14, 15, 2, 3, 8, 16, 17, 18, 19, 20, 21, 22, 23, 24, 25, 26] rfl (by decide +kernel)
set_option maxRecDepth 100000 in
theorem gX2_init_X3_init_n11 : GoodIn wsX2_init (wsX3_init) := ggX2_init_X3_init
theorem dX2_init_0 : decode cX2_init 0 = .ok (.aload_n 0, 1) := by decide +kernel
theorem dX2_init_1 : decode cX2_init 1 = .ok (.invokespecial 3, 3) := by decide +kernel
theorem dX2_init_4 : decode cX2_init 4 = .ok (.aload_n 0, 1) := by decide +kernel
theorem dX2_init_5 : decode cX2_init 5 = .ok (.new 9, 3) := by decide +kernel
theorem dX2_init_8 : decode cX2_init 8 = .ok (.dup, 1) := by decide +kernel
theorem dX2_init_9 : decode cX2_init 9 = .ok (.invokespecial 11, 3) := by decide +kernel
theorem dX2_init_12 : decode cX2_init 12 = .ok (.putfield 12, 3) := by decide +kernel
theorem dX2_init_15 : decode cX2_init 15 = .ok (.aload_n 0, 1) := by decide +kernel
theorem dX2_init_16 : decode cX2_init 16 = .ok (.iconst 5, 1) := by decide +kernel
theorem dX2_init_17 : decode cX2_init 17 = .ok (.newarray .int, 2) := by decide +kernel
theorem dX2_init_19 : decode cX2_init 19 = .ok (.putfield 18, 3) := by decide +kernel
theorem dX2_init_22 : decode cX2_init 22 = .ok (.aload_n 0, 1) := by decide +kernel
theorem dX2_init_23 : decode cX2_init 23 = .ok (.iconst 5, 1) := by decide +kernel
theorem dX2_init_24 : decode cX2_init 24 = .ok (.newarray .int, 2) := by decide +kernel
theorem dX2_init_26 : decode cX2_init 26 = .ok (.putfield 22, 3) := by decide +kernel
theorem dX2_init_29 : decode cX2_init 29 = .ok (.aload_n 0, 1) := by decide +kernel
theorem dX2_init_30 : decode cX2_init 30 = .ok (.aload_n 1, 1) := by decide +kernel
theorem dX2_init_31 : decode cX2_init 31 = .ok (.putfield 25, 3) := by decide +kernel
theorem dX2_init_34 : decode cX2_init 34 = .ok (.aload_n 0, 1) := by decide +kernel
theorem dX2_init_35 : decode cX2_init 35 = .ok (.aload_n 2, 1) := by decide +kernel
theorem dX2_init_36 : decode cX2_init 36 = .ok (.putfield 29, 3) := by decide +kernel
theorem dX2_init_39 : decode cX2_init 39 = .ok (.return_, 1) := by decide +kernel
set_option maxRecDepth 100000 in
theorem ggX2_add_X11_put : GoodIn wsX2_add wsX11_put := goodIn_r _ [6] rfl (by decide +kernel)
set_option maxRecDepth 100000 in
theorem gX2_add_X11_put_n37 : GoodIn wsX2_add (wsX11_put) := ggX2_add_X11_put
theorem dX2_add_0 : decode cX2_add 0 = .ok (.aload_n 0, 1) := by decide +kernel
theorem dX2_add_1 : decode cX2_add 1 = .ok (.getfield 18, 3) := by decide +kernel
theorem dX2_add_4 : decode cX2_add 4 = .ok (.aload_n 0, 1) := by decide +kernel
theorem dX2_add_5 : decode cX2_add 5 = .ok (.getfield 33, 3) := by decide +kernel
theorem dX2_add_8 : decode cX2_add 8 = .ok (.iload_n 1, 1) := by decide +kernel
theorem dX2_add_9 : decode cX2_add 9 = .ok (.invokestatic 37, 3) := by decide +kernel
theorem dX2_add_12 : decode cX2_add 12 = .ok (.aload_n 0, 1) := by decide +kernel
theorem dX2_add_13 : decode cX2_add 13 = .ok (.getfield 22, 3) := by decide +kernel
theorem dX2_add_16 : decode cX2_add 16 = .ok (.aload_n 0, 1) := by decide +kernel
theorem dX2_add_17 : decode cX2_add 17 = .ok (.getfield 33, 3) := by decide +kernel
theorem dX2_add_20 : decode cX2_add 20 = .ok (.iload_n 2, 1) := by decide +kernel
theorem dX2_add_21 : decode cX2_add 21 = .ok (.invokestatic 37, 3) := by decide +kernel
theorem dX2_add_24 : decode cX2_add 24 = .ok (.aload_n 0, 1) := by decide +kernel
theorem dX2_add_25 : decode cX2_add 25 = .ok (.dup, 1) := by decide +kernel
theorem dX2_add_26 : decode cX2_add 26 = .ok (.getfield 33, 3) := by decide +kernel
theorem dX2_add_29 : decode cX2_add 29 = .ok (.iconst 1, 1) := by decide +kernel
theorem dX2_add_30 : decode cX2_add 30 = .ok (.iadd, 1) := by decide +kernel
theorem dX2_add_31 : decode cX2_add 31 = .ok (.putfield 33, 3) := by decide +kernel
theorem dX2_add_34 : decode cX2_add 34 = .ok (.return_, 1) := by decide +kernel
theorem dX2_empty_0 : decode cX2_empty 0 = .ok (.aload_n 0, 1) := by decide +kernel
theorem dX2_empty_1 : decode cX2_empty 1 = .ok (.getfield 33, 3) := by decide +kernel
theorem dX2_empty_4 : decode cX2_empty 4 = .ok (.istore_n 1, 1) := by decide +kernel
theorem dX2_empty_5 : decode cX2_empty 5 = .ok (.aload_n 0, 1) := by decide +kernel
theorem dX2_empty_6 : decode cX2_empty 6 = .ok (.iconst 0, 1) := by decide +kernel
theorem dX2_empty_7 : decode cX2_empty 7 = .ok (.putfield 33, 3) := by decide +kernel
theorem dX2_empty_10 : decode cX2_empty 10 = .ok (.iload_n 1, 1) := by decide +kernel
theorem dX2_empty_11 : decode cX2_empty 11 = .ok (.ireturn, 1) := by decide +kernel
set_option maxRecDepth 100000 in
theorem ggX2_agreeWith_X10_worth : GoodIn wsX2_agreeWith wsX10_worth := goodIn_r _ [8, 9, 10, 11, 12, 150, 151, 152, 153, 154] rfl (by decide +kernel)
set_option maxRecDepth 100000 in
theorem gX2_agreeWith_X10_worth : GoodIn wsX2_agreeWith (wsV RX2 41 RX10 yX10_worth wsX10_worth) := goodIn_app (goodIn_r ([.methodLink RX2 41 yX10_worth, .instanceMethod yX10_worth, .selects RX10 yX10_worth yX10_worth, .initialized RX10] : List Cond) [4, 5, 6, 7] rfl (by decide +kernel)) ggX2_agreeWith_X10_worth
set_option maxRecDepth 100000 in
theorem ggX2_agreeWith_X10_setWorth : GoodIn wsX2_agreeWith wsX10_setWorth := goodIn_r _ [16, 17, 18, 19, 7, 20, 9, 21, 11, 22, 150, 151, 152, 153, 154] rfl (by decide +kernel)
set_option maxRecDepth 100000 in
theorem gX2_agreeWith_X10_setWorth : GoodIn wsX2_agreeWith (wsV RX2 47 RX10 yX10_setWorth wsX10_setWorth) := goodIn_app (goodIn_r ([.methodLink RX2 47 yX10_setWorth, .instanceMethod yX10_setWorth, .selects RX10 yX10_setWorth yX10_setWorth, .initialized RX10] : List Cond) [13, 14, 15, 7] rfl (by decide +kernel)) ggX2_agreeWith_X10_setWorth
set_option maxRecDepth 100000 in
theorem ggX2_agreeWith_X3_copyFrom : GoodIn wsX2_agreeWith wsX3_copyFrom := goodIn_r _ [27, 28, 29, 30, 31, 32, 33, 34, 35, 36, 11, 37, 155, 156, 157, 158, 159, 160, 161, 162] rfl (by decide +kernel)
set_option maxRecDepth 100000 in
theorem gX2_agreeWith_X3_copyFrom : GoodIn wsX2_agreeWith (wsV RX2 51 RX3 yX3_copyFrom wsX3_copyFrom) := goodIn_app (goodIn_r ([.methodLink RX2 51 yX3_copyFrom, .instanceMethod yX3_copyFrom, .selects RX3 yX3_copyFrom yX3_copyFrom, .initialized RX3] : List Cond) [23, 24, 25, 26] rfl (by decide +kernel)) ggX2_agreeWith_X3_copyFrom
set_option maxRecDepth 100000 in
theorem ggX2_agreeWith_X4_open : GoodIn wsX2_agreeWith wsX4_open := goodIn_r _ [42, 43, 44, 45, 46, 47, 48, 49, 50, 51, 52, 53, 54, 55, 5, 6, 7, 8, 9, 10, 11, 12, 56, 57, 58, 26, 59, 29, 60, 61, 62, 63, 31, 28, 64, 65, 66, 67, 68, 21, 22, 163, 164, 165, 166, 167, 168, 150, 151, 152, 153, 154, 155, 156, 157, 158, 159, 160, 161, 162] rfl (by decide +kernel)
set_option maxRecDepth 100000 in
theorem gX2_agreeWith_X4_open : GoodIn wsX2_agreeWith (wsV RX2 55 RX4 yX4_open wsX4_open) := goodIn_app (goodIn_r ([.methodLink RX2 55 yX4_open, .instanceMethod yX4_open, .selects RX4 yX4_open yX4_open, .initialized RX4] : List Cond) [38, 39, 40, 41] rfl (by decide +kernel)) ggX2_agreeWith_X4_open
set_option maxRecDepth 100000 in
theorem ggX2_agreeWith_X4_close : GoodIn wsX2_agreeWith wsX4_close := goodIn_r _ [72, 43, 73, 74, 75, 76, 77, 48, 78, 50, 79, 80, 81, 82, 83, 84, 85, 86, 87, 88, 89, 10, 11, 12, 90, 91, 92, 26, 93, 29, 21, 22, 94, 95, 96, 97, 68, 98, 99, 100, 41, 101, 44, 102, 103, 104, 105, 28, 31, 106, 107, 108, 7, 109, 9, 110, 111, 112, 113, 114, 115, 116, 117, 118, 119, 120, 121, 122, 123, 124, 125, 126, 30, 127, 128, 129, 130, 131, 57, 58, 59, 132, 133, 134, 135, 163, 164, 165, 166, 155, 156, 157, 158, 159, 160, 161, 162, 167, 168, 150, 151, 152, 153, 154] rfl (by decide +kernel)
set_option maxRecDepth 100000 in
theorem gX2_agreeWith_X4_close : GoodIn wsX2_agreeWith (wsV RX2 60 RX4 yX4_close wsX4_close) := goodIn_app (goodIn_r ([.methodLink RX2 60 yX4_close, .instanceMethod yX4_close, .selects RX4 yX4_close yX4_close, .initialized RX4] : List Cond) [69, 70, 71, 41] rfl (by decide +kernel)) ggX2_agreeWith_X4_close
set_option maxRecDepth 100000 in
theorem ggX2_agreeWith_X2_agreeOn : GoodIn wsX2_agreeWith wsX2_agreeOn := goodIn_r _ [140, 141, 142, 143, 10, 11, 12, 144, 145, 146, 147, 148, 149] rfl (by decide +kernel)
set_option maxRecDepth 100000 in
theorem gX2_agreeWith_X2_agreeOn : GoodIn wsX2_agreeWith (wsV RX2 64 RX2 yX2_agreeOn wsX2_agreeOn) := goodIn_app (goodIn_r ([.methodLink RX2 64 yX2_agreeOn, .instanceMethod yX2_agreeOn, .selects RX2 yX2_agreeOn yX2_agreeOn, .initialized RX2] : List Cond) [136, 137, 138, 139] rfl (by decide +kernel)) ggX2_agreeWith_X2_agreeOn
theorem dX2_agreeWith_0 : decode cX2_agreeWith 0 = .ok (.aload_n 0, 1) := by decide +kernel
theorem dX2_agreeWith_1 : decode cX2_agreeWith 1 = .ok (.getfield 25, 3) := by decide +kernel
theorem dX2_agreeWith_4 : decode cX2_agreeWith 4 = .ok (.iload_n 2, 1) := by decide +kernel
theorem dX2_agreeWith_5 : decode cX2_agreeWith 5 = .ok (.iload_n 3, 1) := by decide +kernel
theorem dX2_agreeWith_6 : decode cX2_agreeWith 6 = .ok (.invokevirtual 41, 3) := by decide +kernel
theorem dX2_agreeWith_9 : decode cX2_agreeWith 9 = .ok (.istore 5, 2) := by decide +kernel
theorem dX2_agreeWith_11 : decode cX2_agreeWith 11 = .ok (.iconst 1, 1) := by decide +kernel
theorem dX2_agreeWith_12 : decode cX2_agreeWith 12 = .ok (.istore 6, 2) := by decide +kernel
theorem dX2_agreeWith_14 : decode cX2_agreeWith 14 = .ok (.aload_n 0, 1) := by decide +kernel
theorem dX2_agreeWith_15 : decode cX2_agreeWith 15 = .ok (.getfield 25, 3) := by decide +kernel
theorem dX2_agreeWith_18 : decode cX2_agreeWith 18 = .ok (.iload_n 2, 1) := by decide +kernel
theorem dX2_agreeWith_19 : decode cX2_agreeWith 19 = .ok (.iload_n 3, 1) := by decide +kernel
theorem dX2_agreeWith_20 : decode cX2_agreeWith 20 = .ok (.iload 4, 2) := by decide +kernel
theorem dX2_agreeWith_22 : decode cX2_agreeWith 22 = .ok (.invokevirtual 47, 3) := by decide +kernel
theorem dX2_agreeWith_25 : decode cX2_agreeWith 25 = .ok (.aload_n 0, 1) := by decide +kernel
theorem dX2_agreeWith_26 : decode cX2_agreeWith 26 = .ok (.getfield 12, 3) := by decide +kernel
theorem dX2_agreeWith_29 : decode cX2_agreeWith 29 = .ok (.aload_n 1, 1) := by decide +kernel
theorem dX2_agreeWith_30 : decode cX2_agreeWith 30 = .ok (.invokevirtual 51, 3) := by decide +kernel
theorem dX2_agreeWith_33 : decode cX2_agreeWith 33 = .ok (.iconst 1, 1) := by decide +kernel
theorem dX2_agreeWith_34 : decode cX2_agreeWith 34 = .ok (.istore 7, 2) := by decide +kernel
theorem dX2_agreeWith_36 : decode cX2_agreeWith 36 = .ok (.iload 7, 2) := by decide +kernel
theorem dX2_agreeWith_38 : decode cX2_agreeWith 38 = .ok (.bipush 8, 2) := by decide +kernel
theorem dX2_agreeWith_40 : decode cX2_agreeWith 40 = .ok (.if_icmp .gt 59, 3) := by decide +kernel
theorem dX2_agreeWith_43 : decode cX2_agreeWith 43 = .ok (.iload 6, 2) := by decide +kernel
theorem dX2_agreeWith_45 : decode cX2_agreeWith 45 = .ok (.ifCond .eq 54, 3) := by decide +kernel
theorem dX2_agreeWith_48 : decode cX2_agreeWith 48 = .ok (.aload_n 0, 1) := by decide +kernel
theorem dX2_agreeWith_49 : decode cX2_agreeWith 49 = .ok (.getfield 29, 3) := by decide +kernel
theorem dX2_agreeWith_52 : decode cX2_agreeWith 52 = .ok (.aload_n 0, 1) := by decide +kernel
theorem dX2_agreeWith_53 : decode cX2_agreeWith 53 = .ok (.getfield 12, 3) := by decide +kernel
theorem dX2_agreeWith_56 : decode cX2_agreeWith 56 = .ok (.invokevirtual 55, 3) := by decide +kernel
theorem dX2_agreeWith_59 : decode cX2_agreeWith 59 = .ok (.aload_n 0, 1) := by decide +kernel
theorem dX2_agreeWith_60 : decode cX2_agreeWith 60 = .ok (.getfield 29, 3) := by decide +kernel
theorem dX2_agreeWith_63 : decode cX2_agreeWith 63 = .ok (.aload_n 0, 1) := by decide +kernel
theorem dX2_agreeWith_64 : decode cX2_agreeWith 64 = .ok (.getfield 12, 3) := by decide +kernel
theorem dX2_agreeWith_67 : decode cX2_agreeWith 67 = .ok (.invokevirtual 60, 3) := by decide +kernel
theorem dX2_agreeWith_70 : decode cX2_agreeWith 70 = .ok (.istore 8, 2) := by decide +kernel
theorem dX2_agreeWith_72 : decode cX2_agreeWith 72 = .ok (.aload_n 0, 1) := by decide +kernel
theorem dX2_agreeWith_73 : decode cX2_agreeWith 73 = .ok (.iload 7, 2) := by decide +kernel
theorem dX2_agreeWith_75 : decode cX2_agreeWith 75 = .ok (.iload 8, 2) := by decide +kernel
theorem dX2_agreeWith_77 : decode cX2_agreeWith 77 = .ok (.bipush (-5), 2) := by decide +kernel
theorem dX2_agreeWith_79 : decode cX2_agreeWith 79 = .ok (.if_icmp .ne 7, 3) := by decide +kernel
theorem dX2_agreeWith_82 : decode cX2_agreeWith 82 = .ok (.iconst (-1), 1) := by decide +kernel
theorem dX2_agreeWith_83 : decode cX2_agreeWith 83 = .ok (.goto 5, 3) := by decide +kernel
theorem dX2_agreeWith_86 : decode cX2_agreeWith 86 = .ok (.iload 8, 2) := by decide +kernel
theorem dX2_agreeWith_88 : decode cX2_agreeWith 88 = .ok (.invokevirtual 64, 3) := by decide +kernel
theorem dX2_agreeWith_91 : decode cX2_agreeWith 91 = .ok (.istore 6, 2) := by decide +kernel
theorem dX2_agreeWith_93 : decode cX2_agreeWith 93 = .ok (.iinc 7 1, 3) := by decide +kernel
theorem dX2_agreeWith_96 : decode cX2_agreeWith 96 = .ok (.goto (-60), 3) := by decide +kernel
theorem dX2_agreeWith_99 : decode cX2_agreeWith 99 = .ok (.aload_n 0, 1) := by decide +kernel
theorem dX2_agreeWith_100 : decode cX2_agreeWith 100 = .ok (.getfield 25, 3) := by decide +kernel
theorem dX2_agreeWith_103 : decode cX2_agreeWith 103 = .ok (.iload_n 2, 1) := by decide +kernel
theorem dX2_agreeWith_104 : decode cX2_agreeWith 104 = .ok (.iload_n 3, 1) := by decide +kernel
theorem dX2_agreeWith_105 : decode cX2_agreeWith 105 = .ok (.iload 5, 2) := by decide +kernel
theorem dX2_agreeWith_107 : decode cX2_agreeWith 107 = .ok (.invokevirtual 47, 3) := by decide +kernel
theorem dX2_agreeWith_110 : decode cX2_agreeWith 110 = .ok (.iload 6, 2) := by decide +kernel
theorem dX2_agreeWith_112 : decode cX2_agreeWith 112 = .ok (.ireturn, 1) := by decide +kernel
set_option maxRecDepth 100000 in
theorem ggX2_agreeOn_X11_at : GoodIn wsX2_agreeOn wsX11_at := goodIn_r _ [6] rfl (by decide +kernel)
set_option maxRecDepth 100000 in
theorem gX2_agreeOn_X11_at_n68 : GoodIn wsX2_agreeOn (wsX11_at) := ggX2_agreeOn_X11_at
theorem dX2_agreeOn_0 : decode cX2_agreeOn 0 = .ok (.iconst 0, 1) := by decide +kernel
theorem dX2_agreeOn_1 : decode cX2_agreeOn 1 = .ok (.istore_n 3, 1) := by decide +kernel
theorem dX2_agreeOn_2 : decode cX2_agreeOn 2 = .ok (.iload_n 3, 1) := by decide +kernel
theorem dX2_agreeOn_3 : decode cX2_agreeOn 3 = .ok (.aload_n 0, 1) := by decide +kernel
theorem dX2_agreeOn_4 : decode cX2_agreeOn 4 = .ok (.getfield 33, 3) := by decide +kernel
theorem dX2_agreeOn_7 : decode cX2_agreeOn 7 = .ok (.if_icmp .ge 35, 3) := by decide +kernel
theorem dX2_agreeOn_10 : decode cX2_agreeOn 10 = .ok (.aload_n 0, 1) := by decide +kernel
theorem dX2_agreeOn_11 : decode cX2_agreeOn 11 = .ok (.getfield 18, 3) := by decide +kernel
theorem dX2_agreeOn_14 : decode cX2_agreeOn 14 = .ok (.iload_n 3, 1) := by decide +kernel
theorem dX2_agreeOn_15 : decode cX2_agreeOn 15 = .ok (.invokestatic 68, 3) := by decide +kernel
theorem dX2_agreeOn_18 : decode cX2_agreeOn 18 = .ok (.iload_n 1, 1) := by decide +kernel
theorem dX2_agreeOn_19 : decode cX2_agreeOn 19 = .ok (.if_icmp .ne 17, 3) := by decide +kernel
theorem dX2_agreeOn_22 : decode cX2_agreeOn 22 = .ok (.aload_n 0, 1) := by decide +kernel
theorem dX2_agreeOn_23 : decode cX2_agreeOn 23 = .ok (.getfield 22, 3) := by decide +kernel
theorem dX2_agreeOn_26 : decode cX2_agreeOn 26 = .ok (.iload_n 3, 1) := by decide +kernel
theorem dX2_agreeOn_27 : decode cX2_agreeOn 27 = .ok (.invokestatic 68, 3) := by decide +kernel
theorem dX2_agreeOn_30 : decode cX2_agreeOn 30 = .ok (.iload_n 2, 1) := by decide +kernel
theorem dX2_agreeOn_31 : decode cX2_agreeOn 31 = .ok (.if_icmp .eq 5, 3) := by decide +kernel
theorem dX2_agreeOn_34 : decode cX2_agreeOn 34 = .ok (.iconst 0, 1) := by decide +kernel
theorem dX2_agreeOn_35 : decode cX2_agreeOn 35 = .ok (.ireturn, 1) := by decide +kernel
theorem dX2_agreeOn_36 : decode cX2_agreeOn 36 = .ok (.iinc 3 1, 3) := by decide +kernel
theorem dX2_agreeOn_39 : decode cX2_agreeOn 39 = .ok (.goto (-37), 3) := by decide +kernel
theorem dX2_agreeOn_42 : decode cX2_agreeOn 42 = .ok (.iconst 1, 1) := by decide +kernel
theorem dX2_agreeOn_43 : decode cX2_agreeOn 43 = .ok (.ireturn, 1) := by decide +kernel
theorem dX3_init_0 : decode cX3_init 0 = .ok (.aload_n 0, 1) := by decide +kernel
theorem dX3_init_1 : decode cX3_init 1 = .ok (.invokespecial 3, 3) := by decide +kernel
theorem dX3_init_4 : decode cX3_init 4 = .ok (.aload_n 0, 1) := by decide +kernel
theorem dX3_init_5 : decode cX3_init 5 = .ok (.bipush 100, 2) := by decide +kernel
theorem dX3_init_7 : decode cX3_init 7 = .ok (.newarray .int, 2) := by decide +kernel
theorem dX3_init_9 : decode cX3_init 9 = .ok (.putfield 9, 3) := by decide +kernel
theorem dX3_init_12 : decode cX3_init 12 = .ok (.aload_n 0, 1) := by decide +kernel
theorem dX3_init_13 : decode cX3_init 13 = .ok (.iconst 4, 1) := by decide +kernel
theorem dX3_init_14 : decode cX3_init 14 = .ok (.newarray .int, 2) := by decide +kernel
theorem dX3_init_16 : decode cX3_init 16 = .ok (.putfield 15, 3) := by decide +kernel
theorem dX3_init_19 : decode cX3_init 19 = .ok (.aload_n 0, 1) := by decide +kernel
theorem dX3_init_20 : decode cX3_init 20 = .ok (.bipush 6, 2) := by decide +kernel
theorem dX3_init_22 : decode cX3_init 22 = .ok (.newarray .int, 2) := by decide +kernel
theorem dX3_init_24 : decode cX3_init 24 = .ok (.putfield 18, 3) := by decide +kernel
theorem dX3_init_27 : decode cX3_init 27 = .ok (.return_, 1) := by decide +kernel
set_option maxRecDepth 100000 in
theorem ggX3_begin_X10_ofBidder : GoodIn wsX3_begin wsX10_ofBidder := goodIn_r _ [10, 11, 12, 13, 14, 30, 31, 32, 33, 34] rfl (by decide +kernel)
set_option maxRecDepth 100000 in
theorem gX3_begin_X10_ofBidder : GoodIn wsX3_begin (wsV RX3 23 RX10 yX10_ofBidder wsX10_ofBidder) := goodIn_app (goodIn_r ([.methodLink RX3 23 yX10_ofBidder, .instanceMethod yX10_ofBidder, .selects RX10 yX10_ofBidder yX10_ofBidder, .initialized RX10] : List Cond) [6, 7, 8, 9] rfl (by decide +kernel)) ggX3_begin_X10_ofBidder
set_option maxRecDepth 100000 in
theorem ggX3_begin_X3_dropOwn : GoodIn wsX3_begin wsX3_dropOwn := goodIn_r _ [19, 20, 21, 22, 23, 24, 25, 26, 27, 28, 29] rfl (by decide +kernel)
set_option maxRecDepth 100000 in
theorem gX3_begin_X3_dropOwn : GoodIn wsX3_begin (wsV RX3 37 RX3 yX3_dropOwn wsX3_dropOwn) := goodIn_app (goodIn_r ([.methodLink RX3 37 yX3_dropOwn, .instanceMethod yX3_dropOwn, .selects RX3 yX3_dropOwn yX3_dropOwn, .initialized RX3] : List Cond) [15, 16, 17, 18] rfl (by decide +kernel)) ggX3_begin_X3_dropOwn
theorem dX3_begin_0 : decode cX3_begin 0 = .ok (.iconst 0, 1) := by decide +kernel
theorem dX3_begin_1 : decode cX3_begin 1 = .ok (.istore_n 2, 1) := by decide +kernel
theorem dX3_begin_2 : decode cX3_begin 2 = .ok (.iload_n 2, 1) := by decide +kernel
theorem dX3_begin_3 : decode cX3_begin 3 = .ok (.aload_n 0, 1) := by decide +kernel
theorem dX3_begin_4 : decode cX3_begin 4 = .ok (.getfield 15, 3) := by decide +kernel
theorem dX3_begin_7 : decode cX3_begin 7 = .ok (.arraylength, 1) := by decide +kernel
theorem dX3_begin_8 : decode cX3_begin 8 = .ok (.if_icmp .ge 21, 3) := by decide +kernel
theorem dX3_begin_11 : decode cX3_begin 11 = .ok (.aload_n 0, 1) := by decide +kernel
theorem dX3_begin_12 : decode cX3_begin 12 = .ok (.getfield 15, 3) := by decide +kernel
theorem dX3_begin_15 : decode cX3_begin 15 = .ok (.iload_n 2, 1) := by decide +kernel
theorem dX3_begin_16 : decode cX3_begin 16 = .ok (.aload_n 1, 1) := by decide +kernel
theorem dX3_begin_17 : decode cX3_begin 17 = .ok (.iload_n 2, 1) := by decide +kernel
theorem dX3_begin_18 : decode cX3_begin 18 = .ok (.iconst 0, 1) := by decide +kernel
theorem dX3_begin_19 : decode cX3_begin 19 = .ok (.invokevirtual 23, 3) := by decide +kernel
theorem dX3_begin_22 : decode cX3_begin 22 = .ok (.iastore, 1) := by decide +kernel
theorem dX3_begin_23 : decode cX3_begin 23 = .ok (.iinc 2 1, 3) := by decide +kernel
theorem dX3_begin_26 : decode cX3_begin 26 = .ok (.goto (-24), 3) := by decide +kernel
theorem dX3_begin_29 : decode cX3_begin 29 = .ok (.iconst 0, 1) := by decide +kernel
theorem dX3_begin_30 : decode cX3_begin 30 = .ok (.istore_n 2, 1) := by decide +kernel
theorem dX3_begin_31 : decode cX3_begin 31 = .ok (.iload_n 2, 1) := by decide +kernel
theorem dX3_begin_32 : decode cX3_begin 32 = .ok (.aload_n 0, 1) := by decide +kernel
theorem dX3_begin_33 : decode cX3_begin 33 = .ok (.getfield 18, 3) := by decide +kernel
theorem dX3_begin_36 : decode cX3_begin 36 = .ok (.arraylength, 1) := by decide +kernel
theorem dX3_begin_37 : decode cX3_begin 37 = .ok (.if_icmp .ge 16, 3) := by decide +kernel
theorem dX3_begin_40 : decode cX3_begin 40 = .ok (.aload_n 0, 1) := by decide +kernel
theorem dX3_begin_41 : decode cX3_begin 41 = .ok (.getfield 18, 3) := by decide +kernel
theorem dX3_begin_44 : decode cX3_begin 44 = .ok (.iload_n 2, 1) := by decide +kernel
theorem dX3_begin_45 : decode cX3_begin 45 = .ok (.iconst 0, 1) := by decide +kernel
theorem dX3_begin_46 : decode cX3_begin 46 = .ok (.iastore, 1) := by decide +kernel
theorem dX3_begin_47 : decode cX3_begin 47 = .ok (.iinc 2 1, 3) := by decide +kernel
theorem dX3_begin_50 : decode cX3_begin 50 = .ok (.goto (-19), 3) := by decide +kernel
theorem dX3_begin_53 : decode cX3_begin 53 = .ok (.aload_n 0, 1) := by decide +kernel
theorem dX3_begin_54 : decode cX3_begin 54 = .ok (.iconst 0, 1) := by decide +kernel
theorem dX3_begin_55 : decode cX3_begin 55 = .ok (.putfield 27, 3) := by decide +kernel
theorem dX3_begin_58 : decode cX3_begin 58 = .ok (.aload_n 0, 1) := by decide +kernel
theorem dX3_begin_59 : decode cX3_begin 59 = .ok (.iconst 0, 1) := by decide +kernel
theorem dX3_begin_60 : decode cX3_begin 60 = .ok (.putfield 31, 3) := by decide +kernel
theorem dX3_begin_63 : decode cX3_begin 63 = .ok (.aload_n 0, 1) := by decide +kernel
theorem dX3_begin_64 : decode cX3_begin 64 = .ok (.iconst 0, 1) := by decide +kernel
theorem dX3_begin_65 : decode cX3_begin 65 = .ok (.putfield 34, 3) := by decide +kernel
theorem dX3_begin_68 : decode cX3_begin 68 = .ok (.aload_n 0, 1) := by decide +kernel
theorem dX3_begin_69 : decode cX3_begin 69 = .ok (.invokevirtual 37, 3) := by decide +kernel
theorem dX3_begin_72 : decode cX3_begin 72 = .ok (.return_, 1) := by decide +kernel
set_option maxRecDepth 100000 in
theorem ggX3_copyFrom_X11_copyRow : GoodIn wsX3_copyFrom wsX11_copyRow := goodIn_r _ [11] rfl (by decide +kernel)
set_option maxRecDepth 100000 in
theorem gX3_copyFrom_X11_copyRow_n40 : GoodIn wsX3_copyFrom (wsX11_copyRow) := ggX3_copyFrom_X11_copyRow
theorem dX3_copyFrom_0 : decode cX3_copyFrom 0 = .ok (.aload_n 1, 1) := by decide +kernel
theorem dX3_copyFrom_1 : decode cX3_copyFrom 1 = .ok (.getfield 9, 3) := by decide +kernel
theorem dX3_copyFrom_4 : decode cX3_copyFrom 4 = .ok (.aload_n 0, 1) := by decide +kernel
theorem dX3_copyFrom_5 : decode cX3_copyFrom 5 = .ok (.getfield 9, 3) := by decide +kernel
theorem dX3_copyFrom_8 : decode cX3_copyFrom 8 = .ok (.invokestatic 40, 3) := by decide +kernel
theorem dX3_copyFrom_11 : decode cX3_copyFrom 11 = .ok (.aload_n 1, 1) := by decide +kernel
theorem dX3_copyFrom_12 : decode cX3_copyFrom 12 = .ok (.getfield 15, 3) := by decide +kernel
theorem dX3_copyFrom_15 : decode cX3_copyFrom 15 = .ok (.aload_n 0, 1) := by decide +kernel
theorem dX3_copyFrom_16 : decode cX3_copyFrom 16 = .ok (.getfield 15, 3) := by decide +kernel
theorem dX3_copyFrom_19 : decode cX3_copyFrom 19 = .ok (.invokestatic 40, 3) := by decide +kernel
theorem dX3_copyFrom_22 : decode cX3_copyFrom 22 = .ok (.aload_n 1, 1) := by decide +kernel
theorem dX3_copyFrom_23 : decode cX3_copyFrom 23 = .ok (.getfield 18, 3) := by decide +kernel
theorem dX3_copyFrom_26 : decode cX3_copyFrom 26 = .ok (.aload_n 0, 1) := by decide +kernel
theorem dX3_copyFrom_27 : decode cX3_copyFrom 27 = .ok (.getfield 18, 3) := by decide +kernel
theorem dX3_copyFrom_30 : decode cX3_copyFrom 30 = .ok (.invokestatic 40, 3) := by decide +kernel
theorem dX3_copyFrom_33 : decode cX3_copyFrom 33 = .ok (.aload_n 0, 1) := by decide +kernel
theorem dX3_copyFrom_34 : decode cX3_copyFrom 34 = .ok (.aload_n 1, 1) := by decide +kernel
theorem dX3_copyFrom_35 : decode cX3_copyFrom 35 = .ok (.getfield 27, 3) := by decide +kernel
theorem dX3_copyFrom_38 : decode cX3_copyFrom 38 = .ok (.putfield 27, 3) := by decide +kernel
theorem dX3_copyFrom_41 : decode cX3_copyFrom 41 = .ok (.aload_n 0, 1) := by decide +kernel
theorem dX3_copyFrom_42 : decode cX3_copyFrom 42 = .ok (.aload_n 1, 1) := by decide +kernel
theorem dX3_copyFrom_43 : decode cX3_copyFrom 43 = .ok (.getfield 31, 3) := by decide +kernel
theorem dX3_copyFrom_46 : decode cX3_copyFrom 46 = .ok (.putfield 31, 3) := by decide +kernel
theorem dX3_copyFrom_49 : decode cX3_copyFrom 49 = .ok (.aload_n 0, 1) := by decide +kernel
theorem dX3_copyFrom_50 : decode cX3_copyFrom 50 = .ok (.aload_n 1, 1) := by decide +kernel
theorem dX3_copyFrom_51 : decode cX3_copyFrom 51 = .ok (.getfield 34, 3) := by decide +kernel
theorem dX3_copyFrom_54 : decode cX3_copyFrom 54 = .ok (.putfield 34, 3) := by decide +kernel
theorem dX3_copyFrom_57 : decode cX3_copyFrom 57 = .ok (.aload_n 0, 1) := by decide +kernel
theorem dX3_copyFrom_58 : decode cX3_copyFrom 58 = .ok (.aload_n 1, 1) := by decide +kernel
theorem dX3_copyFrom_59 : decode cX3_copyFrom 59 = .ok (.getfield 44, 3) := by decide +kernel
theorem dX3_copyFrom_62 : decode cX3_copyFrom 62 = .ok (.putfield 44, 3) := by decide +kernel
theorem dX3_copyFrom_65 : decode cX3_copyFrom 65 = .ok (.aload_n 0, 1) := by decide +kernel
theorem dX3_copyFrom_66 : decode cX3_copyFrom 66 = .ok (.aload_n 1, 1) := by decide +kernel
theorem dX3_copyFrom_67 : decode cX3_copyFrom 67 = .ok (.getfield 47, 3) := by decide +kernel
theorem dX3_copyFrom_70 : decode cX3_copyFrom 70 = .ok (.putfield 47, 3) := by decide +kernel
theorem dX3_copyFrom_73 : decode cX3_copyFrom 73 = .ok (.return_, 1) := by decide +kernel
theorem dX3_dropOwn_0 : decode cX3_dropOwn 0 = .ok (.aload_n 0, 1) := by decide +kernel
theorem dX3_dropOwn_1 : decode cX3_dropOwn 1 = .ok (.bipush (-9), 2) := by decide +kernel
theorem dX3_dropOwn_3 : decode cX3_dropOwn 3 = .ok (.putfield 44, 3) := by decide +kernel
theorem dX3_dropOwn_6 : decode cX3_dropOwn 6 = .ok (.aload_n 0, 1) := by decide +kernel
theorem dX3_dropOwn_7 : decode cX3_dropOwn 7 = .ok (.iconst 0, 1) := by decide +kernel
theorem dX3_dropOwn_8 : decode cX3_dropOwn 8 = .ok (.putfield 47, 3) := by decide +kernel
theorem dX3_dropOwn_11 : decode cX3_dropOwn 11 = .ok (.return_, 1) := by decide +kernel
set_option maxRecDepth 100000 in
theorem ggX3_addDay_X11_put : GoodIn wsX3_addDay wsX11_put := goodIn_r _ [5] rfl (by decide +kernel)
set_option maxRecDepth 100000 in
theorem gX3_addDay_X11_put_n50 : GoodIn wsX3_addDay (wsX11_put) := ggX3_addDay_X11_put
theorem dX3_addDay_0 : decode cX3_addDay 0 = .ok (.aload_n 0, 1) := by decide +kernel
theorem dX3_addDay_1 : decode cX3_addDay 1 = .ok (.getfield 9, 3) := by decide +kernel
theorem dX3_addDay_4 : decode cX3_addDay 4 = .ok (.aload_n 0, 1) := by decide +kernel
theorem dX3_addDay_5 : decode cX3_addDay 5 = .ok (.getfield 27, 3) := by decide +kernel
theorem dX3_addDay_8 : decode cX3_addDay 8 = .ok (.iload_n 1, 1) := by decide +kernel
theorem dX3_addDay_9 : decode cX3_addDay 9 = .ok (.invokestatic 50, 3) := by decide +kernel
theorem dX3_addDay_12 : decode cX3_addDay 12 = .ok (.aload_n 0, 1) := by decide +kernel
theorem dX3_addDay_13 : decode cX3_addDay 13 = .ok (.dup, 1) := by decide +kernel
theorem dX3_addDay_14 : decode cX3_addDay 14 = .ok (.getfield 27, 3) := by decide +kernel
theorem dX3_addDay_17 : decode cX3_addDay 17 = .ok (.iconst 1, 1) := by decide +kernel
theorem dX3_addDay_18 : decode cX3_addDay 18 = .ok (.iadd, 1) := by decide +kernel
theorem dX3_addDay_19 : decode cX3_addDay 19 = .ok (.putfield 27, 3) := by decide +kernel
theorem dX3_addDay_22 : decode cX3_addDay 22 = .ok (.return_, 1) := by decide +kernel
set_option maxRecDepth 100000 in
theorem ggX3_nameOfDay_X11_at : GoodIn wsX3_nameOfDay wsX11_at := goodIn_r _ [4] rfl (by decide +kernel)
set_option maxRecDepth 100000 in
theorem gX3_nameOfDay_X11_at_n54 : GoodIn wsX3_nameOfDay (wsX11_at) := ggX3_nameOfDay_X11_at
theorem dX3_nameOfDay_0 : decode cX3_nameOfDay 0 = .ok (.aload_n 0, 1) := by decide +kernel
theorem dX3_nameOfDay_1 : decode cX3_nameOfDay 1 = .ok (.getfield 9, 3) := by decide +kernel
theorem dX3_nameOfDay_4 : decode cX3_nameOfDay 4 = .ok (.iload_n 1, 1) := by decide +kernel
theorem dX3_nameOfDay_5 : decode cX3_nameOfDay 5 = .ok (.iconst 1, 1) := by decide +kernel
theorem dX3_nameOfDay_6 : decode cX3_nameOfDay 6 = .ok (.isub, 1) := by decide +kernel
theorem dX3_nameOfDay_7 : decode cX3_nameOfDay 7 = .ok (.invokestatic 54, 3) := by decide +kernel
theorem dX3_nameOfDay_10 : decode cX3_nameOfDay 10 = .ok (.ireturn, 1) := by decide +kernel
set_option maxRecDepth 100000 in
theorem ggX3_daysCalled_X3_nameOfDay : GoodIn wsX3_daysCalled wsX3_nameOfDay := goodIn_r _ [6, 7, 8, 9, 10, 11, 12, 13, 14, 15, 16, 17, 18] rfl (by decide +kernel)
set_option maxRecDepth 100000 in
theorem gX3_daysCalled_X3_nameOfDay : GoodIn wsX3_daysCalled (wsV RX3 58 RX3 yX3_nameOfDay wsX3_nameOfDay) := goodIn_app (goodIn_r ([.methodLink RX3 58 yX3_nameOfDay, .instanceMethod yX3_nameOfDay, .selects RX3 yX3_nameOfDay yX3_nameOfDay, .initialized RX3] : List Cond) [2, 3, 4, 5] rfl (by decide +kernel)) ggX3_daysCalled_X3_nameOfDay
theorem dX3_daysCalled_0 : decode cX3_daysCalled 0 = .ok (.iconst 0, 1) := by decide +kernel
theorem dX3_daysCalled_1 : decode cX3_daysCalled 1 = .ok (.istore_n 2, 1) := by decide +kernel
theorem dX3_daysCalled_2 : decode cX3_daysCalled 2 = .ok (.iconst 1, 1) := by decide +kernel
theorem dX3_daysCalled_3 : decode cX3_daysCalled 3 = .ok (.istore_n 3, 1) := by decide +kernel
theorem dX3_daysCalled_4 : decode cX3_daysCalled 4 = .ok (.iload_n 3, 1) := by decide +kernel
theorem dX3_daysCalled_5 : decode cX3_daysCalled 5 = .ok (.aload_n 0, 1) := by decide +kernel
theorem dX3_daysCalled_6 : decode cX3_daysCalled 6 = .ok (.getfield 27, 3) := by decide +kernel
theorem dX3_daysCalled_9 : decode cX3_daysCalled 9 = .ok (.if_icmp .gt 21, 3) := by decide +kernel
theorem dX3_daysCalled_12 : decode cX3_daysCalled 12 = .ok (.aload_n 0, 1) := by decide +kernel
theorem dX3_daysCalled_13 : decode cX3_daysCalled 13 = .ok (.iload_n 3, 1) := by decide +kernel
theorem dX3_daysCalled_14 : decode cX3_daysCalled 14 = .ok (.invokevirtual 58, 3) := by decide +kernel
theorem dX3_daysCalled_17 : decode cX3_daysCalled 17 = .ok (.iload_n 1, 1) := by decide +kernel
theorem dX3_daysCalled_18 : decode cX3_daysCalled 18 = .ok (.if_icmp .ne 6, 3) := by decide +kernel
theorem dX3_daysCalled_21 : decode cX3_daysCalled 21 = .ok (.iinc 2 1, 3) := by decide +kernel
theorem dX3_daysCalled_24 : decode cX3_daysCalled 24 = .ok (.iinc 3 1, 3) := by decide +kernel
theorem dX3_daysCalled_27 : decode cX3_daysCalled 27 = .ok (.goto (-23), 3) := by decide +kernel
theorem dX3_daysCalled_30 : decode cX3_daysCalled 30 = .ok (.iload_n 2, 1) := by decide +kernel
theorem dX3_daysCalled_31 : decode cX3_daysCalled 31 = .ok (.ireturn, 1) := by decide +kernel
set_option maxRecDepth 100000 in
theorem ggX3_latestCalled_X3_nameOfDay : GoodIn wsX3_latestCalled wsX3_nameOfDay := goodIn_r _ [6, 7, 8, 9, 10, 11, 12, 13, 14, 15, 16, 17, 18] rfl (by decide +kernel)
set_option maxRecDepth 100000 in
theorem gX3_latestCalled_X3_nameOfDay : GoodIn wsX3_latestCalled (wsV RX3 58 RX3 yX3_nameOfDay wsX3_nameOfDay) := goodIn_app (goodIn_r ([.methodLink RX3 58 yX3_nameOfDay, .instanceMethod yX3_nameOfDay, .selects RX3 yX3_nameOfDay yX3_nameOfDay, .initialized RX3] : List Cond) [2, 3, 4, 5] rfl (by decide +kernel)) ggX3_latestCalled_X3_nameOfDay
theorem dX3_latestCalled_0 : decode cX3_latestCalled 0 = .ok (.aload_n 0, 1) := by decide +kernel
theorem dX3_latestCalled_1 : decode cX3_latestCalled 1 = .ok (.getfield 27, 3) := by decide +kernel
theorem dX3_latestCalled_4 : decode cX3_latestCalled 4 = .ok (.istore_n 2, 1) := by decide +kernel
theorem dX3_latestCalled_5 : decode cX3_latestCalled 5 = .ok (.iload_n 2, 1) := by decide +kernel
theorem dX3_latestCalled_6 : decode cX3_latestCalled 6 = .ok (.iconst 1, 1) := by decide +kernel
theorem dX3_latestCalled_7 : decode cX3_latestCalled 7 = .ok (.if_icmp .lt 20, 3) := by decide +kernel
theorem dX3_latestCalled_10 : decode cX3_latestCalled 10 = .ok (.aload_n 0, 1) := by decide +kernel
theorem dX3_latestCalled_11 : decode cX3_latestCalled 11 = .ok (.iload_n 2, 1) := by decide +kernel
theorem dX3_latestCalled_12 : decode cX3_latestCalled 12 = .ok (.invokevirtual 58, 3) := by decide +kernel
theorem dX3_latestCalled_15 : decode cX3_latestCalled 15 = .ok (.iload_n 1, 1) := by decide +kernel
theorem dX3_latestCalled_16 : decode cX3_latestCalled 16 = .ok (.if_icmp .ne 5, 3) := by decide +kernel
theorem dX3_latestCalled_19 : decode cX3_latestCalled 19 = .ok (.iload_n 2, 1) := by decide +kernel
theorem dX3_latestCalled_20 : decode cX3_latestCalled 20 = .ok (.ireturn, 1) := by decide +kernel
theorem dX3_latestCalled_21 : decode cX3_latestCalled 21 = .ok (.iinc 2 (-1), 3) := by decide +kernel
theorem dX3_latestCalled_24 : decode cX3_latestCalled 24 = .ok (.goto (-19), 3) := by decide +kernel
theorem dX3_latestCalled_27 : decode cX3_latestCalled 27 = .ok (.iconst 0, 1) := by decide +kernel
theorem dX3_latestCalled_28 : decode cX3_latestCalled 28 = .ok (.ireturn, 1) := by decide +kernel
set_option maxRecDepth 100000 in
theorem ggX3_isBarred_X11_at : GoodIn wsX3_isBarred wsX11_at := goodIn_r _ [5] rfl (by decide +kernel)
set_option maxRecDepth 100000 in
theorem gX3_isBarred_X11_at_n54 : GoodIn wsX3_isBarred (wsX11_at) := ggX3_isBarred_X11_at
theorem dX3_isBarred_0 : decode cX3_isBarred 0 = .ok (.iconst 1, 1) := by decide +kernel
theorem dX3_isBarred_1 : decode cX3_isBarred 1 = .ok (.istore_n 3, 1) := by decide +kernel
theorem dX3_isBarred_2 : decode cX3_isBarred 2 = .ok (.iload_n 3, 1) := by decide +kernel
theorem dX3_isBarred_3 : decode cX3_isBarred 3 = .ok (.iload_n 2, 1) := by decide +kernel
theorem dX3_isBarred_4 : decode cX3_isBarred 4 = .ok (.if_icmp .gt 36, 3) := by decide +kernel
theorem dX3_isBarred_7 : decode cX3_isBarred 7 = .ok (.iload_n 3, 1) := by decide +kernel
theorem dX3_isBarred_8 : decode cX3_isBarred 8 = .ok (.aload_n 0, 1) := by decide +kernel
theorem dX3_isBarred_9 : decode cX3_isBarred 9 = .ok (.getfield 27, 3) := by decide +kernel
theorem dX3_isBarred_12 : decode cX3_isBarred 12 = .ok (.if_icmp .gt 28, 3) := by decide +kernel
theorem dX3_isBarred_15 : decode cX3_isBarred 15 = .ok (.aload_n 0, 1) := by decide +kernel
theorem dX3_isBarred_16 : decode cX3_isBarred 16 = .ok (.getfield 9, 3) := by decide +kernel
theorem dX3_isBarred_19 : decode cX3_isBarred 19 = .ok (.aload_n 0, 1) := by decide +kernel
theorem dX3_isBarred_20 : decode cX3_isBarred 20 = .ok (.getfield 27, 3) := by decide +kernel
theorem dX3_isBarred_23 : decode cX3_isBarred 23 = .ok (.iload_n 3, 1) := by decide +kernel
theorem dX3_isBarred_24 : decode cX3_isBarred 24 = .ok (.isub, 1) := by decide +kernel
theorem dX3_isBarred_25 : decode cX3_isBarred 25 = .ok (.invokestatic 54, 3) := by decide +kernel
theorem dX3_isBarred_28 : decode cX3_isBarred 28 = .ok (.iload_n 1, 1) := by decide +kernel
theorem dX3_isBarred_29 : decode cX3_isBarred 29 = .ok (.if_icmp .ne 5, 3) := by decide +kernel
theorem dX3_isBarred_32 : decode cX3_isBarred 32 = .ok (.iconst 1, 1) := by decide +kernel
theorem dX3_isBarred_33 : decode cX3_isBarred 33 = .ok (.ireturn, 1) := by decide +kernel
theorem dX3_isBarred_34 : decode cX3_isBarred 34 = .ok (.iinc 3 1, 3) := by decide +kernel
theorem dX3_isBarred_37 : decode cX3_isBarred 37 = .ok (.goto (-35), 3) := by decide +kernel
theorem dX3_isBarred_40 : decode cX3_isBarred 40 = .ok (.iconst 0, 1) := by decide +kernel
theorem dX3_isBarred_41 : decode cX3_isBarred 41 = .ok (.ireturn, 1) := by decide +kernel
set_option maxRecDepth 100000 in
theorem ggX3_purse_X11_at : GoodIn wsX3_purse wsX11_at := goodIn_r _ [4] rfl (by decide +kernel)
set_option maxRecDepth 100000 in
theorem gX3_purse_X11_at_n54 : GoodIn wsX3_purse (wsX11_at) := ggX3_purse_X11_at
theorem dX3_purse_0 : decode cX3_purse 0 = .ok (.aload_n 0, 1) := by decide +kernel
theorem dX3_purse_1 : decode cX3_purse 1 = .ok (.getfield 15, 3) := by decide +kernel
theorem dX3_purse_4 : decode cX3_purse 4 = .ok (.iload_n 1, 1) := by decide +kernel
theorem dX3_purse_5 : decode cX3_purse 5 = .ok (.invokestatic 54, 3) := by decide +kernel
theorem dX3_purse_8 : decode cX3_purse 8 = .ok (.ireturn, 1) := by decide +kernel
set_option maxRecDepth 100000 in
theorem ggX3_addToPurse_X11_at : GoodIn wsX3_addToPurse wsX11_at := goodIn_r _ [4] rfl (by decide +kernel)
set_option maxRecDepth 100000 in
theorem gX3_addToPurse_X11_at_n54 : GoodIn wsX3_addToPurse (wsX11_at) := ggX3_addToPurse_X11_at
set_option maxRecDepth 100000 in
theorem ggX3_addToPurse_X11_put : GoodIn wsX3_addToPurse wsX11_put := goodIn_r _ [6] rfl (by decide +kernel)
set_option maxRecDepth 100000 in
theorem gX3_addToPurse_X11_put_n50 : GoodIn wsX3_addToPurse (wsX11_put) := ggX3_addToPurse_X11_put
theorem dX3_addToPurse_0 : decode cX3_addToPurse 0 = .ok (.aload_n 0, 1) := by decide +kernel
theorem dX3_addToPurse_1 : decode cX3_addToPurse 1 = .ok (.getfield 15, 3) := by decide +kernel
theorem dX3_addToPurse_4 : decode cX3_addToPurse 4 = .ok (.iload_n 1, 1) := by decide +kernel
theorem dX3_addToPurse_5 : decode cX3_addToPurse 5 = .ok (.aload_n 0, 1) := by decide +kernel
theorem dX3_addToPurse_6 : decode cX3_addToPurse 6 = .ok (.getfield 15, 3) := by decide +kernel
theorem dX3_addToPurse_9 : decode cX3_addToPurse 9 = .ok (.iload_n 1, 1) := by decide +kernel
theorem dX3_addToPurse_10 : decode cX3_addToPurse 10 = .ok (.invokestatic 54, 3) := by decide +kernel
theorem dX3_addToPurse_13 : decode cX3_addToPurse 13 = .ok (.iload_n 2, 1) := by decide +kernel
theorem dX3_addToPurse_14 : decode cX3_addToPurse 14 = .ok (.iadd, 1) := by decide +kernel
theorem dX3_addToPurse_15 : decode cX3_addToPurse 15 = .ok (.invokestatic 50, 3) := by decide +kernel
theorem dX3_addToPurse_18 : decode cX3_addToPurse 18 = .ok (.return_, 1) := by decide +kernel
set_option maxRecDepth 100000 in
theorem ggX3_howIs_X11_at : GoodIn wsX3_howIs wsX11_at := goodIn_r _ [4] rfl (by decide +kernel)
set_option maxRecDepth 100000 in
theorem gX3_howIs_X11_at_n54 : GoodIn wsX3_howIs (wsX11_at) := ggX3_howIs_X11_at
theorem dX3_howIs_0 : decode cX3_howIs 0 = .ok (.aload_n 0, 1) := by decide +kernel
theorem dX3_howIs_1 : decode cX3_howIs 1 = .ok (.getfield 18, 3) := by decide +kernel
theorem dX3_howIs_4 : decode cX3_howIs 4 = .ok (.iload_n 1, 1) := by decide +kernel
theorem dX3_howIs_5 : decode cX3_howIs 5 = .ok (.invokestatic 54, 3) := by decide +kernel
theorem dX3_howIs_8 : decode cX3_howIs 8 = .ok (.ireturn, 1) := by decide +kernel
set_option maxRecDepth 100000 in
theorem ggX3_setHowIs_X11_put : GoodIn wsX3_setHowIs wsX11_put := goodIn_r _ [4] rfl (by decide +kernel)
set_option maxRecDepth 100000 in
theorem gX3_setHowIs_X11_put_n50 : GoodIn wsX3_setHowIs (wsX11_put) := ggX3_setHowIs_X11_put
theorem dX3_setHowIs_0 : decode cX3_setHowIs 0 = .ok (.aload_n 0, 1) := by decide +kernel
theorem dX3_setHowIs_1 : decode cX3_setHowIs 1 = .ok (.getfield 18, 3) := by decide +kernel
theorem dX3_setHowIs_4 : decode cX3_setHowIs 4 = .ok (.iload_n 1, 1) := by decide +kernel
theorem dX3_setHowIs_5 : decode cX3_setHowIs 5 = .ok (.iload_n 2, 1) := by decide +kernel
theorem dX3_setHowIs_6 : decode cX3_setHowIs 6 = .ok (.invokestatic 50, 3) := by decide +kernel
theorem dX3_setHowIs_9 : decode cX3_setHowIs 9 = .ok (.return_, 1) := by decide +kernel
theorem dX3_defaults_0 : decode cX3_defaults 0 = .ok (.iconst 0, 1) := by decide +kernel
theorem dX3_defaults_1 : decode cX3_defaults 1 = .ok (.istore_n 1, 1) := by decide +kernel
theorem dX3_defaults_2 : decode cX3_defaults 2 = .ok (.iconst 0, 1) := by decide +kernel
theorem dX3_defaults_3 : decode cX3_defaults 3 = .ok (.istore_n 2, 1) := by decide +kernel
theorem dX3_defaults_4 : decode cX3_defaults 4 = .ok (.iload_n 2, 1) := by decide +kernel
theorem dX3_defaults_5 : decode cX3_defaults 5 = .ok (.aload_n 0, 1) := by decide +kernel
theorem dX3_defaults_6 : decode cX3_defaults 6 = .ok (.getfield 18, 3) := by decide +kernel
theorem dX3_defaults_9 : decode cX3_defaults 9 = .ok (.arraylength, 1) := by decide +kernel
theorem dX3_defaults_10 : decode cX3_defaults 10 = .ok (.if_icmp .ge 22, 3) := by decide +kernel
theorem dX3_defaults_13 : decode cX3_defaults 13 = .ok (.aload_n 0, 1) := by decide +kernel
theorem dX3_defaults_14 : decode cX3_defaults 14 = .ok (.getfield 18, 3) := by decide +kernel
theorem dX3_defaults_17 : decode cX3_defaults 17 = .ok (.iload_n 2, 1) := by decide +kernel
theorem dX3_defaults_18 : decode cX3_defaults 18 = .ok (.iaload, 1) := by decide +kernel
theorem dX3_defaults_19 : decode cX3_defaults 19 = .ok (.iconst 2, 1) := by decide +kernel
theorem dX3_defaults_20 : decode cX3_defaults 20 = .ok (.if_icmp .ne 6, 3) := by decide +kernel
theorem dX3_defaults_23 : decode cX3_defaults 23 = .ok (.iinc 1 1, 3) := by decide +kernel
theorem dX3_defaults_26 : decode cX3_defaults 26 = .ok (.iinc 2 1, 3) := by decide +kernel
theorem dX3_defaults_29 : decode cX3_defaults 29 = .ok (.goto (-25), 3) := by decide +kernel
theorem dX3_defaults_32 : decode cX3_defaults 32 = .ok (.iload_n 1, 1) := by decide +kernel
theorem dX3_defaults_33 : decode cX3_defaults 33 = .ok (.ireturn, 1) := by decide +kernel
set_option maxRecDepth 100000 in
theorem ggX4_init_X1_init : GoodIn wsX4_init wsX1_init := goodIn_r _ [10, 11, 2, 3, 12, 13, 14, 15, 16] rfl (by decide +kernel)
set_option maxRecDepth 100000 in
theorem gX4_init_X1_init_n11 : GoodIn wsX4_init (wsX1_init) := ggX4_init_X1_init
theorem dX4_init_0 : decode cX4_init 0 = .ok (.aload_n 0, 1) := by decide +kernel
theorem dX4_init_1 : decode cX4_init 1 = .ok (.invokespecial 3, 3) := by decide +kernel
theorem dX4_init_4 : decode cX4_init 4 = .ok (.aload_n 0, 1) := by decide +kernel
theorem dX4_init_5 : decode cX4_init 5 = .ok (.new 9, 3) := by decide +kernel
theorem dX4_init_8 : decode cX4_init 8 = .ok (.dup, 1) := by decide +kernel
theorem dX4_init_9 : decode cX4_init 9 = .ok (.invokespecial 11, 3) := by decide +kernel
theorem dX4_init_12 : decode cX4_init 12 = .ok (.putfield 12, 3) := by decide +kernel
theorem dX4_init_15 : decode cX4_init 15 = .ok (.aload_n 0, 1) := by decide +kernel
theorem dX4_init_16 : decode cX4_init 16 = .ok (.aload_n 1, 1) := by decide +kernel
theorem dX4_init_17 : decode cX4_init 17 = .ok (.putfield 18, 3) := by decide +kernel
theorem dX4_init_20 : decode cX4_init 20 = .ok (.return_, 1) := by decide +kernel
set_option maxRecDepth 100000 in
theorem ggX4_open_X1_callFor : GoodIn wsX4_open wsX1_callFor := goodIn_r _ [7, 8, 9, 10, 11, 6, 12, 13, 14, 15, 16, 17, 18, 19, 20, 21, 22, 23, 24, 25, 26, 27, 28, 29, 30, 31, 32, 33, 34, 35, 36, 37, 38, 39, 40, 45, 46, 47, 48, 49, 50, 51, 52, 53, 54, 55, 56, 57, 58, 59] rfl (by decide +kernel)
set_option maxRecDepth 100000 in
theorem gX4_open_X1_callFor : GoodIn wsX4_open (wsV RX4 22 RX1 yX1_callFor wsX1_callFor) := goodIn_app (goodIn_r ([.methodLink RX4 22 yX1_callFor, .instanceMethod yX1_callFor, .selects RX1 yX1_callFor yX1_callFor, .initialized RX1] : List Cond) [3, 4, 5, 6] rfl (by decide +kernel)) ggX4_open_X1_callFor
theorem dX4_open_0 : decode cX4_open 0 = .ok (.aload_n 0, 1) := by decide +kernel
theorem dX4_open_1 : decode cX4_open 1 = .ok (.getfield 12, 3) := by decide +kernel
theorem dX4_open_4 : decode cX4_open 4 = .ok (.aload_n 0, 1) := by decide +kernel
theorem dX4_open_5 : decode cX4_open 5 = .ok (.getfield 18, 3) := by decide +kernel
theorem dX4_open_8 : decode cX4_open 8 = .ok (.aload_n 1, 1) := by decide +kernel
theorem dX4_open_9 : decode cX4_open 9 = .ok (.invokevirtual 22, 3) := by decide +kernel
theorem dX4_open_12 : decode cX4_open 12 = .ok (.return_, 1) := by decide +kernel
set_option maxRecDepth 100000 in
theorem ggX4_bidOwn_X11_isName : GoodIn wsX4_bidOwn wsX11_isName := goodIn_r _ [5, 6, 7, 4, 8] rfl (by decide +kernel)
set_option maxRecDepth 100000 in
theorem gX4_bidOwn_X11_isName_n26 : GoodIn wsX4_bidOwn (wsX11_isName) := ggX4_bidOwn_X11_isName
set_option maxRecDepth 100000 in
theorem ggX4_bidOwn_X3_isBarred : GoodIn wsX4_bidOwn wsX3_isBarred := goodIn_r _ [13, 14, 15, 16, 4, 17, 36, 37, 38, 39, 40, 41, 42, 43] rfl (by decide +kernel)
set_option maxRecDepth 100000 in
theorem gX4_bidOwn_X3_isBarred : GoodIn wsX4_bidOwn (wsV RX4 36 RX3 yX3_isBarred wsX3_isBarred) := goodIn_app (goodIn_r ([.methodLink RX4 36 yX3_isBarred, .instanceMethod yX3_isBarred, .selects RX3 yX3_isBarred yX3_isBarred, .initialized RX3] : List Cond) [9, 10, 11, 12] rfl (by decide +kernel)) ggX4_bidOwn_X3_isBarred
set_option maxRecDepth 100000 in
theorem ggX4_bidOwn_X1_set : GoodIn wsX4_bidOwn wsX1_set := goodIn_r _ [22, 23, 24, 25, 4, 26, 44, 45] rfl (by decide +kernel)
set_option maxRecDepth 100000 in
theorem gX4_bidOwn_X1_set : GoodIn wsX4_bidOwn (wsV RX4 42 RX1 yX1_set wsX1_set) := goodIn_app (goodIn_r ([.methodLink RX4 42 yX1_set, .instanceMethod yX1_set, .selects RX1 yX1_set yX1_set, .initialized RX1] : List Cond) [18, 19, 20, 21] rfl (by decide +kernel)) ggX4_bidOwn_X1_set
theorem dX4_bidOwn_0 : decode cX4_bidOwn 0 = .ok (.iload_n 2, 1) := by decide +kernel
theorem dX4_bidOwn_1 : decode cX4_bidOwn 1 = .ok (.invokestatic 26, 3) := by decide +kernel
theorem dX4_bidOwn_4 : decode cX4_bidOwn 4 = .ok (.ifCond .eq 28, 3) := by decide +kernel
theorem dX4_bidOwn_7 : decode cX4_bidOwn 7 = .ok (.aload_n 1, 1) := by decide +kernel
theorem dX4_bidOwn_8 : decode cX4_bidOwn 8 = .ok (.iload_n 2, 1) := by decide +kernel
theorem dX4_bidOwn_9 : decode cX4_bidOwn 9 = .ok (.aload_n 0, 1) := by decide +kernel
theorem dX4_bidOwn_10 : decode cX4_bidOwn 10 = .ok (.getfield 18, 3) := by decide +kernel
theorem dX4_bidOwn_13 : decode cX4_bidOwn 13 = .ok (.getfield 30, 3) := by decide +kernel
theorem dX4_bidOwn_16 : decode cX4_bidOwn 16 = .ok (.invokevirtual 36, 3) := by decide +kernel
theorem dX4_bidOwn_19 : decode cX4_bidOwn 19 = .ok (.ifCond .ne 13, 3) := by decide +kernel
theorem dX4_bidOwn_22 : decode cX4_bidOwn 22 = .ok (.aload_n 0, 1) := by decide +kernel
theorem dX4_bidOwn_23 : decode cX4_bidOwn 23 = .ok (.getfield 12, 3) := by decide +kernel
theorem dX4_bidOwn_26 : decode cX4_bidOwn 26 = .ok (.iconst 4, 1) := by decide +kernel
theorem dX4_bidOwn_27 : decode cX4_bidOwn 27 = .ok (.iload_n 2, 1) := by decide +kernel
theorem dX4_bidOwn_28 : decode cX4_bidOwn 28 = .ok (.iload_n 3, 1) := by decide +kernel
theorem dX4_bidOwn_29 : decode cX4_bidOwn 29 = .ok (.invokevirtual 42, 3) := by decide +kernel
theorem dX4_bidOwn_32 : decode cX4_bidOwn 32 = .ok (.return_, 1) := by decide +kernel
set_option maxRecDepth 100000 in
theorem ggX4_silenceLower_X1_silenceLower : GoodIn wsX4_silenceLower wsX1_silenceLower := goodIn_r _ [6, 7, 8, 9, 10, 11, 12, 13, 14, 15, 16, 17, 18, 19, 24, 25] rfl (by decide +kernel)
set_option maxRecDepth 100000 in
theorem gX4_silenceLower_X1_silenceLower : GoodIn wsX4_silenceLower (wsV RX4 46 RX1 yX1_silenceLower wsX1_silenceLower) := goodIn_app (goodIn_r ([.methodLink RX4 46 yX1_silenceLower, .instanceMethod yX1_silenceLower, .selects RX1 yX1_silenceLower yX1_silenceLower, .initialized RX1] : List Cond) [2, 3, 4, 5] rfl (by decide +kernel)) ggX4_silenceLower_X1_silenceLower
theorem dX4_silenceLower_0 : decode cX4_silenceLower 0 = .ok (.aload_n 0, 1) := by decide +kernel
theorem dX4_silenceLower_1 : decode cX4_silenceLower 1 = .ok (.getfield 12, 3) := by decide +kernel
theorem dX4_silenceLower_4 : decode cX4_silenceLower 4 = .ok (.iload_n 1, 1) := by decide +kernel
theorem dX4_silenceLower_5 : decode cX4_silenceLower 5 = .ok (.iload_n 2, 1) := by decide +kernel
theorem dX4_silenceLower_6 : decode cX4_silenceLower 6 = .ok (.invokevirtual 46, 3) := by decide +kernel
theorem dX4_silenceLower_9 : decode cX4_silenceLower 9 = .ok (.return_, 1) := by decide +kernel
set_option maxRecDepth 100000 in
theorem ggX4_highestBid_X1_highest : GoodIn wsX4_highestBid wsX1_highest := goodIn_r _ [6, 7, 8, 9, 10, 5, 11, 12, 13, 14, 19, 20] rfl (by decide +kernel)
set_option maxRecDepth 100000 in
theorem gX4_highestBid_X1_highest : GoodIn wsX4_highestBid (wsV RX4 50 RX1 yX1_highest wsX1_highest) := goodIn_app (goodIn_r ([.methodLink RX4 50 yX1_highest, .instanceMethod yX1_highest, .selects RX1 yX1_highest yX1_highest, .initialized RX1] : List Cond) [2, 3, 4, 5] rfl (by decide +kernel)) ggX4_highestBid_X1_highest
theorem dX4_highestBid_0 : decode cX4_highestBid 0 = .ok (.aload_n 0, 1) := by decide +kernel
theorem dX4_highestBid_1 : decode cX4_highestBid 1 = .ok (.getfield 12, 3) := by decide +kernel
theorem dX4_highestBid_4 : decode cX4_highestBid 4 = .ok (.invokevirtual 50, 3) := by decide +kernel
theorem dX4_highestBid_7 : decode cX4_highestBid 7 = .ok (.ireturn, 1) := by decide +kernel
set_option maxRecDepth 100000 in
theorem ggX4_close_X1_winner : GoodIn wsX4_close wsX1_winner := goodIn_r _ [8, 9, 97, 98] rfl (by decide +kernel)
set_option maxRecDepth 100000 in
theorem gX4_close_X1_winner : GoodIn wsX4_close (wsV RX4 54 RX1 yX1_winner wsX1_winner) := goodIn_app (goodIn_r ([.methodLink RX4 54 yX1_winner, .instanceMethod yX1_winner, .selects RX1 yX1_winner yX1_winner, .initialized RX1] : List Cond) [4, 5, 6, 7] rfl (by decide +kernel)) ggX4_close_X1_winner
set_option maxRecDepth 100000 in
theorem ggX4_close_X1_price : GoodIn wsX4_close wsX1_price := goodIn_r _ [13, 9, 14, 15, 16, 17, 18, 19, 20, 21, 22, 23, 97, 98] rfl (by decide +kernel)
set_option maxRecDepth 100000 in
theorem gX4_close_X1_price : GoodIn wsX4_close (wsV RX4 62 RX1 yX1_price wsX1_price) := goodIn_app (goodIn_r ([.methodLink RX4 62 yX1_price, .instanceMethod yX1_price, .selects RX1 yX1_price yX1_price, .initialized RX1] : List Cond) [10, 11, 12, 7] rfl (by decide +kernel)) ggX4_close_X1_price
set_option maxRecDepth 100000 in
theorem ggX4_close_X3_addToPurse : GoodIn wsX4_close wsX3_addToPurse := goodIn_r _ [28, 29, 21, 22, 23, 30, 31, 89, 90, 91, 92, 93, 94, 95, 96] rfl (by decide +kernel)
set_option maxRecDepth 100000 in
theorem gX4_close_X3_addToPurse : GoodIn wsX4_close (wsV RX4 71 RX3 yX3_addToPurse wsX3_addToPurse) := goodIn_app (goodIn_r ([.methodLink RX4 71 yX3_addToPurse, .instanceMethod yX3_addToPurse, .selects RX3 yX3_addToPurse yX3_addToPurse, .initialized RX3] : List Cond) [24, 25, 26, 27] rfl (by decide +kernel)) ggX4_close_X3_addToPurse
set_option maxRecDepth 100000 in
theorem ggX4_close_X1_nameOf : GoodIn wsX4_close wsX1_nameOf := goodIn_r _ [35, 36, 21, 22, 23, 97, 98] rfl (by decide +kernel)
set_option maxRecDepth 100000 in
theorem gX4_close_X1_nameOf : GoodIn wsX4_close (wsV RX4 74 RX1 yX1_nameOf wsX1_nameOf) := goodIn_app (goodIn_r ([.methodLink RX4 74 yX1_nameOf, .instanceMethod yX1_nameOf, .selects RX1 yX1_nameOf yX1_nameOf, .initialized RX1] : List Cond) [32, 33, 34, 7] rfl (by decide +kernel)) ggX4_close_X1_nameOf
set_option maxRecDepth 100000 in
theorem ggX4_close_X4_callDay : GoodIn wsX4_close wsX4_callDay := goodIn_r _ [41, 42, 43, 44, 45, 27, 46, 47, 48, 30, 22, 31, 49, 50, 51, 52, 53, 54, 21, 23, 24, 25, 26, 28, 29, 55, 56, 57, 58, 59, 60, 61, 62, 63, 64, 65, 66, 67, 68, 69, 70, 71, 72, 73, 74, 75, 40, 76, 77, 78, 79, 80, 81, 82, 83, 84, 85, 86, 87, 88, 99, 100, 101, 102, 103, 89, 90, 91, 92, 93, 94, 95, 96] rfl (by decide +kernel)
set_option maxRecDepth 100000 in
theorem gX4_close_X4_callDay : GoodIn wsX4_close (wsV RX4 77 RX4 yX4_callDay wsX4_callDay) := goodIn_app (goodIn_r ([.methodLink RX4 77 yX4_callDay, .instanceMethod yX4_callDay, .selects RX4 yX4_callDay yX4_callDay, .initialized RX4] : List Cond) [37, 38, 39, 40] rfl (by decide +kernel)) ggX4_close_X4_callDay
theorem dX4_close_0 : decode cX4_close 0 = .ok (.aload_n 0, 1) := by decide +kernel
theorem dX4_close_1 : decode cX4_close 1 = .ok (.aload_n 0, 1) := by decide +kernel
theorem dX4_close_2 : decode cX4_close 2 = .ok (.getfield 12, 3) := by decide +kernel
theorem dX4_close_5 : decode cX4_close 5 = .ok (.invokevirtual 54, 3) := by decide +kernel
theorem dX4_close_8 : decode cX4_close 8 = .ok (.putfield 57, 3) := by decide +kernel
theorem dX4_close_11 : decode cX4_close 11 = .ok (.aload_n 0, 1) := by decide +kernel
theorem dX4_close_12 : decode cX4_close 12 = .ok (.getfield 57, 3) := by decide +kernel
theorem dX4_close_15 : decode cX4_close 15 = .ok (.bipush (-9), 2) := by decide +kernel
theorem dX4_close_17 : decode cX4_close 17 = .ok (.if_icmp .ne 16, 3) := by decide +kernel
theorem dX4_close_20 : decode cX4_close 20 = .ok (.aload_n 1, 1) := by decide +kernel
theorem dX4_close_21 : decode cX4_close 21 = .ok (.dup, 1) := by decide +kernel
theorem dX4_close_22 : decode cX4_close 22 = .ok (.getfield 59, 3) := by decide +kernel
theorem dX4_close_25 : decode cX4_close 25 = .ok (.iconst 1, 1) := by decide +kernel
theorem dX4_close_26 : decode cX4_close 26 = .ok (.iadd, 1) := by decide +kernel
theorem dX4_close_27 : decode cX4_close 27 = .ok (.putfield 59, 3) := by decide +kernel
theorem dX4_close_30 : decode cX4_close 30 = .ok (.bipush (-5), 2) := by decide +kernel
theorem dX4_close_32 : decode cX4_close 32 = .ok (.ireturn, 1) := by decide +kernel
theorem dX4_close_33 : decode cX4_close 33 = .ok (.aload_n 0, 1) := by decide +kernel
theorem dX4_close_34 : decode cX4_close 34 = .ok (.aload_n 0, 1) := by decide +kernel
theorem dX4_close_35 : decode cX4_close 35 = .ok (.getfield 12, 3) := by decide +kernel
theorem dX4_close_38 : decode cX4_close 38 = .ok (.aload_n 0, 1) := by decide +kernel
theorem dX4_close_39 : decode cX4_close 39 = .ok (.getfield 57, 3) := by decide +kernel
theorem dX4_close_42 : decode cX4_close 42 = .ok (.invokevirtual 62, 3) := by decide +kernel
theorem dX4_close_45 : decode cX4_close 45 = .ok (.putfield 66, 3) := by decide +kernel
theorem dX4_close_48 : decode cX4_close 48 = .ok (.aload_n 0, 1) := by decide +kernel
theorem dX4_close_49 : decode cX4_close 49 = .ok (.getfield 57, 3) := by decide +kernel
theorem dX4_close_52 : decode cX4_close 52 = .ok (.iconst 4, 1) := by decide +kernel
theorem dX4_close_53 : decode cX4_close 53 = .ok (.if_icmp .ne 19, 3) := by decide +kernel
theorem dX4_close_56 : decode cX4_close 56 = .ok (.aload_n 1, 1) := by decide +kernel
theorem dX4_close_57 : decode cX4_close 57 = .ok (.dup, 1) := by decide +kernel
theorem dX4_close_58 : decode cX4_close 58 = .ok (.getfield 68, 3) := by decide +kernel
theorem dX4_close_61 : decode cX4_close 61 = .ok (.aload_n 0, 1) := by decide +kernel
theorem dX4_close_62 : decode cX4_close 62 = .ok (.getfield 66, 3) := by decide +kernel
theorem dX4_close_65 : decode cX4_close 65 = .ok (.iadd, 1) := by decide +kernel
theorem dX4_close_66 : decode cX4_close 66 = .ok (.putfield 68, 3) := by decide +kernel
theorem dX4_close_69 : decode cX4_close 69 = .ok (.goto 16, 3) := by decide +kernel
theorem dX4_close_72 : decode cX4_close 72 = .ok (.aload_n 1, 1) := by decide +kernel
theorem dX4_close_73 : decode cX4_close 73 = .ok (.aload_n 0, 1) := by decide +kernel
theorem dX4_close_74 : decode cX4_close 74 = .ok (.getfield 57, 3) := by decide +kernel
theorem dX4_close_77 : decode cX4_close 77 = .ok (.aload_n 0, 1) := by decide +kernel
theorem dX4_close_78 : decode cX4_close 78 = .ok (.getfield 66, 3) := by decide +kernel
theorem dX4_close_81 : decode cX4_close 81 = .ok (.ineg, 1) := by decide +kernel
theorem dX4_close_82 : decode cX4_close 82 = .ok (.invokevirtual 71, 3) := by decide +kernel
theorem dX4_close_85 : decode cX4_close 85 = .ok (.aload_n 0, 1) := by decide +kernel
theorem dX4_close_86 : decode cX4_close 86 = .ok (.getfield 12, 3) := by decide +kernel
theorem dX4_close_89 : decode cX4_close 89 = .ok (.aload_n 0, 1) := by decide +kernel
theorem dX4_close_90 : decode cX4_close 90 = .ok (.getfield 57, 3) := by decide +kernel
theorem dX4_close_93 : decode cX4_close 93 = .ok (.invokevirtual 74, 3) := by decide +kernel
theorem dX4_close_96 : decode cX4_close 96 = .ok (.istore_n 2, 1) := by decide +kernel
theorem dX4_close_97 : decode cX4_close 97 = .ok (.aload_n 0, 1) := by decide +kernel
theorem dX4_close_98 : decode cX4_close 98 = .ok (.aload_n 1, 1) := by decide +kernel
theorem dX4_close_99 : decode cX4_close 99 = .ok (.iload_n 2, 1) := by decide +kernel
theorem dX4_close_100 : decode cX4_close 100 = .ok (.invokevirtual 77, 3) := by decide +kernel
theorem dX4_close_103 : decode cX4_close 103 = .ok (.iload_n 2, 1) := by decide +kernel
theorem dX4_close_104 : decode cX4_close 104 = .ok (.ireturn, 1) := by decide +kernel
theorem dX4_paidLast_0 : decode cX4_paidLast 0 = .ok (.aload_n 0, 1) := by decide +kernel
theorem dX4_paidLast_1 : decode cX4_paidLast 1 = .ok (.getfield 57, 3) := by decide +kernel
theorem dX4_paidLast_4 : decode cX4_paidLast 4 = .ok (.iload_n 1, 1) := by decide +kernel
theorem dX4_paidLast_5 : decode cX4_paidLast 5 = .ok (.if_icmp .eq 11, 3) := by decide +kernel
theorem dX4_paidLast_8 : decode cX4_paidLast 8 = .ok (.aload_n 0, 1) := by decide +kernel
theorem dX4_paidLast_9 : decode cX4_paidLast 9 = .ok (.getfield 57, 3) := by decide +kernel
theorem dX4_paidLast_12 : decode cX4_paidLast 12 = .ok (.iload_n 2, 1) := by decide +kernel
theorem dX4_paidLast_13 : decode cX4_paidLast 13 = .ok (.if_icmp .ne 10, 3) := by decide +kernel
theorem dX4_paidLast_16 : decode cX4_paidLast 16 = .ok (.aload_n 0, 1) := by decide +kernel
theorem dX4_paidLast_17 : decode cX4_paidLast 17 = .ok (.getfield 66, 3) := by decide +kernel
theorem dX4_paidLast_20 : decode cX4_paidLast 20 = .ok (.goto 4, 3) := by decide +kernel
theorem dX4_paidLast_23 : decode cX4_paidLast 23 = .ok (.iconst 0, 1) := by decide +kernel
theorem dX4_paidLast_24 : decode cX4_paidLast 24 = .ok (.ireturn, 1) := by decide +kernel
set_option maxRecDepth 100000 in
theorem ggX4_callDay_X3_addDay : GoodIn wsX4_callDay wsX3_addDay := goodIn_r _ [6, 7, 8, 9, 10, 11, 65, 66, 67, 68, 69, 70, 71, 72] rfl (by decide +kernel)
set_option maxRecDepth 100000 in
theorem gX4_callDay_X3_addDay : GoodIn wsX4_callDay (wsV RX4 81 RX3 yX3_addDay wsX3_addDay) := goodIn_app (goodIn_r ([.methodLink RX4 81 yX3_addDay, .instanceMethod yX3_addDay, .selects RX3 yX3_addDay yX3_addDay, .initialized RX3] : List Cond) [2, 3, 4, 5] rfl (by decide +kernel)) ggX4_callDay_X3_addDay
set_option maxRecDepth 100000 in
theorem ggX4_callDay_X10_ofBidder : GoodIn wsX4_callDay wsX10_ofBidder := goodIn_r _ [16, 17, 18, 10, 19, 60, 61, 62, 63, 64] rfl (by decide +kernel)
set_option maxRecDepth 100000 in
theorem gX4_callDay_X10_ofBidder : GoodIn wsX4_callDay (wsV RX4 88 RX10 yX10_ofBidder wsX10_ofBidder) := goodIn_app (goodIn_r ([.methodLink RX4 88 yX10_ofBidder, .instanceMethod yX10_ofBidder, .selects RX10 yX10_ofBidder yX10_ofBidder, .initialized RX10] : List Cond) [12, 13, 14, 15] rfl (by decide +kernel)) ggX4_callDay_X10_ofBidder
set_option maxRecDepth 100000 in
theorem ggX4_callDay_X3_addToPurse : GoodIn wsX4_callDay wsX3_addToPurse := goodIn_r _ [23, 24, 18, 10, 19, 9, 11, 65, 66, 67, 68, 69, 70, 71, 72] rfl (by decide +kernel)
set_option maxRecDepth 100000 in
theorem gX4_callDay_X3_addToPurse : GoodIn wsX4_callDay (wsV RX4 71 RX3 yX3_addToPurse wsX3_addToPurse) := goodIn_app (goodIn_r ([.methodLink RX4 71 yX3_addToPurse, .instanceMethod yX3_addToPurse, .selects RX3 yX3_addToPurse yX3_addToPurse, .initialized RX3] : List Cond) [20, 21, 22, 5] rfl (by decide +kernel)) ggX4_callDay_X3_addToPurse
set_option maxRecDepth 100000 in
theorem ggX4_callDay_X3_daysCalled : GoodIn wsX4_callDay wsX3_daysCalled := goodIn_r _ [28, 8, 29, 30, 31, 5, 32, 7, 18, 10, 19, 65, 66, 67, 68, 69, 70, 71, 72] rfl (by decide +kernel)
set_option maxRecDepth 100000 in
theorem gX4_callDay_X3_daysCalled : GoodIn wsX4_callDay (wsV RX4 92 RX3 yX3_daysCalled wsX3_daysCalled) := goodIn_app (goodIn_r ([.methodLink RX4 92 yX3_daysCalled, .instanceMethod yX3_daysCalled, .selects RX3 yX3_daysCalled yX3_daysCalled, .initialized RX3] : List Cond) [25, 26, 27, 5] rfl (by decide +kernel)) ggX4_callDay_X3_daysCalled
set_option maxRecDepth 100000 in
theorem ggX4_callDay_X10_ofDebt : GoodIn wsX4_callDay wsX10_ofDebt := goodIn_r _ [36, 37, 18, 10, 19, 60, 61, 62, 63, 64] rfl (by decide +kernel)
set_option maxRecDepth 100000 in
theorem gX4_callDay_X10_ofDebt : GoodIn wsX4_callDay (wsV RX4 98 RX10 yX10_ofDebt wsX10_ofDebt) := goodIn_app (goodIn_r ([.methodLink RX4 98 yX10_ofDebt, .instanceMethod yX10_ofDebt, .selects RX10 yX10_ofDebt yX10_ofDebt, .initialized RX10] : List Cond) [33, 34, 35, 15] rfl (by decide +kernel)) ggX4_callDay_X10_ofDebt
set_option maxRecDepth 100000 in
theorem ggX4_callDay_X3_howIs : GoodIn wsX4_callDay wsX3_howIs := goodIn_r _ [41, 42, 18, 10, 19, 65, 66, 67, 68, 69, 70, 71, 72] rfl (by decide +kernel)
set_option maxRecDepth 100000 in
theorem gX4_callDay_X3_howIs : GoodIn wsX4_callDay (wsV RX4 101 RX3 yX3_howIs wsX3_howIs) := goodIn_app (goodIn_r ([.methodLink RX4 101 yX3_howIs, .instanceMethod yX3_howIs, .selects RX3 yX3_howIs yX3_howIs, .initialized RX3] : List Cond) [38, 39, 40, 5] rfl (by decide +kernel)) ggX4_callDay_X3_howIs
set_option maxRecDepth 100000 in
theorem ggX4_callDay_X4_fallDue : GoodIn wsX4_callDay wsX4_fallDue := goodIn_r _ [47, 1, 33, 34, 35, 15, 36, 37, 18, 10, 19, 48, 49, 50, 5, 51, 24, 52, 53, 54, 55, 42, 9, 11, 20, 21, 22, 23, 56, 57, 58, 59, 60, 61, 62, 63, 64, 65, 66, 67, 68, 69, 70, 71, 72] rfl (by decide +kernel)
set_option maxRecDepth 100000 in
theorem gX4_callDay_X4_fallDue : GoodIn wsX4_callDay (wsV RX4 104 RX4 yX4_fallDue wsX4_fallDue) := goodIn_app (goodIn_r ([.methodLink RX4 104 yX4_fallDue, .instanceMethod yX4_fallDue, .selects RX4 yX4_fallDue yX4_fallDue, .initialized RX4] : List Cond) [43, 44, 45, 46] rfl (by decide +kernel)) ggX4_callDay_X4_fallDue
theorem dX4_callDay_0 : decode cX4_callDay 0 = .ok (.aload_n 1, 1) := by decide +kernel
theorem dX4_callDay_1 : decode cX4_callDay 1 = .ok (.iload_n 2, 1) := by decide +kernel
theorem dX4_callDay_2 : decode cX4_callDay 2 = .ok (.invokevirtual 81, 3) := by decide +kernel
theorem dX4_callDay_5 : decode cX4_callDay 5 = .ok (.iconst 0, 1) := by decide +kernel
theorem dX4_callDay_6 : decode cX4_callDay 6 = .ok (.istore_n 3, 1) := by decide +kernel
theorem dX4_callDay_7 : decode cX4_callDay 7 = .ok (.iload_n 3, 1) := by decide +kernel
theorem dX4_callDay_8 : decode cX4_callDay 8 = .ok (.aload_n 0, 1) := by decide +kernel
theorem dX4_callDay_9 : decode cX4_callDay 9 = .ok (.getfield 18, 3) := by decide +kernel
theorem dX4_callDay_12 : decode cX4_callDay 12 = .ok (.getfield 85, 3) := by decide +kernel
theorem dX4_callDay_15 : decode cX4_callDay 15 = .ok (.if_icmp .ge 23, 3) := by decide +kernel
theorem dX4_callDay_18 : decode cX4_callDay 18 = .ok (.aload_n 1, 1) := by decide +kernel
theorem dX4_callDay_19 : decode cX4_callDay 19 = .ok (.iload_n 3, 1) := by decide +kernel
theorem dX4_callDay_20 : decode cX4_callDay 20 = .ok (.aload_n 0, 1) := by decide +kernel
theorem dX4_callDay_21 : decode cX4_callDay 21 = .ok (.getfield 18, 3) := by decide +kernel
theorem dX4_callDay_24 : decode cX4_callDay 24 = .ok (.iload_n 3, 1) := by decide +kernel
theorem dX4_callDay_25 : decode cX4_callDay 25 = .ok (.iconst 1, 1) := by decide +kernel
theorem dX4_callDay_26 : decode cX4_callDay 26 = .ok (.invokevirtual 88, 3) := by decide +kernel
theorem dX4_callDay_29 : decode cX4_callDay 29 = .ok (.invokevirtual 71, 3) := by decide +kernel
theorem dX4_callDay_32 : decode cX4_callDay 32 = .ok (.iinc 3 1, 3) := by decide +kernel
theorem dX4_callDay_35 : decode cX4_callDay 35 = .ok (.goto (-28), 3) := by decide +kernel
theorem dX4_callDay_38 : decode cX4_callDay 38 = .ok (.aload_n 1, 1) := by decide +kernel
theorem dX4_callDay_39 : decode cX4_callDay 39 = .ok (.iload_n 2, 1) := by decide +kernel
theorem dX4_callDay_40 : decode cX4_callDay 40 = .ok (.invokevirtual 92, 3) := by decide +kernel
theorem dX4_callDay_43 : decode cX4_callDay 43 = .ok (.istore_n 3, 1) := by decide +kernel
theorem dX4_callDay_44 : decode cX4_callDay 44 = .ok (.iconst 0, 1) := by decide +kernel
theorem dX4_callDay_45 : decode cX4_callDay 45 = .ok (.istore 4, 2) := by decide +kernel
theorem dX4_callDay_47 : decode cX4_callDay 47 = .ok (.iload 4, 2) := by decide +kernel
theorem dX4_callDay_49 : decode cX4_callDay 49 = .ok (.aload_n 0, 1) := by decide +kernel
theorem dX4_callDay_50 : decode cX4_callDay 50 = .ok (.getfield 18, 3) := by decide +kernel
theorem dX4_callDay_53 : decode cX4_callDay 53 = .ok (.getfield 95, 3) := by decide +kernel
theorem dX4_callDay_56 : decode cX4_callDay 56 = .ok (.if_icmp .ge 65, 3) := by decide +kernel
theorem dX4_callDay_59 : decode cX4_callDay 59 = .ok (.aload_n 0, 1) := by decide +kernel
theorem dX4_callDay_60 : decode cX4_callDay 60 = .ok (.getfield 18, 3) := by decide +kernel
theorem dX4_callDay_63 : decode cX4_callDay 63 = .ok (.iload 4, 2) := by decide +kernel
theorem dX4_callDay_65 : decode cX4_callDay 65 = .ok (.iconst 4, 1) := by decide +kernel
theorem dX4_callDay_66 : decode cX4_callDay 66 = .ok (.invokevirtual 98, 3) := by decide +kernel
theorem dX4_callDay_69 : decode cX4_callDay 69 = .ok (.iload_n 2, 1) := by decide +kernel
theorem dX4_callDay_70 : decode cX4_callDay 70 = .ok (.if_icmp .ne 21, 3) := by decide +kernel
theorem dX4_callDay_73 : decode cX4_callDay 73 = .ok (.aload_n 0, 1) := by decide +kernel
theorem dX4_callDay_74 : decode cX4_callDay 74 = .ok (.getfield 18, 3) := by decide +kernel
theorem dX4_callDay_77 : decode cX4_callDay 77 = .ok (.iload 4, 2) := by decide +kernel
theorem dX4_callDay_79 : decode cX4_callDay 79 = .ok (.iconst 3, 1) := by decide +kernel
theorem dX4_callDay_80 : decode cX4_callDay 80 = .ok (.invokevirtual 98, 3) := by decide +kernel
theorem dX4_callDay_83 : decode cX4_callDay 83 = .ok (.iload_n 3, 1) := by decide +kernel
theorem dX4_callDay_84 : decode cX4_callDay 84 = .ok (.if_icmp .ne 7, 3) := by decide +kernel
theorem dX4_callDay_87 : decode cX4_callDay 87 = .ok (.iconst 1, 1) := by decide +kernel
theorem dX4_callDay_88 : decode cX4_callDay 88 = .ok (.goto 4, 3) := by decide +kernel
theorem dX4_callDay_91 : decode cX4_callDay 91 = .ok (.iconst 0, 1) := by decide +kernel
theorem dX4_callDay_92 : decode cX4_callDay 92 = .ok (.istore 5, 2) := by decide +kernel
theorem dX4_callDay_94 : decode cX4_callDay 94 = .ok (.iload 5, 2) := by decide +kernel
theorem dX4_callDay_96 : decode cX4_callDay 96 = .ok (.ifCond .eq 19, 3) := by decide +kernel
theorem dX4_callDay_99 : decode cX4_callDay 99 = .ok (.aload_n 1, 1) := by decide +kernel
theorem dX4_callDay_100 : decode cX4_callDay 100 = .ok (.iload 4, 2) := by decide +kernel
theorem dX4_callDay_102 : decode cX4_callDay 102 = .ok (.invokevirtual 101, 3) := by decide +kernel
theorem dX4_callDay_105 : decode cX4_callDay 105 = .ok (.ifCond .ne 10, 3) := by decide +kernel
theorem dX4_callDay_108 : decode cX4_callDay 108 = .ok (.aload_n 0, 1) := by decide +kernel
theorem dX4_callDay_109 : decode cX4_callDay 109 = .ok (.aload_n 1, 1) := by decide +kernel
theorem dX4_callDay_110 : decode cX4_callDay 110 = .ok (.iload 4, 2) := by decide +kernel
theorem dX4_callDay_112 : decode cX4_callDay 112 = .ok (.invokevirtual 104, 3) := by decide +kernel
theorem dX4_callDay_115 : decode cX4_callDay 115 = .ok (.iinc 4 1, 3) := by decide +kernel
theorem dX4_callDay_118 : decode cX4_callDay 118 = .ok (.goto (-71), 3) := by decide +kernel
theorem dX4_callDay_121 : decode cX4_callDay 121 = .ok (.return_, 1) := by decide +kernel
set_option maxRecDepth 100000 in
theorem ggX4_fallDue_X10_ofDebt : GoodIn wsX4_fallDue wsX10_ofDebt := goodIn_r _ [6, 7, 8, 9, 10, 32, 33, 34, 35, 36] rfl (by decide +kernel)
set_option maxRecDepth 100000 in
theorem gX4_fallDue_X10_ofDebt : GoodIn wsX4_fallDue (wsV RX4 98 RX10 yX10_ofDebt wsX10_ofDebt) := goodIn_app (goodIn_r ([.methodLink RX4 98 yX10_ofDebt, .instanceMethod yX10_ofDebt, .selects RX10 yX10_ofDebt yX10_ofDebt, .initialized RX10] : List Cond) [2, 3, 4, 5] rfl (by decide +kernel)) ggX4_fallDue_X10_ofDebt
set_option maxRecDepth 100000 in
theorem ggX4_fallDue_X3_purse : GoodIn wsX4_fallDue wsX3_purse := goodIn_r _ [15, 16, 8, 9, 10, 37, 38, 39, 40, 41, 42, 43, 44] rfl (by decide +kernel)
set_option maxRecDepth 100000 in
theorem gX4_fallDue_X3_purse : GoodIn wsX4_fallDue (wsV RX4 107 RX3 yX3_purse wsX3_purse) := goodIn_app (goodIn_r ([.methodLink RX4 107 yX3_purse, .instanceMethod yX3_purse, .selects RX3 yX3_purse yX3_purse, .initialized RX3] : List Cond) [11, 12, 13, 14] rfl (by decide +kernel)) ggX4_fallDue_X3_purse
set_option maxRecDepth 100000 in
theorem ggX4_fallDue_X3_setHowIs : GoodIn wsX4_fallDue wsX3_setHowIs := goodIn_r _ [20, 21, 22, 9, 23, 37, 38, 39, 40, 41, 42, 43, 44] rfl (by decide +kernel)
set_option maxRecDepth 100000 in
theorem gX4_fallDue_X3_setHowIs : GoodIn wsX4_fallDue (wsV RX4 110 RX3 yX3_setHowIs wsX3_setHowIs) := goodIn_app (goodIn_r ([.methodLink RX4 110 yX3_setHowIs, .instanceMethod yX3_setHowIs, .selects RX3 yX3_setHowIs yX3_setHowIs, .initialized RX3] : List Cond) [17, 18, 19, 14] rfl (by decide +kernel)) ggX4_fallDue_X3_setHowIs
set_option maxRecDepth 100000 in
theorem ggX4_fallDue_X3_addToPurse : GoodIn wsX4_fallDue wsX3_addToPurse := goodIn_r _ [27, 16, 8, 9, 10, 22, 23, 37, 38, 39, 40, 41, 42, 43, 44] rfl (by decide +kernel)
set_option maxRecDepth 100000 in
theorem gX4_fallDue_X3_addToPurse : GoodIn wsX4_fallDue (wsV RX4 71 RX3 yX3_addToPurse wsX3_addToPurse) := goodIn_app (goodIn_r ([.methodLink RX4 71 yX3_addToPurse, .instanceMethod yX3_addToPurse, .selects RX3 yX3_addToPurse yX3_addToPurse, .initialized RX3] : List Cond) [24, 25, 26, 14] rfl (by decide +kernel)) ggX4_fallDue_X3_addToPurse
theorem dX4_fallDue_0 : decode cX4_fallDue 0 = .ok (.aload_n 0, 1) := by decide +kernel
theorem dX4_fallDue_1 : decode cX4_fallDue 1 = .ok (.getfield 18, 3) := by decide +kernel
theorem dX4_fallDue_4 : decode cX4_fallDue 4 = .ok (.iload_n 2, 1) := by decide +kernel
theorem dX4_fallDue_5 : decode cX4_fallDue 5 = .ok (.iconst 0, 1) := by decide +kernel
theorem dX4_fallDue_6 : decode cX4_fallDue 6 = .ok (.invokevirtual 98, 3) := by decide +kernel
theorem dX4_fallDue_9 : decode cX4_fallDue 9 = .ok (.istore_n 3, 1) := by decide +kernel
theorem dX4_fallDue_10 : decode cX4_fallDue 10 = .ok (.aload_n 0, 1) := by decide +kernel
theorem dX4_fallDue_11 : decode cX4_fallDue 11 = .ok (.getfield 18, 3) := by decide +kernel
theorem dX4_fallDue_14 : decode cX4_fallDue 14 = .ok (.iload_n 2, 1) := by decide +kernel
theorem dX4_fallDue_15 : decode cX4_fallDue 15 = .ok (.iconst 2, 1) := by decide +kernel
theorem dX4_fallDue_16 : decode cX4_fallDue 16 = .ok (.invokevirtual 98, 3) := by decide +kernel
theorem dX4_fallDue_19 : decode cX4_fallDue 19 = .ok (.istore 4, 2) := by decide +kernel
theorem dX4_fallDue_21 : decode cX4_fallDue 21 = .ok (.aload_n 1, 1) := by decide +kernel
theorem dX4_fallDue_22 : decode cX4_fallDue 22 = .ok (.iload_n 3, 1) := by decide +kernel
theorem dX4_fallDue_23 : decode cX4_fallDue 23 = .ok (.invokevirtual 107, 3) := by decide +kernel
theorem dX4_fallDue_26 : decode cX4_fallDue 26 = .ok (.iload 4, 2) := by decide +kernel
theorem dX4_fallDue_28 : decode cX4_fallDue 28 = .ok (.if_icmp .ge 10, 3) := by decide +kernel
theorem dX4_fallDue_31 : decode cX4_fallDue 31 = .ok (.aload_n 1, 1) := by decide +kernel
theorem dX4_fallDue_32 : decode cX4_fallDue 32 = .ok (.iload_n 2, 1) := by decide +kernel
theorem dX4_fallDue_33 : decode cX4_fallDue 33 = .ok (.iconst 2, 1) := by decide +kernel
theorem dX4_fallDue_34 : decode cX4_fallDue 34 = .ok (.invokevirtual 110, 3) := by decide +kernel
theorem dX4_fallDue_37 : decode cX4_fallDue 37 = .ok (.return_, 1) := by decide +kernel
theorem dX4_fallDue_38 : decode cX4_fallDue 38 = .ok (.aload_n 1, 1) := by decide +kernel
theorem dX4_fallDue_39 : decode cX4_fallDue 39 = .ok (.iload_n 3, 1) := by decide +kernel
theorem dX4_fallDue_40 : decode cX4_fallDue 40 = .ok (.iload 4, 2) := by decide +kernel
theorem dX4_fallDue_42 : decode cX4_fallDue 42 = .ok (.ineg, 1) := by decide +kernel
theorem dX4_fallDue_43 : decode cX4_fallDue 43 = .ok (.invokevirtual 71, 3) := by decide +kernel
theorem dX4_fallDue_46 : decode cX4_fallDue 46 = .ok (.aload_n 1, 1) := by decide +kernel
theorem dX4_fallDue_47 : decode cX4_fallDue 47 = .ok (.aload_n 0, 1) := by decide +kernel
theorem dX4_fallDue_48 : decode cX4_fallDue 48 = .ok (.getfield 18, 3) := by decide +kernel
theorem dX4_fallDue_51 : decode cX4_fallDue 51 = .ok (.iload_n 2, 1) := by decide +kernel
theorem dX4_fallDue_52 : decode cX4_fallDue 52 = .ok (.iconst 1, 1) := by decide +kernel
theorem dX4_fallDue_53 : decode cX4_fallDue 53 = .ok (.invokevirtual 98, 3) := by decide +kernel
theorem dX4_fallDue_56 : decode cX4_fallDue 56 = .ok (.iload 4, 2) := by decide +kernel
theorem dX4_fallDue_58 : decode cX4_fallDue 58 = .ok (.invokevirtual 71, 3) := by decide +kernel
theorem dX4_fallDue_61 : decode cX4_fallDue 61 = .ok (.aload_n 1, 1) := by decide +kernel
theorem dX4_fallDue_62 : decode cX4_fallDue 62 = .ok (.iload_n 2, 1) := by decide +kernel
theorem dX4_fallDue_63 : decode cX4_fallDue 63 = .ok (.iconst 1, 1) := by decide +kernel
theorem dX4_fallDue_64 : decode cX4_fallDue 64 = .ok (.invokevirtual 110, 3) := by decide +kernel
theorem dX4_fallDue_67 : decode cX4_fallDue 67 = .ok (.return_, 1) := by decide +kernel
set_option maxRecDepth 100000 in
theorem ggX5_init_X3_init : GoodIn wsX5_init wsX3_init := goodIn_r _ [11, 12, 2, 3, 13, 14, 15, 16, 17, 18, 19, 20, 21, 22, 23, 24] rfl (by decide +kernel)
set_option maxRecDepth 100000 in
theorem gX5_init_X3_init_n11 : GoodIn wsX5_init (wsX3_init) := ggX5_init_X3_init
theorem dX5_init_0 : decode cX5_init 0 = .ok (.aload_n 0, 1) := by decide +kernel
theorem dX5_init_1 : decode cX5_init 1 = .ok (.invokespecial 3, 3) := by decide +kernel
theorem dX5_init_4 : decode cX5_init 4 = .ok (.aload_n 0, 1) := by decide +kernel
theorem dX5_init_5 : decode cX5_init 5 = .ok (.new 9, 3) := by decide +kernel
theorem dX5_init_8 : decode cX5_init 8 = .ok (.dup, 1) := by decide +kernel
theorem dX5_init_9 : decode cX5_init 9 = .ok (.invokespecial 11, 3) := by decide +kernel
theorem dX5_init_12 : decode cX5_init 12 = .ok (.putfield 12, 3) := by decide +kernel
theorem dX5_init_15 : decode cX5_init 15 = .ok (.aload_n 0, 1) := by decide +kernel
theorem dX5_init_16 : decode cX5_init 16 = .ok (.aload_n 1, 1) := by decide +kernel
theorem dX5_init_17 : decode cX5_init 17 = .ok (.putfield 18, 3) := by decide +kernel
theorem dX5_init_20 : decode cX5_init 20 = .ok (.aload_n 0, 1) := by decide +kernel
theorem dX5_init_21 : decode cX5_init 21 = .ok (.aload_n 2, 1) := by decide +kernel
theorem dX5_init_22 : decode cX5_init 22 = .ok (.putfield 22, 3) := by decide +kernel
theorem dX5_init_25 : decode cX5_init 25 = .ok (.return_, 1) := by decide +kernel
set_option maxRecDepth 100000 in
theorem ggX5_after_X3_copyFrom : GoodIn wsX5_after wsX3_copyFrom := goodIn_r _ [7, 8, 9, 10, 11, 12, 13, 14, 15, 16, 17, 18, 129, 130, 131, 132, 133, 134, 135, 136] rfl (by decide +kernel)
set_option maxRecDepth 100000 in
theorem gX5_after_X3_copyFrom : GoodIn wsX5_after (wsV RX5 26 RX3 yX3_copyFrom wsX3_copyFrom) := goodIn_app (goodIn_r ([.methodLink RX5 26 yX3_copyFrom, .instanceMethod yX3_copyFrom, .selects RX3 yX3_copyFrom yX3_copyFrom, .initialized RX3] : List Cond) [3, 4, 5, 6] rfl (by decide +kernel)) ggX5_after_X3_copyFrom
set_option maxRecDepth 100000 in
theorem ggX5_after_X4_open : GoodIn wsX5_after wsX4_open := goodIn_r _ [23, 24, 25, 26, 27, 28, 29, 30, 31, 32, 33, 34, 35, 36, 37, 38, 39, 40, 41, 42, 17, 43, 44, 45, 46, 6, 47, 9, 48, 49, 50, 51, 11, 8, 52, 53, 54, 55, 56, 57, 58, 137, 138, 139, 140, 141, 142, 143, 144, 145, 146, 147, 129, 130, 131, 132, 133, 134, 135, 136] rfl (by decide +kernel)
set_option maxRecDepth 100000 in
theorem gX5_after_X4_open : GoodIn wsX5_after (wsV RX5 30 RX4 yX4_open wsX4_open) := goodIn_app (goodIn_r ([.methodLink RX5 30 yX4_open, .instanceMethod yX4_open, .selects RX4 yX4_open yX4_open, .initialized RX4] : List Cond) [19, 20, 21, 22] rfl (by decide +kernel)) ggX5_after_X4_open
set_option maxRecDepth 100000 in
theorem ggX5_after_X4_close : GoodIn wsX5_after wsX4_close := goodIn_r _ [62, 24, 63, 64, 65, 66, 67, 29, 68, 31, 69, 70, 71, 72, 73, 74, 75, 76, 77, 78, 79, 42, 17, 43, 80, 81, 82, 6, 83, 9, 57, 58, 84, 85, 86, 87, 56, 88, 89, 90, 22, 91, 25, 92, 93, 94, 95, 8, 11, 96, 97, 98, 39, 99, 41, 100, 101, 102, 103, 104, 105, 106, 107, 108, 109, 110, 111, 112, 113, 114, 115, 116, 10, 117, 118, 119, 120, 121, 45, 46, 47, 122, 123, 124, 125, 137, 138, 139, 140, 129, 130, 131, 132, 133, 134, 135, 136, 141, 142, 143, 144, 145, 146, 147] rfl (by decide +kernel)
set_option maxRecDepth 100000 in
theorem gX5_after_X4_close : GoodIn wsX5_after (wsV RX5 35 RX4 yX4_close wsX4_close) := goodIn_app (goodIn_r ([.methodLink RX5 35 yX4_close, .instanceMethod yX4_close, .selects RX4 yX4_close yX4_close, .initialized RX4] : List Cond) [59, 60, 61, 22] rfl (by decide +kernel)) ggX5_after_X4_close
theorem dX5_after_0 : decode cX5_after 0 = .ok (.aload_n 0, 1) := by decide +kernel
