theorem dX8_nextToken_59 : decode cX8_nextToken 59 = .ok (.getfield 100, 3) := by decide +kernel
theorem dX8_nextToken_62 : decode cX8_nextToken 62 = .ok (.if_icmp .lt 11, 3) := by decide +kernel
theorem dX8_nextToken_65 : decode cX8_nextToken 65 = .ok (.aload_n 0, 1) := by decide +kernel
theorem dX8_nextToken_66 : decode cX8_nextToken 66 = .ok (.sipush 257, 3) := by decide +kernel
theorem dX8_nextToken_69 : decode cX8_nextToken 69 = .ok (.putfield 36, 3) := by decide +kernel
theorem dX8_nextToken_72 : decode cX8_nextToken 72 = .ok (.return_, 1) := by decide +kernel
theorem dX8_nextToken_73 : decode cX8_nextToken 73 = .ok (.aload_n 0, 1) := by decide +kernel
theorem dX8_nextToken_74 : decode cX8_nextToken 74 = .ok (.getfield 18, 3) := by decide +kernel
theorem dX8_nextToken_77 : decode cX8_nextToken 77 = .ok (.aload_n 0, 1) := by decide +kernel
theorem dX8_nextToken_78 : decode cX8_nextToken 78 = .ok (.getfield 22, 3) := by decide +kernel
theorem dX8_nextToken_81 : decode cX8_nextToken 81 = .ok (.invokevirtual 105, 3) := by decide +kernel
theorem dX8_nextToken_84 : decode cX8_nextToken 84 = .ok (.istore_n 1, 1) := by decide +kernel
theorem dX8_nextToken_85 : decode cX8_nextToken 85 = .ok (.iload_n 1, 1) := by decide +kernel
theorem dX8_nextToken_86 : decode cX8_nextToken 86 = .ok (.invokestatic 109, 3) := by decide +kernel
theorem dX8_nextToken_89 : decode cX8_nextToken 89 = .ok (.ifCond .eq 8, 3) := by decide +kernel
theorem dX8_nextToken_92 : decode cX8_nextToken 92 = .ok (.aload_n 0, 1) := by decide +kernel
theorem dX8_nextToken_93 : decode cX8_nextToken 93 = .ok (.invokevirtual 113, 3) := by decide +kernel
theorem dX8_nextToken_96 : decode cX8_nextToken 96 = .ok (.return_, 1) := by decide +kernel
theorem dX8_nextToken_97 : decode cX8_nextToken 97 = .ok (.aload_n 0, 1) := by decide +kernel
theorem dX8_nextToken_98 : decode cX8_nextToken 98 = .ok (.iload_n 1, 1) := by decide +kernel
theorem dX8_nextToken_99 : decode cX8_nextToken 99 = .ok (.bipush 98, 2) := by decide +kernel
theorem dX8_nextToken_101 : decode cX8_nextToken 101 = .ok (.if_icmp .eq 21, 3) := by decide +kernel
theorem dX8_nextToken_104 : decode cX8_nextToken 104 = .ok (.iload_n 1, 1) := by decide +kernel
theorem dX8_nextToken_105 : decode cX8_nextToken 105 = .ok (.bipush 114, 2) := by decide +kernel
theorem dX8_nextToken_107 : decode cX8_nextToken 107 = .ok (.if_icmp .eq 15, 3) := by decide +kernel
theorem dX8_nextToken_110 : decode cX8_nextToken 110 = .ok (.iload_n 1, 1) := by decide +kernel
theorem dX8_nextToken_111 : decode cX8_nextToken 111 = .ok (.bipush 111, 2) := by decide +kernel
theorem dX8_nextToken_113 : decode cX8_nextToken 113 = .ok (.if_icmp .eq 9, 3) := by decide +kernel
theorem dX8_nextToken_116 : decode cX8_nextToken 116 = .ok (.iload_n 1, 1) := by decide +kernel
theorem dX8_nextToken_117 : decode cX8_nextToken 117 = .ok (.bipush 59, 2) := by decide +kernel
theorem dX8_nextToken_119 : decode cX8_nextToken 119 = .ok (.if_icmp .ne 7, 3) := by decide +kernel
theorem dX8_nextToken_122 : decode cX8_nextToken 122 = .ok (.iload_n 1, 1) := by decide +kernel
theorem dX8_nextToken_123 : decode cX8_nextToken 123 = .ok (.goto 6, 3) := by decide +kernel
theorem dX8_nextToken_126 : decode cX8_nextToken 126 = .ok (.sipush 258, 3) := by decide +kernel
theorem dX8_nextToken_129 : decode cX8_nextToken 129 = .ok (.putfield 36, 3) := by decide +kernel
theorem dX8_nextToken_132 : decode cX8_nextToken 132 = .ok (.aload_n 0, 1) := by decide +kernel
theorem dX8_nextToken_133 : decode cX8_nextToken 133 = .ok (.dup, 1) := by decide +kernel
theorem dX8_nextToken_134 : decode cX8_nextToken 134 = .ok (.getfield 22, 3) := by decide +kernel
theorem dX8_nextToken_137 : decode cX8_nextToken 137 = .ok (.iconst 1, 1) := by decide +kernel
theorem dX8_nextToken_138 : decode cX8_nextToken 138 = .ok (.iadd, 1) := by decide +kernel
theorem dX8_nextToken_139 : decode cX8_nextToken 139 = .ok (.putfield 22, 3) := by decide +kernel
theorem dX8_nextToken_142 : decode cX8_nextToken 142 = .ok (.return_, 1) := by decide +kernel
set_option maxRecDepth 100000 in
theorem ggX8_takeNumber_X9_letter : GoodIn wsX8_takeNumber wsX9_letter := goodIn_r _ [14, 15, 27, 28] rfl (by decide +kernel)
set_option maxRecDepth 100000 in
theorem gX8_takeNumber_X9_letter : GoodIn wsX8_takeNumber (wsV RX8 105 RX9 yX9_letter wsX9_letter) := goodIn_app (goodIn_r ([.methodLink RX8 105 yX9_letter, .instanceMethod yX9_letter, .selects RX9 yX9_letter yX9_letter, .initialized RX9] : List Cond) [10, 11, 12, 13] rfl (by decide +kernel)) ggX8_takeNumber_X9_letter
set_option maxRecDepth 100000 in
theorem ggX8_takeNumber_X8_isDigit : GoodIn wsX8_takeNumber wsX8_isDigit := goodIn_r _ [19] rfl (by decide +kernel)
set_option maxRecDepth 100000 in
theorem gX8_takeNumber_X8_isDigit : GoodIn wsX8_takeNumber (va_wsS RX8 109 yX8_isDigit wsX8_isDigit) := goodIn_app (goodIn_r ([.methodLink RX8 109 yX8_isDigit, .static yX8_isDigit, .initialized RX8] : List Cond) [16, 17, 18] rfl (by decide +kernel)) ggX8_takeNumber_X8_isDigit
theorem dX8_takeNumber_0 : decode cX8_takeNumber 0 = .ok (.aload_n 0, 1) := by decide +kernel
theorem dX8_takeNumber_1 : decode cX8_takeNumber 1 = .ok (.iconst 0, 1) := by decide +kernel
theorem dX8_takeNumber_2 : decode cX8_takeNumber 2 = .ok (.putfield 67, 3) := by decide +kernel
theorem dX8_takeNumber_5 : decode cX8_takeNumber 5 = .ok (.aload_n 0, 1) := by decide +kernel
theorem dX8_takeNumber_6 : decode cX8_takeNumber 6 = .ok (.getfield 22, 3) := by decide +kernel
theorem dX8_takeNumber_9 : decode cX8_takeNumber 9 = .ok (.aload_n 0, 1) := by decide +kernel
theorem dX8_takeNumber_10 : decode cX8_takeNumber 10 = .ok (.getfield 18, 3) := by decide +kernel
theorem dX8_takeNumber_13 : decode cX8_takeNumber 13 = .ok (.getfield 100, 3) := by decide +kernel
theorem dX8_takeNumber_16 : decode cX8_takeNumber 16 = .ok (.if_icmp .ge 64, 3) := by decide +kernel
theorem dX8_takeNumber_19 : decode cX8_takeNumber 19 = .ok (.aload_n 0, 1) := by decide +kernel
theorem dX8_takeNumber_20 : decode cX8_takeNumber 20 = .ok (.getfield 18, 3) := by decide +kernel
theorem dX8_takeNumber_23 : decode cX8_takeNumber 23 = .ok (.aload_n 0, 1) := by decide +kernel
theorem dX8_takeNumber_24 : decode cX8_takeNumber 24 = .ok (.getfield 22, 3) := by decide +kernel
theorem dX8_takeNumber_27 : decode cX8_takeNumber 27 = .ok (.invokevirtual 105, 3) := by decide +kernel
theorem dX8_takeNumber_30 : decode cX8_takeNumber 30 = .ok (.invokestatic 109, 3) := by decide +kernel
theorem dX8_takeNumber_33 : decode cX8_takeNumber 33 = .ok (.ifCond .eq 47, 3) := by decide +kernel
theorem dX8_takeNumber_36 : decode cX8_takeNumber 36 = .ok (.aload_n 0, 1) := by decide +kernel
theorem dX8_takeNumber_37 : decode cX8_takeNumber 37 = .ok (.bipush 100, 2) := by decide +kernel
theorem dX8_takeNumber_39 : decode cX8_takeNumber 39 = .ok (.aload_n 0, 1) := by decide +kernel
theorem dX8_takeNumber_40 : decode cX8_takeNumber 40 = .ok (.getfield 67, 3) := by decide +kernel
theorem dX8_takeNumber_43 : decode cX8_takeNumber 43 = .ok (.bipush 10, 2) := by decide +kernel
theorem dX8_takeNumber_45 : decode cX8_takeNumber 45 = .ok (.imul, 1) := by decide +kernel
theorem dX8_takeNumber_46 : decode cX8_takeNumber 46 = .ok (.aload_n 0, 1) := by decide +kernel
theorem dX8_takeNumber_47 : decode cX8_takeNumber 47 = .ok (.getfield 18, 3) := by decide +kernel
theorem dX8_takeNumber_50 : decode cX8_takeNumber 50 = .ok (.aload_n 0, 1) := by decide +kernel
theorem dX8_takeNumber_51 : decode cX8_takeNumber 51 = .ok (.getfield 22, 3) := by decide +kernel
theorem dX8_takeNumber_54 : decode cX8_takeNumber 54 = .ok (.invokevirtual 105, 3) := by decide +kernel
theorem dX8_takeNumber_57 : decode cX8_takeNumber 57 = .ok (.iadd, 1) := by decide +kernel
theorem dX8_takeNumber_58 : decode cX8_takeNumber 58 = .ok (.bipush 48, 2) := by decide +kernel
theorem dX8_takeNumber_60 : decode cX8_takeNumber 60 = .ok (.isub, 1) := by decide +kernel
theorem dX8_takeNumber_61 : decode cX8_takeNumber 61 = .ok (.invokestatic 116, 3) := by decide +kernel
theorem dX8_takeNumber_64 : decode cX8_takeNumber 64 = .ok (.putfield 67, 3) := by decide +kernel
theorem dX8_takeNumber_67 : decode cX8_takeNumber 67 = .ok (.aload_n 0, 1) := by decide +kernel
theorem dX8_takeNumber_68 : decode cX8_takeNumber 68 = .ok (.dup, 1) := by decide +kernel
theorem dX8_takeNumber_69 : decode cX8_takeNumber 69 = .ok (.getfield 22, 3) := by decide +kernel
theorem dX8_takeNumber_72 : decode cX8_takeNumber 72 = .ok (.iconst 1, 1) := by decide +kernel
theorem dX8_takeNumber_73 : decode cX8_takeNumber 73 = .ok (.iadd, 1) := by decide +kernel
theorem dX8_takeNumber_74 : decode cX8_takeNumber 74 = .ok (.putfield 22, 3) := by decide +kernel
theorem dX8_takeNumber_77 : decode cX8_takeNumber 77 = .ok (.goto (-72), 3) := by decide +kernel
theorem dX8_takeNumber_80 : decode cX8_takeNumber 80 = .ok (.aload_n 0, 1) := by decide +kernel
theorem dX8_takeNumber_81 : decode cX8_takeNumber 81 = .ok (.getfield 18, 3) := by decide +kernel
theorem dX8_takeNumber_84 : decode cX8_takeNumber 84 = .ok (.aload_n 0, 1) := by decide +kernel
theorem dX8_takeNumber_85 : decode cX8_takeNumber 85 = .ok (.getfield 49, 3) := by decide +kernel
theorem dX8_takeNumber_88 : decode cX8_takeNumber 88 = .ok (.invokevirtual 105, 3) := by decide +kernel
theorem dX8_takeNumber_91 : decode cX8_takeNumber 91 = .ok (.bipush 48, 2) := by decide +kernel
theorem dX8_takeNumber_93 : decode cX8_takeNumber 93 = .ok (.if_icmp .ne 20, 3) := by decide +kernel
theorem dX8_takeNumber_96 : decode cX8_takeNumber 96 = .ok (.aload_n 0, 1) := by decide +kernel
theorem dX8_takeNumber_97 : decode cX8_takeNumber 97 = .ok (.getfield 22, 3) := by decide +kernel
theorem dX8_takeNumber_100 : decode cX8_takeNumber 100 = .ok (.aload_n 0, 1) := by decide +kernel
theorem dX8_takeNumber_101 : decode cX8_takeNumber 101 = .ok (.getfield 49, 3) := by decide +kernel
theorem dX8_takeNumber_104 : decode cX8_takeNumber 104 = .ok (.iconst 1, 1) := by decide +kernel
theorem dX8_takeNumber_105 : decode cX8_takeNumber 105 = .ok (.iadd, 1) := by decide +kernel
theorem dX8_takeNumber_106 : decode cX8_takeNumber 106 = .ok (.if_icmp .le 7, 3) := by decide +kernel
theorem dX8_takeNumber_109 : decode cX8_takeNumber 109 = .ok (.iconst 1, 1) := by decide +kernel
theorem dX8_takeNumber_110 : decode cX8_takeNumber 110 = .ok (.goto 4, 3) := by decide +kernel
theorem dX8_takeNumber_113 : decode cX8_takeNumber 113 = .ok (.iconst 0, 1) := by decide +kernel
theorem dX8_takeNumber_114 : decode cX8_takeNumber 114 = .ok (.istore_n 1, 1) := by decide +kernel
theorem dX8_takeNumber_115 : decode cX8_takeNumber 115 = .ok (.aload_n 0, 1) := by decide +kernel
theorem dX8_takeNumber_116 : decode cX8_takeNumber 116 = .ok (.iload_n 1, 1) := by decide +kernel
theorem dX8_takeNumber_117 : decode cX8_takeNumber 117 = .ok (.ifCond .ne 12, 3) := by decide +kernel
theorem dX8_takeNumber_120 : decode cX8_takeNumber 120 = .ok (.aload_n 0, 1) := by decide +kernel
theorem dX8_takeNumber_121 : decode cX8_takeNumber 121 = .ok (.getfield 67, 3) := by decide +kernel
theorem dX8_takeNumber_124 : decode cX8_takeNumber 124 = .ok (.bipush 99, 2) := by decide +kernel
theorem dX8_takeNumber_126 : decode cX8_takeNumber 126 = .ok (.if_icmp .le 9, 3) := by decide +kernel
theorem dX8_takeNumber_129 : decode cX8_takeNumber 129 = .ok (.sipush 258, 3) := by decide +kernel
theorem dX8_takeNumber_132 : decode cX8_takeNumber 132 = .ok (.goto 6, 3) := by decide +kernel
theorem dX8_takeNumber_135 : decode cX8_takeNumber 135 = .ok (.sipush 256, 3) := by decide +kernel
theorem dX8_takeNumber_138 : decode cX8_takeNumber 138 = .ok (.putfield 36, 3) := by decide +kernel
theorem dX8_takeNumber_141 : decode cX8_takeNumber 141 = .ok (.return_, 1) := by decide +kernel
theorem dX8_isDigit_0 : decode cX8_isDigit 0 = .ok (.iload_n 0, 1) := by decide +kernel
theorem dX8_isDigit_1 : decode cX8_isDigit 1 = .ok (.bipush 48, 2) := by decide +kernel
theorem dX8_isDigit_3 : decode cX8_isDigit 3 = .ok (.if_icmp .lt 13, 3) := by decide +kernel
theorem dX8_isDigit_6 : decode cX8_isDigit 6 = .ok (.iload_n 0, 1) := by decide +kernel
theorem dX8_isDigit_7 : decode cX8_isDigit 7 = .ok (.bipush 57, 2) := by decide +kernel
theorem dX8_isDigit_9 : decode cX8_isDigit 9 = .ok (.if_icmp .gt 7, 3) := by decide +kernel
theorem dX8_isDigit_12 : decode cX8_isDigit 12 = .ok (.iconst 1, 1) := by decide +kernel
theorem dX8_isDigit_13 : decode cX8_isDigit 13 = .ok (.goto 4, 3) := by decide +kernel
theorem dX8_isDigit_16 : decode cX8_isDigit 16 = .ok (.iconst 0, 1) := by decide +kernel
theorem dX8_isDigit_17 : decode cX8_isDigit 17 = .ok (.ireturn, 1) := by decide +kernel
theorem dX9_init_0 : decode cX9_init 0 = .ok (.aload_n 0, 1) := by decide +kernel
theorem dX9_init_1 : decode cX9_init 1 = .ok (.invokespecial 3, 3) := by decide +kernel
theorem dX9_init_4 : decode cX9_init 4 = .ok (.aload_n 0, 1) := by decide +kernel
theorem dX9_init_5 : decode cX9_init 5 = .ok (.sipush 200, 3) := by decide +kernel
theorem dX9_init_8 : decode cX9_init 8 = .ok (.newarray .int, 2) := by decide +kernel
theorem dX9_init_10 : decode cX9_init 10 = .ok (.putfield 9, 3) := by decide +kernel
theorem dX9_init_13 : decode cX9_init 13 = .ok (.return_, 1) := by decide +kernel
set_option maxRecDepth 100000 in
theorem ggX9_add_X11_put : GoodIn wsX9_add wsX11_put := goodIn_r _ [5] rfl (by decide +kernel)
set_option maxRecDepth 100000 in
theorem gX9_add_X11_put_n19 : GoodIn wsX9_add (wsX11_put) := ggX9_add_X11_put
theorem dX9_add_0 : decode cX9_add 0 = .ok (.aload_n 0, 1) := by decide +kernel
theorem dX9_add_1 : decode cX9_add 1 = .ok (.getfield 9, 3) := by decide +kernel
theorem dX9_add_4 : decode cX9_add 4 = .ok (.aload_n 0, 1) := by decide +kernel
theorem dX9_add_5 : decode cX9_add 5 = .ok (.getfield 15, 3) := by decide +kernel
theorem dX9_add_8 : decode cX9_add 8 = .ok (.iload_n 1, 1) := by decide +kernel
theorem dX9_add_9 : decode cX9_add 9 = .ok (.invokestatic 19, 3) := by decide +kernel
theorem dX9_add_12 : decode cX9_add 12 = .ok (.aload_n 0, 1) := by decide +kernel
theorem dX9_add_13 : decode cX9_add 13 = .ok (.dup, 1) := by decide +kernel
theorem dX9_add_14 : decode cX9_add 14 = .ok (.getfield 15, 3) := by decide +kernel
theorem dX9_add_17 : decode cX9_add 17 = .ok (.iconst 1, 1) := by decide +kernel
theorem dX9_add_18 : decode cX9_add 18 = .ok (.iadd, 1) := by decide +kernel
theorem dX9_add_19 : decode cX9_add 19 = .ok (.putfield 15, 3) := by decide +kernel
theorem dX9_add_22 : decode cX9_add 22 = .ok (.return_, 1) := by decide +kernel
theorem dX9_empty_0 : decode cX9_empty 0 = .ok (.aload_n 0, 1) := by decide +kernel
theorem dX9_empty_1 : decode cX9_empty 1 = .ok (.getfield 15, 3) := by decide +kernel
theorem dX9_empty_4 : decode cX9_empty 4 = .ok (.istore_n 1, 1) := by decide +kernel
theorem dX9_empty_5 : decode cX9_empty 5 = .ok (.aload_n 0, 1) := by decide +kernel
theorem dX9_empty_6 : decode cX9_empty 6 = .ok (.iconst 0, 1) := by decide +kernel
theorem dX9_empty_7 : decode cX9_empty 7 = .ok (.putfield 15, 3) := by decide +kernel
theorem dX9_empty_10 : decode cX9_empty 10 = .ok (.iload_n 1, 1) := by decide +kernel
theorem dX9_empty_11 : decode cX9_empty 11 = .ok (.ireturn, 1) := by decide +kernel
theorem dX9_letter_0 : decode cX9_letter 0 = .ok (.iload_n 1, 1) := by decide +kernel
theorem dX9_letter_1 : decode cX9_letter 1 = .ok (.ifCond .lt 21, 3) := by decide +kernel
theorem dX9_letter_4 : decode cX9_letter 4 = .ok (.iload_n 1, 1) := by decide +kernel
theorem dX9_letter_5 : decode cX9_letter 5 = .ok (.aload_n 0, 1) := by decide +kernel
theorem dX9_letter_6 : decode cX9_letter 6 = .ok (.getfield 9, 3) := by decide +kernel
theorem dX9_letter_9 : decode cX9_letter 9 = .ok (.arraylength, 1) := by decide +kernel
theorem dX9_letter_10 : decode cX9_letter 10 = .ok (.if_icmp .ge 12, 3) := by decide +kernel
theorem dX9_letter_13 : decode cX9_letter 13 = .ok (.aload_n 0, 1) := by decide +kernel
theorem dX9_letter_14 : decode cX9_letter 14 = .ok (.getfield 9, 3) := by decide +kernel
theorem dX9_letter_17 : decode cX9_letter 17 = .ok (.iload_n 1, 1) := by decide +kernel
theorem dX9_letter_18 : decode cX9_letter 18 = .ok (.iaload, 1) := by decide +kernel
theorem dX9_letter_19 : decode cX9_letter 19 = .ok (.goto 4, 3) := by decide +kernel
theorem dX9_letter_22 : decode cX9_letter 22 = .ok (.iconst 0, 1) := by decide +kernel
theorem dX9_letter_23 : decode cX9_letter 23 = .ok (.ireturn, 1) := by decide +kernel
theorem dX10_init_0 : decode cX10_init 0 = .ok (.aload_n 0, 1) := by decide +kernel
theorem dX10_init_1 : decode cX10_init 1 = .ok (.invokespecial 3, 3) := by decide +kernel
theorem dX10_init_4 : decode cX10_init 4 = .ok (.aload_n 0, 1) := by decide +kernel
theorem dX10_init_5 : decode cX10_init 5 = .ok (.bipush 28, 2) := by decide +kernel
theorem dX10_init_7 : decode cX10_init 7 = .ok (.newarray .int, 2) := by decide +kernel
theorem dX10_init_9 : decode cX10_init 9 = .ok (.putfield 11, 3) := by decide +kernel
theorem dX10_init_12 : decode cX10_init 12 = .ok (.aload_n 0, 1) := by decide +kernel
theorem dX10_init_13 : decode cX10_init 13 = .ok (.bipush 30, 2) := by decide +kernel
theorem dX10_init_15 : decode cX10_init 15 = .ok (.newarray .int, 2) := by decide +kernel
theorem dX10_init_17 : decode cX10_init 17 = .ok (.putfield 15, 3) := by decide +kernel
theorem dX10_init_20 : decode cX10_init 20 = .ok (.aload_n 0, 1) := by decide +kernel
theorem dX10_init_21 : decode cX10_init 21 = .ok (.iconst 1, 1) := by decide +kernel
theorem dX10_init_22 : decode cX10_init 22 = .ok (.putfield 18, 3) := by decide +kernel
theorem dX10_init_25 : decode cX10_init 25 = .ok (.return_, 1) := by decide +kernel
theorem dX10_empty_0 : decode cX10_empty 0 = .ok (.aload_n 0, 1) := by decide +kernel
theorem dX10_empty_1 : decode cX10_empty 1 = .ok (.iconst 0, 1) := by decide +kernel
theorem dX10_empty_2 : decode cX10_empty 2 = .ok (.putfield 22, 3) := by decide +kernel
theorem dX10_empty_5 : decode cX10_empty 5 = .ok (.aload_n 0, 1) := by decide +kernel
theorem dX10_empty_6 : decode cX10_empty 6 = .ok (.iconst 0, 1) := by decide +kernel
theorem dX10_empty_7 : decode cX10_empty 7 = .ok (.putfield 25, 3) := by decide +kernel
theorem dX10_empty_10 : decode cX10_empty 10 = .ok (.aload_n 0, 1) := by decide +kernel
theorem dX10_empty_11 : decode cX10_empty 11 = .ok (.iconst 1, 1) := by decide +kernel
theorem dX10_empty_12 : decode cX10_empty 12 = .ok (.putfield 18, 3) := by decide +kernel
theorem dX10_empty_15 : decode cX10_empty 15 = .ok (.return_, 1) := by decide +kernel
set_option maxRecDepth 100000 in
theorem ggX10_copyFrom_X11_copyRow : GoodIn wsX10_copyFrom wsX11_copyRow := goodIn_r _ [8] rfl (by decide +kernel)
set_option maxRecDepth 100000 in
theorem gX10_copyFrom_X11_copyRow_n28 : GoodIn wsX10_copyFrom (wsX11_copyRow) := ggX10_copyFrom_X11_copyRow
theorem dX10_copyFrom_0 : decode cX10_copyFrom 0 = .ok (.aload_n 1, 1) := by decide +kernel
theorem dX10_copyFrom_1 : decode cX10_copyFrom 1 = .ok (.getfield 11, 3) := by decide +kernel
theorem dX10_copyFrom_4 : decode cX10_copyFrom 4 = .ok (.aload_n 0, 1) := by decide +kernel
theorem dX10_copyFrom_5 : decode cX10_copyFrom 5 = .ok (.getfield 11, 3) := by decide +kernel
theorem dX10_copyFrom_8 : decode cX10_copyFrom 8 = .ok (.invokestatic 28, 3) := by decide +kernel
theorem dX10_copyFrom_11 : decode cX10_copyFrom 11 = .ok (.aload_n 1, 1) := by decide +kernel
theorem dX10_copyFrom_12 : decode cX10_copyFrom 12 = .ok (.getfield 15, 3) := by decide +kernel
theorem dX10_copyFrom_15 : decode cX10_copyFrom 15 = .ok (.aload_n 0, 1) := by decide +kernel
theorem dX10_copyFrom_16 : decode cX10_copyFrom 16 = .ok (.getfield 15, 3) := by decide +kernel
theorem dX10_copyFrom_19 : decode cX10_copyFrom 19 = .ok (.invokestatic 28, 3) := by decide +kernel
theorem dX10_copyFrom_22 : decode cX10_copyFrom 22 = .ok (.aload_n 0, 1) := by decide +kernel
theorem dX10_copyFrom_23 : decode cX10_copyFrom 23 = .ok (.aload_n 1, 1) := by decide +kernel
theorem dX10_copyFrom_24 : decode cX10_copyFrom 24 = .ok (.getfield 22, 3) := by decide +kernel
theorem dX10_copyFrom_27 : decode cX10_copyFrom 27 = .ok (.putfield 22, 3) := by decide +kernel
theorem dX10_copyFrom_30 : decode cX10_copyFrom 30 = .ok (.aload_n 0, 1) := by decide +kernel
theorem dX10_copyFrom_31 : decode cX10_copyFrom 31 = .ok (.aload_n 1, 1) := by decide +kernel
theorem dX10_copyFrom_32 : decode cX10_copyFrom 32 = .ok (.getfield 25, 3) := by decide +kernel
theorem dX10_copyFrom_35 : decode cX10_copyFrom 35 = .ok (.putfield 25, 3) := by decide +kernel
theorem dX10_copyFrom_38 : decode cX10_copyFrom 38 = .ok (.aload_n 0, 1) := by decide +kernel
theorem dX10_copyFrom_39 : decode cX10_copyFrom 39 = .ok (.aload_n 1, 1) := by decide +kernel
theorem dX10_copyFrom_40 : decode cX10_copyFrom 40 = .ok (.getfield 18, 3) := by decide +kernel
theorem dX10_copyFrom_43 : decode cX10_copyFrom 43 = .ok (.putfield 18, 3) := by decide +kernel
theorem dX10_copyFrom_46 : decode cX10_copyFrom 46 = .ok (.return_, 1) := by decide +kernel
set_option maxRecDepth 100000 in
theorem ggX10_ofBidder_X11_at : GoodIn wsX10_ofBidder wsX11_at := goodIn_r _ [4] rfl (by decide +kernel)
set_option maxRecDepth 100000 in
theorem gX10_ofBidder_X11_at_n32 : GoodIn wsX10_ofBidder (wsX11_at) := ggX10_ofBidder_X11_at
theorem dX10_ofBidder_0 : decode cX10_ofBidder 0 = .ok (.aload_n 0, 1) := by decide +kernel
theorem dX10_ofBidder_1 : decode cX10_ofBidder 1 = .ok (.getfield 11, 3) := by decide +kernel
theorem dX10_ofBidder_4 : decode cX10_ofBidder 4 = .ok (.iload_n 1, 1) := by decide +kernel
theorem dX10_ofBidder_5 : decode cX10_ofBidder 5 = .ok (.bipush 7, 2) := by decide +kernel
theorem dX10_ofBidder_7 : decode cX10_ofBidder 7 = .ok (.imul, 1) := by decide +kernel
theorem dX10_ofBidder_8 : decode cX10_ofBidder 8 = .ok (.iload_n 2, 1) := by decide +kernel
theorem dX10_ofBidder_9 : decode cX10_ofBidder 9 = .ok (.iadd, 1) := by decide +kernel
theorem dX10_ofBidder_10 : decode cX10_ofBidder 10 = .ok (.invokestatic 32, 3) := by decide +kernel
theorem dX10_ofBidder_13 : decode cX10_ofBidder 13 = .ok (.ireturn, 1) := by decide +kernel
set_option maxRecDepth 100000 in
theorem ggX10_setOfBidder_X11_put : GoodIn wsX10_setOfBidder wsX11_put := goodIn_r _ [4] rfl (by decide +kernel)
set_option maxRecDepth 100000 in
theorem gX10_setOfBidder_X11_put_n36 : GoodIn wsX10_setOfBidder (wsX11_put) := ggX10_setOfBidder_X11_put
theorem dX10_setOfBidder_0 : decode cX10_setOfBidder 0 = .ok (.aload_n 0, 1) := by decide +kernel
theorem dX10_setOfBidder_1 : decode cX10_setOfBidder 1 = .ok (.getfield 11, 3) := by decide +kernel
theorem dX10_setOfBidder_4 : decode cX10_setOfBidder 4 = .ok (.iload_n 1, 1) := by decide +kernel
theorem dX10_setOfBidder_5 : decode cX10_setOfBidder 5 = .ok (.bipush 7, 2) := by decide +kernel
theorem dX10_setOfBidder_7 : decode cX10_setOfBidder 7 = .ok (.imul, 1) := by decide +kernel
theorem dX10_setOfBidder_8 : decode cX10_setOfBidder 8 = .ok (.iload_n 2, 1) := by decide +kernel
theorem dX10_setOfBidder_9 : decode cX10_setOfBidder 9 = .ok (.iadd, 1) := by decide +kernel
theorem dX10_setOfBidder_10 : decode cX10_setOfBidder 10 = .ok (.iload_n 3, 1) := by decide +kernel
theorem dX10_setOfBidder_11 : decode cX10_setOfBidder 11 = .ok (.invokestatic 36, 3) := by decide +kernel
theorem dX10_setOfBidder_14 : decode cX10_setOfBidder 14 = .ok (.return_, 1) := by decide +kernel
set_option maxRecDepth 100000 in
theorem ggX10_worth_X11_at : GoodIn wsX10_worth wsX11_at := goodIn_r _ [4] rfl (by decide +kernel)
set_option maxRecDepth 100000 in
theorem gX10_worth_X11_at_n32 : GoodIn wsX10_worth (wsX11_at) := ggX10_worth_X11_at
theorem dX10_worth_0 : decode cX10_worth 0 = .ok (.aload_n 0, 1) := by decide +kernel
theorem dX10_worth_1 : decode cX10_worth 1 = .ok (.getfield 11, 3) := by decide +kernel
theorem dX10_worth_4 : decode cX10_worth 4 = .ok (.iload_n 1, 1) := by decide +kernel
theorem dX10_worth_5 : decode cX10_worth 5 = .ok (.bipush 7, 2) := by decide +kernel
theorem dX10_worth_7 : decode cX10_worth 7 = .ok (.imul, 1) := by decide +kernel
theorem dX10_worth_8 : decode cX10_worth 8 = .ok (.iconst 2, 1) := by decide +kernel
theorem dX10_worth_9 : decode cX10_worth 9 = .ok (.iadd, 1) := by decide +kernel
theorem dX10_worth_10 : decode cX10_worth 10 = .ok (.iload_n 2, 1) := by decide +kernel
theorem dX10_worth_11 : decode cX10_worth 11 = .ok (.iadd, 1) := by decide +kernel
theorem dX10_worth_12 : decode cX10_worth 12 = .ok (.invokestatic 32, 3) := by decide +kernel
theorem dX10_worth_15 : decode cX10_worth 15 = .ok (.ireturn, 1) := by decide +kernel
set_option maxRecDepth 100000 in
theorem ggX10_setWorth_X10_setOfBidder : GoodIn wsX10_setWorth wsX10_setOfBidder := goodIn_r _ [5, 6, 7, 8, 9, 10, 11, 12, 13, 14] rfl (by decide +kernel)
set_option maxRecDepth 100000 in
theorem gX10_setWorth_X10_setOfBidder : GoodIn wsX10_setWorth (wsV RX10 40 RX10 yX10_setOfBidder wsX10_setOfBidder) := goodIn_app (goodIn_r ([.methodLink RX10 40 yX10_setOfBidder, .instanceMethod yX10_setOfBidder, .selects RX10 yX10_setOfBidder yX10_setOfBidder, .initialized RX10] : List Cond) [1, 2, 3, 4] rfl (by decide +kernel)) ggX10_setWorth_X10_setOfBidder
theorem dX10_setWorth_0 : decode cX10_setWorth 0 = .ok (.aload_n 0, 1) := by decide +kernel
theorem dX10_setWorth_1 : decode cX10_setWorth 1 = .ok (.iload_n 1, 1) := by decide +kernel
theorem dX10_setWorth_2 : decode cX10_setWorth 2 = .ok (.iconst 2, 1) := by decide +kernel
theorem dX10_setWorth_3 : decode cX10_setWorth 3 = .ok (.iload_n 2, 1) := by decide +kernel
theorem dX10_setWorth_4 : decode cX10_setWorth 4 = .ok (.iadd, 1) := by decide +kernel
theorem dX10_setWorth_5 : decode cX10_setWorth 5 = .ok (.iload_n 3, 1) := by decide +kernel
theorem dX10_setWorth_6 : decode cX10_setWorth 6 = .ok (.invokevirtual 40, 3) := by decide +kernel
theorem dX10_setWorth_9 : decode cX10_setWorth 9 = .ok (.return_, 1) := by decide +kernel
set_option maxRecDepth 100000 in
theorem ggX10_ofDebt_X11_at : GoodIn wsX10_ofDebt wsX11_at := goodIn_r _ [4] rfl (by decide +kernel)
set_option maxRecDepth 100000 in
theorem gX10_ofDebt_X11_at_n32 : GoodIn wsX10_ofDebt (wsX11_at) := ggX10_ofDebt_X11_at
theorem dX10_ofDebt_0 : decode cX10_ofDebt 0 = .ok (.aload_n 0, 1) := by decide +kernel
theorem dX10_ofDebt_1 : decode cX10_ofDebt 1 = .ok (.getfield 15, 3) := by decide +kernel
theorem dX10_ofDebt_4 : decode cX10_ofDebt 4 = .ok (.iload_n 1, 1) := by decide +kernel
theorem dX10_ofDebt_5 : decode cX10_ofDebt 5 = .ok (.iconst 5, 1) := by decide +kernel
theorem dX10_ofDebt_6 : decode cX10_ofDebt 6 = .ok (.imul, 1) := by decide +kernel
theorem dX10_ofDebt_7 : decode cX10_ofDebt 7 = .ok (.iload_n 2, 1) := by decide +kernel
theorem dX10_ofDebt_8 : decode cX10_ofDebt 8 = .ok (.iadd, 1) := by decide +kernel
theorem dX10_ofDebt_9 : decode cX10_ofDebt 9 = .ok (.invokestatic 32, 3) := by decide +kernel
theorem dX10_ofDebt_12 : decode cX10_ofDebt 12 = .ok (.ireturn, 1) := by decide +kernel
set_option maxRecDepth 100000 in
theorem ggX10_setOfDebt_X11_put : GoodIn wsX10_setOfDebt wsX11_put := goodIn_r _ [4] rfl (by decide +kernel)
set_option maxRecDepth 100000 in
theorem gX10_setOfDebt_X11_put_n36 : GoodIn wsX10_setOfDebt (wsX11_put) := ggX10_setOfDebt_X11_put
theorem dX10_setOfDebt_0 : decode cX10_setOfDebt 0 = .ok (.aload_n 0, 1) := by decide +kernel
theorem dX10_setOfDebt_1 : decode cX10_setOfDebt 1 = .ok (.getfield 15, 3) := by decide +kernel
theorem dX10_setOfDebt_4 : decode cX10_setOfDebt 4 = .ok (.iload_n 1, 1) := by decide +kernel
theorem dX10_setOfDebt_5 : decode cX10_setOfDebt 5 = .ok (.iconst 5, 1) := by decide +kernel
theorem dX10_setOfDebt_6 : decode cX10_setOfDebt 6 = .ok (.imul, 1) := by decide +kernel
theorem dX10_setOfDebt_7 : decode cX10_setOfDebt 7 = .ok (.iload_n 2, 1) := by decide +kernel
theorem dX10_setOfDebt_8 : decode cX10_setOfDebt 8 = .ok (.iadd, 1) := by decide +kernel
theorem dX10_setOfDebt_9 : decode cX10_setOfDebt 9 = .ok (.iload_n 3, 1) := by decide +kernel
theorem dX10_setOfDebt_10 : decode cX10_setOfDebt 10 = .ok (.invokestatic 36, 3) := by decide +kernel
theorem dX10_setOfDebt_13 : decode cX10_setOfDebt 13 = .ok (.return_, 1) := by decide +kernel
set_option maxRecDepth 100000 in
theorem ggX10_isWanted_X10_worth : GoodIn wsX10_isWanted wsX10_worth := goodIn_r _ [6, 7, 8, 9, 10, 11, 12, 13, 14, 15] rfl (by decide +kernel)
set_option maxRecDepth 100000 in
theorem gX10_isWanted_X10_worth : GoodIn wsX10_isWanted (wsV RX10 44 RX10 yX10_worth wsX10_worth) := goodIn_app (goodIn_r ([.methodLink RX10 44 yX10_worth, .instanceMethod yX10_worth, .selects RX10 yX10_worth yX10_worth, .initialized RX10] : List Cond) [2, 3, 4, 5] rfl (by decide +kernel)) ggX10_isWanted_X10_worth
theorem dX10_isWanted_0 : decode cX10_isWanted 0 = .ok (.iconst 0, 1) := by decide +kernel
theorem dX10_isWanted_1 : decode cX10_isWanted 1 = .ok (.istore_n 2, 1) := by decide +kernel
theorem dX10_isWanted_2 : decode cX10_isWanted 2 = .ok (.iload_n 2, 1) := by decide +kernel
theorem dX10_isWanted_3 : decode cX10_isWanted 3 = .ok (.aload_n 0, 1) := by decide +kernel
theorem dX10_isWanted_4 : decode cX10_isWanted 4 = .ok (.getfield 22, 3) := by decide +kernel
theorem dX10_isWanted_7 : decode cX10_isWanted 7 = .ok (.if_icmp .ge 20, 3) := by decide +kernel
theorem dX10_isWanted_10 : decode cX10_isWanted 10 = .ok (.aload_n 0, 1) := by decide +kernel
theorem dX10_isWanted_11 : decode cX10_isWanted 11 = .ok (.iload_n 2, 1) := by decide +kernel
theorem dX10_isWanted_12 : decode cX10_isWanted 12 = .ok (.iload_n 1, 1) := by decide +kernel
theorem dX10_isWanted_13 : decode cX10_isWanted 13 = .ok (.invokevirtual 44, 3) := by decide +kernel
theorem dX10_isWanted_16 : decode cX10_isWanted 16 = .ok (.ifCond .le 5, 3) := by decide +kernel
theorem dX10_isWanted_19 : decode cX10_isWanted 19 = .ok (.iconst 1, 1) := by decide +kernel
theorem dX10_isWanted_20 : decode cX10_isWanted 20 = .ok (.ireturn, 1) := by decide +kernel
theorem dX10_isWanted_21 : decode cX10_isWanted 21 = .ok (.iinc 2 1, 3) := by decide +kernel
theorem dX10_isWanted_24 : decode cX10_isWanted 24 = .ok (.goto (-22), 3) := by decide +kernel
theorem dX10_isWanted_27 : decode cX10_isWanted 27 = .ok (.iconst 0, 1) := by decide +kernel
theorem dX10_isWanted_28 : decode cX10_isWanted 28 = .ok (.ireturn, 1) := by decide +kernel
set_option maxRecDepth 100000 in
theorem ggX11_init_X9_init : GoodIn wsX11_init wsX9_init := goodIn_r _ [45, 46, 2, 3, 47, 48, 143, 144] rfl (by decide +kernel)
set_option maxRecDepth 100000 in
theorem gX11_init_X9_init_n9 : GoodIn wsX11_init (wsX9_init) := ggX11_init_X9_init
set_option maxRecDepth 100000 in
theorem ggX11_init_X10_init : GoodIn wsX11_init wsX10_init := goodIn_r _ [50, 51, 2, 3, 47, 52, 53, 54, 155, 156, 157, 158, 159] rfl (by decide +kernel)
set_option maxRecDepth 100000 in
theorem gX11_init_X10_init_n18 : GoodIn wsX11_init (wsX10_init) := ggX11_init_X10_init
set_option maxRecDepth 100000 in
theorem ggX11_init_X8_init : GoodIn wsX11_init wsX8_init := goodIn_r _ [57, 58, 2, 3, 59, 9, 10, 60, 61, 49, 50, 51, 47, 52, 53, 54, 155, 156, 157, 158, 159, 160, 161, 162, 163, 164, 165, 166] rfl (by decide +kernel)
set_option maxRecDepth 100000 in
theorem gX11_init_X8_init : GoodIn wsX11_init (wsX8_init) := ggX11_init_X8_init
set_option maxRecDepth 100000 in
theorem ggX11_init_X3_init : GoodIn wsX11_init wsX3_init := goodIn_r _ [63, 64, 2, 3, 47, 65, 66, 67, 167, 168, 169, 170, 171, 172, 173, 174] rfl (by decide +kernel)
set_option maxRecDepth 100000 in
theorem gX11_init_X3_init_n34 : GoodIn wsX11_init (wsX3_init) := ggX11_init_X3_init
set_option maxRecDepth 100000 in
theorem ggX11_init_X4_init : GoodIn wsX11_init wsX4_init := goodIn_r _ [70, 71, 2, 3, 72, 73, 74, 75, 76, 77, 78, 79, 47, 80, 81, 200, 201, 175, 176, 177, 178] rfl (by decide +kernel)
set_option maxRecDepth 100000 in
theorem gX11_init_X4_init : GoodIn wsX11_init (wsX4_init) := ggX11_init_X4_init
set_option maxRecDepth 100000 in
theorem ggX11_init_X5_init : GoodIn wsX11_init wsX5_init := goodIn_r _ [84, 85, 2, 3, 86, 17, 18, 87, 88, 89, 62, 63, 64, 47, 65, 66, 67, 167, 168, 169, 170, 171, 172, 173, 174, 179, 180, 181] rfl (by decide +kernel)
set_option maxRecDepth 100000 in
theorem gX11_init_X5_init : GoodIn wsX11_init (wsX5_init) := ggX11_init_X5_init
set_option maxRecDepth 100000 in
theorem ggX11_init_X2_init : GoodIn wsX11_init wsX2_init := goodIn_r _ [92, 93, 2, 3, 94, 17, 18, 95, 47, 96, 97, 98, 99, 62, 63, 64, 65, 66, 67, 167, 168, 169, 170, 171, 172, 173, 174, 182, 183, 184, 185, 186, 187] rfl (by decide +kernel)
set_option maxRecDepth 100000 in
theorem gX11_init_X2_init : GoodIn wsX11_init (wsX2_init) := ggX11_init_X2_init
set_option maxRecDepth 100000 in
theorem ggX11_init_X0_init : GoodIn wsX11_init wsX0_init := goodIn_r _ [102, 103, 2, 3, 104, 17, 18, 105, 47, 106, 107, 62, 63, 64, 65, 66, 67, 167, 168, 169, 170, 171, 172, 173, 174, 188, 189, 190, 191] rfl (by decide +kernel)
set_option maxRecDepth 100000 in
theorem gX11_init_X0_init : GoodIn wsX11_init (wsX0_init) := ggX11_init_X0_init
set_option maxRecDepth 100000 in
theorem ggX11_init_X6_init : GoodIn wsX11_init wsX6_init := goodIn_r _ [110, 111, 2, 3, 112, 113, 114, 115, 116, 17, 18, 62, 63, 64, 47, 65, 66, 67, 192, 193, 194, 195, 196, 167, 168, 169, 170, 171, 172, 173, 174] rfl (by decide +kernel)
set_option maxRecDepth 100000 in
theorem gX11_init_X6_init : GoodIn wsX11_init (wsX6_init) := ggX11_init_X6_init
set_option maxRecDepth 100000 in
theorem ggX11_init_X7_init : GoodIn wsX11_init wsX7_init := goodIn_r _ [119, 120, 2, 3, 121, 122, 197, 198, 199] rfl (by decide +kernel)
set_option maxRecDepth 100000 in
theorem gX11_init_X7_init : GoodIn wsX11_init (wsX7_init) := ggX11_init_X7_init
set_option maxRecDepth 100000 in
theorem ggX11_init_X3_begin : GoodIn wsX11_init wsX3_begin := goodIn_r _ [126, 66, 67, 127, 128, 129, 130, 131, 132, 10, 133, 52, 134, 135, 136, 137, 138, 139, 18, 140, 141, 142, 167, 168, 169, 170, 171, 172, 173, 174, 155, 156, 157, 158, 159] rfl (by decide +kernel)
set_option maxRecDepth 100000 in
theorem gX11_init_X3_begin : GoodIn wsX11_init (wsV RX11 89 RX3 yX3_begin wsX3_begin) := goodIn_app (goodIn_r ([.methodLink RX11 89 yX3_begin, .instanceMethod yX3_begin, .selects RX3 yX3_begin yX3_begin, .initialized RX3] : List Cond) [123, 124, 125, 18] rfl (by decide +kernel)) ggX11_init_X3_begin
theorem dX11_init_0 : decode cX11_init 0 = .ok (.aload_n 0, 1) := by decide +kernel
theorem dX11_init_1 : decode cX11_init 1 = .ok (.invokespecial 1, 3) := by decide +kernel
theorem dX11_init_4 : decode cX11_init 4 = .ok (.aload_n 0, 1) := by decide +kernel
theorem dX11_init_5 : decode cX11_init 5 = .ok (.new 7, 3) := by decide +kernel
theorem dX11_init_8 : decode cX11_init 8 = .ok (.dup, 1) := by decide +kernel
theorem dX11_init_9 : decode cX11_init 9 = .ok (.invokespecial 9, 3) := by decide +kernel
theorem dX11_init_12 : decode cX11_init 12 = .ok (.putfield 10, 3) := by decide +kernel
theorem dX11_init_15 : decode cX11_init 15 = .ok (.aload_n 0, 1) := by decide +kernel
theorem dX11_init_16 : decode cX11_init 16 = .ok (.new 16, 3) := by decide +kernel
theorem dX11_init_19 : decode cX11_init 19 = .ok (.dup, 1) := by decide +kernel
theorem dX11_init_20 : decode cX11_init 20 = .ok (.invokespecial 18, 3) := by decide +kernel
theorem dX11_init_23 : decode cX11_init 23 = .ok (.putfield 19, 3) := by decide +kernel
theorem dX11_init_26 : decode cX11_init 26 = .ok (.aload_n 0, 1) := by decide +kernel
theorem dX11_init_27 : decode cX11_init 27 = .ok (.new 23, 3) := by decide +kernel
theorem dX11_init_30 : decode cX11_init 30 = .ok (.dup, 1) := by decide +kernel
theorem dX11_init_31 : decode cX11_init 31 = .ok (.aload_n 0, 1) := by decide +kernel
theorem dX11_init_32 : decode cX11_init 32 = .ok (.getfield 10, 3) := by decide +kernel
theorem dX11_init_35 : decode cX11_init 35 = .ok (.invokespecial 25, 3) := by decide +kernel
theorem dX11_init_38 : decode cX11_init 38 = .ok (.putfield 28, 3) := by decide +kernel
theorem dX11_init_41 : decode cX11_init 41 = .ok (.aload_n 0, 1) := by decide +kernel
theorem dX11_init_42 : decode cX11_init 42 = .ok (.new 32, 3) := by decide +kernel
theorem dX11_init_45 : decode cX11_init 45 = .ok (.dup, 1) := by decide +kernel
theorem dX11_init_46 : decode cX11_init 46 = .ok (.invokespecial 34, 3) := by decide +kernel
theorem dX11_init_49 : decode cX11_init 49 = .ok (.putfield 35, 3) := by decide +kernel
theorem dX11_init_52 : decode cX11_init 52 = .ok (.aload_n 0, 1) := by decide +kernel
theorem dX11_init_53 : decode cX11_init 53 = .ok (.new 39, 3) := by decide +kernel
theorem dX11_init_56 : decode cX11_init 56 = .ok (.dup, 1) := by decide +kernel
theorem dX11_init_57 : decode cX11_init 57 = .ok (.aload_n 0, 1) := by decide +kernel
theorem dX11_init_58 : decode cX11_init 58 = .ok (.getfield 19, 3) := by decide +kernel
theorem dX11_init_61 : decode cX11_init 61 = .ok (.invokespecial 41, 3) := by decide +kernel
theorem dX11_init_64 : decode cX11_init 64 = .ok (.putfield 44, 3) := by decide +kernel
theorem dX11_init_67 : decode cX11_init 67 = .ok (.aload_n 0, 1) := by decide +kernel
theorem dX11_init_68 : decode cX11_init 68 = .ok (.new 48, 3) := by decide +kernel
theorem dX11_init_71 : decode cX11_init 71 = .ok (.dup, 1) := by decide +kernel
theorem dX11_init_72 : decode cX11_init 72 = .ok (.aload_n 0, 1) := by decide +kernel
theorem dX11_init_73 : decode cX11_init 73 = .ok (.getfield 19, 3) := by decide +kernel
theorem dX11_init_76 : decode cX11_init 76 = .ok (.aload_n 0, 1) := by decide +kernel
theorem dX11_init_77 : decode cX11_init 77 = .ok (.getfield 44, 3) := by decide +kernel
theorem dX11_init_80 : decode cX11_init 80 = .ok (.invokespecial 50, 3) := by decide +kernel
theorem dX11_init_83 : decode cX11_init 83 = .ok (.putfield 53, 3) := by decide +kernel
theorem dX11_init_86 : decode cX11_init 86 = .ok (.aload_n 0, 1) := by decide +kernel
theorem dX11_init_87 : decode cX11_init 87 = .ok (.new 57, 3) := by decide +kernel
theorem dX11_init_90 : decode cX11_init 90 = .ok (.dup, 1) := by decide +kernel
theorem dX11_init_91 : decode cX11_init 91 = .ok (.aload_n 0, 1) := by decide +kernel
theorem dX11_init_92 : decode cX11_init 92 = .ok (.getfield 19, 3) := by decide +kernel
theorem dX11_init_95 : decode cX11_init 95 = .ok (.aload_n 0, 1) := by decide +kernel
theorem dX11_init_96 : decode cX11_init 96 = .ok (.getfield 44, 3) := by decide +kernel
theorem dX11_init_99 : decode cX11_init 99 = .ok (.invokespecial 59, 3) := by decide +kernel
theorem dX11_init_102 : decode cX11_init 102 = .ok (.putfield 60, 3) := by decide +kernel
theorem dX11_init_105 : decode cX11_init 105 = .ok (.aload_n 0, 1) := by decide +kernel
theorem dX11_init_106 : decode cX11_init 106 = .ok (.new 64, 3) := by decide +kernel
theorem dX11_init_109 : decode cX11_init 109 = .ok (.dup, 1) := by decide +kernel
theorem dX11_init_110 : decode cX11_init 110 = .ok (.aload_n 0, 1) := by decide +kernel
theorem dX11_init_111 : decode cX11_init 111 = .ok (.getfield 44, 3) := by decide +kernel
theorem dX11_init_114 : decode cX11_init 114 = .ok (.invokespecial 66, 3) := by decide +kernel
theorem dX11_init_117 : decode cX11_init 117 = .ok (.putfield 69, 3) := by decide +kernel
theorem dX11_init_120 : decode cX11_init 120 = .ok (.aload_n 0, 1) := by decide +kernel
theorem dX11_init_121 : decode cX11_init 121 = .ok (.new 73, 3) := by decide +kernel
theorem dX11_init_124 : decode cX11_init 124 = .ok (.dup, 1) := by decide +kernel
theorem dX11_init_125 : decode cX11_init 125 = .ok (.invokespecial 75, 3) := by decide +kernel
theorem dX11_init_128 : decode cX11_init 128 = .ok (.putfield 76, 3) := by decide +kernel
theorem dX11_init_131 : decode cX11_init 131 = .ok (.aload_n 0, 1) := by decide +kernel
theorem dX11_init_132 : decode cX11_init 132 = .ok (.new 80, 3) := by decide +kernel
theorem dX11_init_135 : decode cX11_init 135 = .ok (.dup, 1) := by decide +kernel
theorem dX11_init_136 : decode cX11_init 136 = .ok (.aload_n 0, 1) := by decide +kernel
theorem dX11_init_137 : decode cX11_init 137 = .ok (.getfield 19, 3) := by decide +kernel
theorem dX11_init_140 : decode cX11_init 140 = .ok (.aload_n 0, 1) := by decide +kernel
theorem dX11_init_141 : decode cX11_init 141 = .ok (.getfield 35, 3) := by decide +kernel
theorem dX11_init_144 : decode cX11_init 144 = .ok (.invokespecial 82, 3) := by decide +kernel
theorem dX11_init_147 : decode cX11_init 147 = .ok (.putfield 85, 3) := by decide +kernel
theorem dX11_init_150 : decode cX11_init 150 = .ok (.aload_n 0, 1) := by decide +kernel
theorem dX11_init_151 : decode cX11_init 151 = .ok (.getfield 35, 3) := by decide +kernel
theorem dX11_init_154 : decode cX11_init 154 = .ok (.aload_n 0, 1) := by decide +kernel
theorem dX11_init_155 : decode cX11_init 155 = .ok (.getfield 19, 3) := by decide +kernel
theorem dX11_init_158 : decode cX11_init 158 = .ok (.invokevirtual 89, 3) := by decide +kernel
theorem dX11_init_161 : decode cX11_init 161 = .ok (.return_, 1) := by decide +kernel
set_option maxRecDepth 100000 in
theorem ggX11_type_X11_within : GoodIn wsX11_type wsX11_within := goodIn_r _ [5] rfl (by decide +kernel)
set_option maxRecDepth 100000 in
theorem gX11_type_X11_within : GoodIn wsX11_type (va_wsS RX11 92 yX11_within wsX11_within) := goodIn_app (goodIn_r ([.methodLink RX11 92 yX11_within, .static yX11_within, .initialized RX11] : List Cond) [2, 3, 4] rfl (by decide +kernel)) ggX11_type_X11_within
set_option maxRecDepth 100000 in
theorem ggX11_type_X9_add : GoodIn wsX11_type wsX9_add := goodIn_r _ [10, 11, 12, 13, 4, 14, 25, 26] rfl (by decide +kernel)
set_option maxRecDepth 100000 in
theorem gX11_type_X9_add : GoodIn wsX11_type (wsV RX11 100 RX9 yX9_add wsX9_add) := goodIn_app (goodIn_r ([.methodLink RX11 100 yX9_add, .instanceMethod yX9_add, .selects RX9 yX9_add yX9_add, .initialized RX9] : List Cond) [6, 7, 8, 9] rfl (by decide +kernel)) ggX11_type_X9_add
theorem dX11_type_0 : decode cX11_type 0 = .ok (.iload_n 1, 1) := by decide +kernel
theorem dX11_type_1 : decode cX11_type 1 = .ok (.iconst 0, 1) := by decide +kernel
theorem dX11_type_2 : decode cX11_type 2 = .ok (.sipush 255, 3) := by decide +kernel
theorem dX11_type_5 : decode cX11_type 5 = .ok (.invokestatic 92, 3) := by decide +kernel
theorem dX11_type_8 : decode cX11_type 8 = .ok (.ifCond .ne 5, 3) := by decide +kernel
theorem dX11_type_11 : decode cX11_type 11 = .ok (.iconst (-1), 1) := by decide +kernel
theorem dX11_type_12 : decode cX11_type 12 = .ok (.ireturn, 1) := by decide +kernel
theorem dX11_type_13 : decode cX11_type 13 = .ok (.aload_n 0, 1) := by decide +kernel
theorem dX11_type_14 : decode cX11_type 14 = .ok (.getfield 10, 3) := by decide +kernel
theorem dX11_type_17 : decode cX11_type 17 = .ok (.getfield 96, 3) := by decide +kernel
theorem dX11_type_20 : decode cX11_type 20 = .ok (.sipush 200, 3) := by decide +kernel
theorem dX11_type_23 : decode cX11_type 23 = .ok (.if_icmp .lt 6, 3) := by decide +kernel
theorem dX11_type_26 : decode cX11_type 26 = .ok (.bipush (-3), 2) := by decide +kernel
theorem dX11_type_28 : decode cX11_type 28 = .ok (.ireturn, 1) := by decide +kernel
theorem dX11_type_29 : decode cX11_type 29 = .ok (.aload_n 0, 1) := by decide +kernel
theorem dX11_type_30 : decode cX11_type 30 = .ok (.getfield 10, 3) := by decide +kernel
theorem dX11_type_33 : decode cX11_type 33 = .ok (.iload_n 1, 1) := by decide +kernel
theorem dX11_type_34 : decode cX11_type 34 = .ok (.invokevirtual 100, 3) := by decide +kernel
theorem dX11_type_37 : decode cX11_type 37 = .ok (.aload_n 0, 1) := by decide +kernel
theorem dX11_type_38 : decode cX11_type 38 = .ok (.getfield 10, 3) := by decide +kernel
theorem dX11_type_41 : decode cX11_type 41 = .ok (.getfield 96, 3) := by decide +kernel
theorem dX11_type_44 : decode cX11_type 44 = .ok (.ireturn, 1) := by decide +kernel
set_option maxRecDepth 100000 in
theorem ggX11_clear_X9_empty : GoodIn wsX11_clear wsX9_empty := goodIn_r _ [6, 7, 18, 19] rfl (by decide +kernel)
set_option maxRecDepth 100000 in
theorem gX11_clear_X9_empty : GoodIn wsX11_clear (wsV RX11 104 RX9 yX9_empty wsX9_empty) := goodIn_app (goodIn_r ([.methodLink RX11 104 yX9_empty, .instanceMethod yX9_empty, .selects RX9 yX9_empty yX9_empty, .initialized RX9] : List Cond) [2, 3, 4, 5] rfl (by decide +kernel)) ggX11_clear_X9_empty
theorem dX11_clear_0 : decode cX11_clear 0 = .ok (.aload_n 0, 1) := by decide +kernel
theorem dX11_clear_1 : decode cX11_clear 1 = .ok (.getfield 10, 3) := by decide +kernel
theorem dX11_clear_4 : decode cX11_clear 4 = .ok (.invokevirtual 104, 3) := by decide +kernel
theorem dX11_clear_7 : decode cX11_clear 7 = .ok (.ireturn, 1) := by decide +kernel
set_option maxRecDepth 100000 in
theorem ggX11_town_X8_read : GoodIn wsX11_town wsX8_read := goodIn_r _ [12, 13, 14, 15, 16, 17, 18, 19, 20, 21, 22, 23, 24, 25, 26, 27, 28, 11, 29, 30, 31, 32, 33, 34, 35, 36, 37, 38, 39, 40, 41, 42, 43, 44, 45, 46, 47, 48, 49, 50, 51, 52, 53, 54, 55, 56, 57, 58, 59, 60, 61, 62, 63, 64, 65, 66, 67, 68, 69, 70, 71, 72, 73, 74, 75, 76, 77, 78, 79, 80, 81, 82, 83, 84, 85, 86, 87, 88, 89, 90, 91, 92, 153, 154, 155, 156, 157, 158, 159, 160, 161, 162, 163, 164, 165, 166] rfl (by decide +kernel)
set_option maxRecDepth 100000 in
theorem gX11_town_X8_read : GoodIn wsX11_town (wsV RX11 108 RX8 yX8_read wsX8_read) := goodIn_app (goodIn_r ([.methodLink RX11 108 yX8_read, .instanceMethod yX8_read, .selects RX8 yX8_read yX8_read, .initialized RX8] : List Cond) [8, 9, 10, 11] rfl (by decide +kernel)) ggX11_town_X8_read
set_option maxRecDepth 100000 in
theorem ggX11_town_X10_copyFrom : GoodIn wsX11_town wsX10_copyFrom := goodIn_r _ [96, 67, 88, 23, 24, 25, 97, 55, 98, 160, 161, 162, 163, 164] rfl (by decide +kernel)
set_option maxRecDepth 100000 in
theorem gX11_town_X10_copyFrom : GoodIn wsX11_town (wsV RX11 114 RX10 yX10_copyFrom wsX10_copyFrom) := goodIn_app (goodIn_r ([.methodLink RX11 114 yX10_copyFrom, .instanceMethod yX10_copyFrom, .selects RX10 yX10_copyFrom yX10_copyFrom, .initialized RX10] : List Cond) [93, 94, 95, 21] rfl (by decide +kernel)) ggX11_town_X10_copyFrom
set_option maxRecDepth 100000 in
theorem ggX11_town_X3_begin : GoodIn wsX11_town wsX3_begin := goodIn_r _ [103, 104, 105, 106, 107, 108, 109, 110, 111, 21, 112, 67, 54, 55, 56, 113, 114, 115, 102, 116, 117, 118, 167, 168, 169, 170, 171, 172, 173, 174, 160, 161, 162, 163, 164] rfl (by decide +kernel)
set_option maxRecDepth 100000 in
theorem gX11_town_X3_begin : GoodIn wsX11_town (wsV RX11 89 RX3 yX3_begin wsX3_begin) := goodIn_app (goodIn_r ([.methodLink RX11 89 yX3_begin, .instanceMethod yX3_begin, .selects RX3 yX3_begin yX3_begin, .initialized RX3] : List Cond) [99, 100, 101, 102] rfl (by decide +kernel)) ggX11_town_X3_begin
set_option maxRecDepth 100000 in
theorem ggX11_town_X2_empty : GoodIn wsX11_town wsX2_empty := goodIn_r _ [123, 124, 175, 176, 177, 178, 179, 180] rfl (by decide +kernel)
set_option maxRecDepth 100000 in
theorem gX11_town_X2_empty : GoodIn wsX11_town (wsV RX11 117 RX2 yX2_empty wsX2_empty) := goodIn_app (goodIn_r ([.methodLink RX11 117 yX2_empty, .instanceMethod yX2_empty, .selects RX2 yX2_empty yX2_empty, .initialized RX2] : List Cond) [119, 120, 121, 122] rfl (by decide +kernel)) ggX11_town_X2_empty
set_option maxRecDepth 100000 in
theorem ggX11_town_X0_empty : GoodIn wsX11_town wsX0_empty := goodIn_r _ [129, 130, 181, 182, 183, 184] rfl (by decide +kernel)
set_option maxRecDepth 100000 in
theorem gX11_town_X0_empty : GoodIn wsX11_town (wsV RX11 118 RX0 yX0_empty wsX0_empty) := goodIn_app (goodIn_r ([.methodLink RX11 118 yX0_empty, .instanceMethod yX0_empty, .selects RX0 yX0_empty yX0_empty, .initialized RX0] : List Cond) [125, 126, 127, 128] rfl (by decide +kernel)) ggX11_town_X0_empty
set_option maxRecDepth 100000 in
theorem ggX11_town_X6_loseAll : GoodIn wsX11_town wsX6_loseAll := goodIn_r _ [135, 136, 137, 185, 186, 187, 188, 189] rfl (by decide +kernel)
set_option maxRecDepth 100000 in
theorem gX11_town_X6_loseAll : GoodIn wsX11_town (wsV RX11 119 RX6 yX6_loseAll wsX6_loseAll) := goodIn_app (goodIn_r ([.methodLink RX11 119 yX6_loseAll, .instanceMethod yX6_loseAll, .selects RX6 yX6_loseAll yX6_loseAll, .initialized RX6] : List Cond) [131, 132, 133, 134] rfl (by decide +kernel)) ggX11_town_X6_loseAll
set_option maxRecDepth 100000 in
theorem ggX11_town_X9_empty : GoodIn wsX11_town wsX9_empty := goodIn_r _ [141, 142, 165, 166] rfl (by decide +kernel)
set_option maxRecDepth 100000 in
theorem gX11_town_X9_empty : GoodIn wsX11_town (wsV RX11 104 RX9 yX9_empty wsX9_empty) := goodIn_app (goodIn_r ([.methodLink RX11 104 yX9_empty, .instanceMethod yX9_empty, .selects RX9 yX9_empty yX9_empty, .initialized RX9] : List Cond) [138, 139, 140, 34] rfl (by decide +kernel)) ggX11_town_X9_empty
theorem dX11_town_0 : decode cX11_town 0 = .ok (.aload_n 0, 1) := by decide +kernel
theorem dX11_town_1 : decode cX11_town 1 = .ok (.getfield 28, 3) := by decide +kernel
theorem dX11_town_4 : decode cX11_town 4 = .ok (.invokevirtual 108, 3) := by decide +kernel
theorem dX11_town_7 : decode cX11_town 7 = .ok (.istore_n 1, 1) := by decide +kernel
theorem dX11_town_8 : decode cX11_town 8 = .ok (.iload_n 1, 1) := by decide +kernel
theorem dX11_town_9 : decode cX11_town 9 = .ok (.ifCond .ge 5, 3) := by decide +kernel
theorem dX11_town_12 : decode cX11_town 12 = .ok (.iload_n 1, 1) := by decide +kernel
theorem dX11_town_13 : decode cX11_town 13 = .ok (.ireturn, 1) := by decide +kernel
theorem dX11_town_14 : decode cX11_town 14 = .ok (.aload_n 0, 1) := by decide +kernel
theorem dX11_town_15 : decode cX11_town 15 = .ok (.getfield 19, 3) := by decide +kernel
theorem dX11_town_18 : decode cX11_town 18 = .ok (.aload_n 0, 1) := by decide +kernel
theorem dX11_town_19 : decode cX11_town 19 = .ok (.getfield 28, 3) := by decide +kernel
theorem dX11_town_22 : decode cX11_town 22 = .ok (.getfield 111, 3) := by decide +kernel
theorem dX11_town_25 : decode cX11_town 25 = .ok (.invokevirtual 114, 3) := by decide +kernel
theorem dX11_town_28 : decode cX11_town 28 = .ok (.aload_n 0, 1) := by decide +kernel
theorem dX11_town_29 : decode cX11_town 29 = .ok (.getfield 35, 3) := by decide +kernel
theorem dX11_town_32 : decode cX11_town 32 = .ok (.aload_n 0, 1) := by decide +kernel
theorem dX11_town_33 : decode cX11_town 33 = .ok (.getfield 19, 3) := by decide +kernel
theorem dX11_town_36 : decode cX11_town 36 = .ok (.invokevirtual 89, 3) := by decide +kernel
theorem dX11_town_39 : decode cX11_town 39 = .ok (.aload_n 0, 1) := by decide +kernel
theorem dX11_town_40 : decode cX11_town 40 = .ok (.getfield 60, 3) := by decide +kernel
theorem dX11_town_43 : decode cX11_town 43 = .ok (.invokevirtual 117, 3) := by decide +kernel
theorem dX11_town_46 : decode cX11_town 46 = .ok (.pop, 1) := by decide +kernel
theorem dX11_town_47 : decode cX11_town 47 = .ok (.aload_n 0, 1) := by decide +kernel
theorem dX11_town_48 : decode cX11_town 48 = .ok (.getfield 69, 3) := by decide +kernel
theorem dX11_town_51 : decode cX11_town 51 = .ok (.invokevirtual 118, 3) := by decide +kernel
theorem dX11_town_54 : decode cX11_town 54 = .ok (.pop, 1) := by decide +kernel
theorem dX11_town_55 : decode cX11_town 55 = .ok (.aload_n 0, 1) := by decide +kernel
theorem dX11_town_56 : decode cX11_town 56 = .ok (.getfield 76, 3) := by decide +kernel
theorem dX11_town_59 : decode cX11_town 59 = .ok (.invokevirtual 119, 3) := by decide +kernel
theorem dX11_town_62 : decode cX11_town 62 = .ok (.aload_n 0, 1) := by decide +kernel
theorem dX11_town_63 : decode cX11_town 63 = .ok (.getfield 10, 3) := by decide +kernel
theorem dX11_town_66 : decode cX11_town 66 = .ok (.invokevirtual 104, 3) := by decide +kernel
theorem dX11_town_69 : decode cX11_town 69 = .ok (.pop, 1) := by decide +kernel
theorem dX11_town_70 : decode cX11_town 70 = .ok (.iload_n 1, 1) := by decide +kernel
theorem dX11_town_71 : decode cX11_town 71 = .ok (.ireturn, 1) := by decide +kernel
set_option maxRecDepth 100000 in
theorem ggX11_bidder_X11_isBidder : GoodIn wsX11_bidder wsX11_isBidder := goodIn_r _ [7, 2, 8, 9, 6, 10, 25, 26, 27, 28, 29, 30, 31, 32, 33, 34, 35, 36, 37, 38, 39] rfl (by decide +kernel)
set_option maxRecDepth 100000 in
theorem gX11_bidder_X11_isBidder : GoodIn wsX11_bidder (wsV RX11 122 RX11 yX11_isBidder wsX11_isBidder) := goodIn_app (goodIn_r ([.methodLink RX11 122 yX11_isBidder, .instanceMethod yX11_isBidder, .selects RX11 yX11_isBidder yX11_isBidder, .initialized RX11] : List Cond) [3, 4, 5, 6] rfl (by decide +kernel)) ggX11_bidder_X11_isBidder
set_option maxRecDepth 100000 in
theorem ggX11_bidder_X11_within : GoodIn wsX11_bidder wsX11_within := goodIn_r _ [10] rfl (by decide +kernel)
set_option maxRecDepth 100000 in
theorem gX11_bidder_X11_within : GoodIn wsX11_bidder (va_wsS RX11 92 yX11_within wsX11_within) := goodIn_app (goodIn_r ([.methodLink RX11 92 yX11_within, .static yX11_within, .initialized RX11] : List Cond) [8, 9, 6] rfl (by decide +kernel)) ggX11_bidder_X11_within
set_option maxRecDepth 100000 in
theorem ggX11_bidder_X3_purse : GoodIn wsX11_bidder wsX3_purse := goodIn_r _ [15, 16, 17, 6, 18, 40, 41, 42, 43, 44, 45, 46, 47] rfl (by decide +kernel)
set_option maxRecDepth 100000 in
theorem gX11_bidder_X3_purse : GoodIn wsX11_bidder (wsV RX11 126 RX3 yX3_purse wsX3_purse) := goodIn_app (goodIn_r ([.methodLink RX11 126 yX3_purse, .instanceMethod yX3_purse, .selects RX3 yX3_purse yX3_purse, .initialized RX3] : List Cond) [11, 12, 13, 14] rfl (by decide +kernel)) ggX11_bidder_X3_purse
set_option maxRecDepth 100000 in
theorem ggX11_bidder_X10_ofBidder : GoodIn wsX11_bidder wsX10_ofBidder := goodIn_r _ [23, 24, 17, 6, 18, 35, 36, 37, 38, 39] rfl (by decide +kernel)
set_option maxRecDepth 100000 in
theorem gX11_bidder_X10_ofBidder : GoodIn wsX11_bidder (wsV RX11 130 RX10 yX10_ofBidder wsX10_ofBidder) := goodIn_app (goodIn_r ([.methodLink RX11 130 yX10_ofBidder, .instanceMethod yX10_ofBidder, .selects RX10 yX10_ofBidder yX10_ofBidder, .initialized RX10] : List Cond) [19, 20, 21, 22] rfl (by decide +kernel)) ggX11_bidder_X10_ofBidder
theorem dX11_bidder_0 : decode cX11_bidder 0 = .ok (.aload_n 0, 1) := by decide +kernel
theorem dX11_bidder_1 : decode cX11_bidder 1 = .ok (.iload_n 1, 1) := by decide +kernel
theorem dX11_bidder_2 : decode cX11_bidder 2 = .ok (.invokevirtual 122, 3) := by decide +kernel
theorem dX11_bidder_5 : decode cX11_bidder 5 = .ok (.ifCond .eq 13, 3) := by decide +kernel
theorem dX11_bidder_8 : decode cX11_bidder 8 = .ok (.iload_n 2, 1) := by decide +kernel
theorem dX11_bidder_9 : decode cX11_bidder 9 = .ok (.iconst 0, 1) := by decide +kernel
theorem dX11_bidder_10 : decode cX11_bidder 10 = .ok (.bipush 6, 2) := by decide +kernel
theorem dX11_bidder_12 : decode cX11_bidder 12 = .ok (.invokestatic 92, 3) := by decide +kernel
theorem dX11_bidder_15 : decode cX11_bidder 15 = .ok (.ifCond .ne 5, 3) := by decide +kernel
theorem dX11_bidder_18 : decode cX11_bidder 18 = .ok (.iconst (-1), 1) := by decide +kernel
theorem dX11_bidder_19 : decode cX11_bidder 19 = .ok (.ireturn, 1) := by decide +kernel
theorem dX11_bidder_20 : decode cX11_bidder 20 = .ok (.iload_n 2, 1) := by decide +kernel
theorem dX11_bidder_21 : decode cX11_bidder 21 = .ok (.ifCond .ne 14, 3) := by decide +kernel
theorem dX11_bidder_24 : decode cX11_bidder 24 = .ok (.aload_n 0, 1) := by decide +kernel
theorem dX11_bidder_25 : decode cX11_bidder 25 = .ok (.getfield 35, 3) := by decide +kernel
theorem dX11_bidder_28 : decode cX11_bidder 28 = .ok (.iload_n 1, 1) := by decide +kernel
theorem dX11_bidder_29 : decode cX11_bidder 29 = .ok (.invokevirtual 126, 3) := by decide +kernel
theorem dX11_bidder_32 : decode cX11_bidder 32 = .ok (.goto 12, 3) := by decide +kernel
theorem dX11_bidder_35 : decode cX11_bidder 35 = .ok (.aload_n 0, 1) := by decide +kernel
theorem dX11_bidder_36 : decode cX11_bidder 36 = .ok (.getfield 19, 3) := by decide +kernel
theorem dX11_bidder_39 : decode cX11_bidder 39 = .ok (.iload_n 1, 1) := by decide +kernel
theorem dX11_bidder_40 : decode cX11_bidder 40 = .ok (.iload_n 2, 1) := by decide +kernel
theorem dX11_bidder_41 : decode cX11_bidder 41 = .ok (.invokevirtual 130, 3) := by decide +kernel
theorem dX11_bidder_44 : decode cX11_bidder 44 = .ok (.ireturn, 1) := by decide +kernel
set_option maxRecDepth 100000 in
theorem ggX11_debt_X11_isDebt : GoodIn wsX11_debt wsX11_isDebt := goodIn_r _ [7, 2, 8, 9, 6, 10, 25, 26, 27, 28, 29, 30, 31, 32, 33, 34, 35, 36, 37, 38, 39] rfl (by decide +kernel)
set_option maxRecDepth 100000 in
theorem gX11_debt_X11_isDebt : GoodIn wsX11_debt (wsV RX11 134 RX11 yX11_isDebt wsX11_isDebt) := goodIn_app (goodIn_r ([.methodLink RX11 134 yX11_isDebt, .instanceMethod yX11_isDebt, .selects RX11 yX11_isDebt yX11_isDebt, .initialized RX11] : List Cond) [3, 4, 5, 6] rfl (by decide +kernel)) ggX11_debt_X11_isDebt
set_option maxRecDepth 100000 in
theorem ggX11_debt_X11_within : GoodIn wsX11_debt wsX11_within := goodIn_r _ [10] rfl (by decide +kernel)
set_option maxRecDepth 100000 in
theorem gX11_debt_X11_within : GoodIn wsX11_debt (va_wsS RX11 92 yX11_within wsX11_within) := goodIn_app (goodIn_r ([.methodLink RX11 92 yX11_within, .static yX11_within, .initialized RX11] : List Cond) [8, 9, 6] rfl (by decide +kernel)) ggX11_debt_X11_within
set_option maxRecDepth 100000 in
theorem ggX11_debt_X3_howIs : GoodIn wsX11_debt wsX3_howIs := goodIn_r _ [15, 16, 17, 6, 18, 40, 41, 42, 43, 44, 45, 46, 47] rfl (by decide +kernel)
set_option maxRecDepth 100000 in
theorem gX11_debt_X3_howIs : GoodIn wsX11_debt (wsV RX11 137 RX3 yX3_howIs wsX3_howIs) := goodIn_app (goodIn_r ([.methodLink RX11 137 yX3_howIs, .instanceMethod yX3_howIs, .selects RX3 yX3_howIs yX3_howIs, .initialized RX3] : List Cond) [11, 12, 13, 14] rfl (by decide +kernel)) ggX11_debt_X3_howIs
set_option maxRecDepth 100000 in
theorem ggX11_debt_X10_ofDebt : GoodIn wsX11_debt wsX10_ofDebt := goodIn_r _ [23, 24, 17, 6, 18, 35, 36, 37, 38, 39] rfl (by decide +kernel)
set_option maxRecDepth 100000 in
theorem gX11_debt_X10_ofDebt : GoodIn wsX11_debt (wsV RX11 140 RX10 yX10_ofDebt wsX10_ofDebt) := goodIn_app (goodIn_r ([.methodLink RX11 140 yX10_ofDebt, .instanceMethod yX10_ofDebt, .selects RX10 yX10_ofDebt yX10_ofDebt, .initialized RX10] : List Cond) [19, 20, 21, 22] rfl (by decide +kernel)) ggX11_debt_X10_ofDebt
theorem dX11_debt_0 : decode cX11_debt 0 = .ok (.aload_n 0, 1) := by decide +kernel
theorem dX11_debt_1 : decode cX11_debt 1 = .ok (.iload_n 1, 1) := by decide +kernel
theorem dX11_debt_2 : decode cX11_debt 2 = .ok (.invokevirtual 134, 3) := by decide +kernel
theorem dX11_debt_5 : decode cX11_debt 5 = .ok (.ifCond .eq 12, 3) := by decide +kernel
theorem dX11_debt_8 : decode cX11_debt 8 = .ok (.iload_n 2, 1) := by decide +kernel
theorem dX11_debt_9 : decode cX11_debt 9 = .ok (.iconst 0, 1) := by decide +kernel
theorem dX11_debt_10 : decode cX11_debt 10 = .ok (.iconst 5, 1) := by decide +kernel
theorem dX11_debt_11 : decode cX11_debt 11 = .ok (.invokestatic 92, 3) := by decide +kernel
theorem dX11_debt_14 : decode cX11_debt 14 = .ok (.ifCond .ne 5, 3) := by decide +kernel
theorem dX11_debt_17 : decode cX11_debt 17 = .ok (.iconst (-1), 1) := by decide +kernel
theorem dX11_debt_18 : decode cX11_debt 18 = .ok (.ireturn, 1) := by decide +kernel
theorem dX11_debt_19 : decode cX11_debt 19 = .ok (.iload_n 2, 1) := by decide +kernel
theorem dX11_debt_20 : decode cX11_debt 20 = .ok (.iconst 5, 1) := by decide +kernel
theorem dX11_debt_21 : decode cX11_debt 21 = .ok (.if_icmp .ne 14, 3) := by decide +kernel
theorem dX11_debt_24 : decode cX11_debt 24 = .ok (.aload_n 0, 1) := by decide +kernel
theorem dX11_debt_25 : decode cX11_debt 25 = .ok (.getfield 35, 3) := by decide +kernel
theorem dX11_debt_28 : decode cX11_debt 28 = .ok (.iload_n 1, 1) := by decide +kernel
theorem dX11_debt_29 : decode cX11_debt 29 = .ok (.invokevirtual 137, 3) := by decide +kernel
theorem dX11_debt_32 : decode cX11_debt 32 = .ok (.goto 12, 3) := by decide +kernel
theorem dX11_debt_35 : decode cX11_debt 35 = .ok (.aload_n 0, 1) := by decide +kernel
theorem dX11_debt_36 : decode cX11_debt 36 = .ok (.getfield 19, 3) := by decide +kernel
theorem dX11_debt_39 : decode cX11_debt 39 = .ok (.iload_n 1, 1) := by decide +kernel
theorem dX11_debt_40 : decode cX11_debt 40 = .ok (.iload_n 2, 1) := by decide +kernel
theorem dX11_debt_41 : decode cX11_debt 41 = .ok (.invokevirtual 140, 3) := by decide +kernel
theorem dX11_debt_44 : decode cX11_debt 44 = .ok (.ireturn, 1) := by decide +kernel
set_option maxRecDepth 100000 in
theorem ggX11_day_X11_within : GoodIn wsX11_day wsX11_within := goodIn_r _ [5] rfl (by decide +kernel)
set_option maxRecDepth 100000 in
theorem gX11_day_X11_within : GoodIn wsX11_day (va_wsS RX11 92 yX11_within wsX11_within) := goodIn_app (goodIn_r ([.methodLink RX11 92 yX11_within, .static yX11_within, .initialized RX11] : List Cond) [2, 3, 4] rfl (by decide +kernel)) ggX11_day_X11_within
set_option maxRecDepth 100000 in
theorem ggX11_day_X3_nameOfDay : GoodIn wsX11_day wsX3_nameOfDay := goodIn_r _ [10, 11, 12, 4, 13, 24, 25, 26, 27, 28, 29, 30, 31] rfl (by decide +kernel)
set_option maxRecDepth 100000 in
theorem gX11_day_X3_nameOfDay : GoodIn wsX11_day (wsV RX11 146 RX3 yX3_nameOfDay wsX3_nameOfDay) := goodIn_app (goodIn_r ([.methodLink RX11 146 yX3_nameOfDay, .instanceMethod yX3_nameOfDay, .selects RX3 yX3_nameOfDay yX3_nameOfDay, .initialized RX3] : List Cond) [6, 7, 8, 9] rfl (by decide +kernel)) ggX11_day_X3_nameOfDay
theorem dX11_day_0 : decode cX11_day 0 = .ok (.iload_n 1, 1) := by decide +kernel
theorem dX11_day_1 : decode cX11_day 1 = .ok (.iconst 1, 1) := by decide +kernel
theorem dX11_day_2 : decode cX11_day 2 = .ok (.aload_n 0, 1) := by decide +kernel
theorem dX11_day_3 : decode cX11_day 3 = .ok (.getfield 35, 3) := by decide +kernel
theorem dX11_day_6 : decode cX11_day 6 = .ok (.getfield 143, 3) := by decide +kernel
theorem dX11_day_9 : decode cX11_day 9 = .ok (.invokestatic 92, 3) := by decide +kernel
theorem dX11_day_12 : decode cX11_day 12 = .ok (.ifCond .eq 14, 3) := by decide +kernel
theorem dX11_day_15 : decode cX11_day 15 = .ok (.aload_n 0, 1) := by decide +kernel
theorem dX11_day_16 : decode cX11_day 16 = .ok (.getfield 35, 3) := by decide +kernel
theorem dX11_day_19 : decode cX11_day 19 = .ok (.iload_n 1, 1) := by decide +kernel
theorem dX11_day_20 : decode cX11_day 20 = .ok (.invokevirtual 146, 3) := by decide +kernel
theorem dX11_day_23 : decode cX11_day 23 = .ok (.goto 4, 3) := by decide +kernel
theorem dX11_day_26 : decode cX11_day 26 = .ok (.iconst (-1), 1) := by decide +kernel
theorem dX11_day_27 : decode cX11_day 27 = .ok (.ireturn, 1) := by decide +kernel
set_option maxRecDepth 100000 in
theorem ggX11_name_X11_isName : GoodIn wsX11_name wsX11_isName := goodIn_r _ [6, 7, 8, 5, 9] rfl (by decide +kernel)
set_option maxRecDepth 100000 in
theorem gX11_name_X11_isName : GoodIn wsX11_name (va_wsS RX11 149 yX11_isName wsX11_isName) := goodIn_app (goodIn_r ([.methodLink RX11 149 yX11_isName, .static yX11_isName, .initialized RX11] : List Cond) [3, 4, 5] rfl (by decide +kernel)) ggX11_name_X11_isName
set_option maxRecDepth 100000 in
theorem ggX11_name_X3_daysCalled : GoodIn wsX11_name wsX3_daysCalled := goodIn_r _ [14, 15, 16, 17, 18, 13, 19, 20, 21, 5, 22, 46, 47, 48, 49, 50, 51, 52, 53] rfl (by decide +kernel)
set_option maxRecDepth 100000 in
theorem gX11_name_X3_daysCalled : GoodIn wsX11_name (wsV RX11 152 RX3 yX3_daysCalled wsX3_daysCalled) := goodIn_app (goodIn_r ([.methodLink RX11 152 yX3_daysCalled, .instanceMethod yX3_daysCalled, .selects RX3 yX3_daysCalled yX3_daysCalled, .initialized RX3] : List Cond) [10, 11, 12, 13] rfl (by decide +kernel)) ggX11_name_X3_daysCalled
set_option maxRecDepth 100000 in
theorem ggX11_name_X3_latestCalled : GoodIn wsX11_name wsX3_latestCalled := goodIn_r _ [26, 15, 16, 17, 18, 13, 19, 20, 21, 5, 22, 46, 47, 48, 49, 50, 51, 52, 53] rfl (by decide +kernel)
set_option maxRecDepth 100000 in
theorem gX11_name_X3_latestCalled : GoodIn wsX11_name (wsV RX11 155 RX3 yX3_latestCalled wsX3_latestCalled) := goodIn_app (goodIn_r ([.methodLink RX11 155 yX3_latestCalled, .instanceMethod yX3_latestCalled, .selects RX3 yX3_latestCalled yX3_latestCalled, .initialized RX3] : List Cond) [23, 24, 25, 13] rfl (by decide +kernel)) ggX11_name_X3_latestCalled
set_option maxRecDepth 100000 in
theorem ggX11_name_X3_isBarred : GoodIn wsX11_name wsX3_isBarred := goodIn_r _ [30, 15, 20, 21, 5, 22, 46, 47, 48, 49, 50, 51, 52, 53] rfl (by decide +kernel)
set_option maxRecDepth 100000 in
theorem gX11_name_X3_isBarred : GoodIn wsX11_name (wsV RX11 161 RX3 yX3_isBarred wsX3_isBarred) := goodIn_app (goodIn_r ([.methodLink RX11 161 yX3_isBarred, .instanceMethod yX3_isBarred, .selects RX3 yX3_isBarred yX3_isBarred, .initialized RX3] : List Cond) [27, 28, 29, 13] rfl (by decide +kernel)) ggX11_name_X3_isBarred
theorem dX11_name_0 : decode cX11_name 0 = .ok (.iload_n 1, 1) := by decide +kernel
theorem dX11_name_1 : decode cX11_name 1 = .ok (.invokestatic 149, 3) := by decide +kernel
theorem dX11_name_4 : decode cX11_name 4 = .ok (.ifCond .ne 5, 3) := by decide +kernel
theorem dX11_name_7 : decode cX11_name 7 = .ok (.iconst (-1), 1) := by decide +kernel
theorem dX11_name_8 : decode cX11_name 8 = .ok (.ireturn, 1) := by decide +kernel
theorem dX11_name_9 : decode cX11_name 9 = .ok (.iload_n 2, 1) := by decide +kernel
theorem dX11_name_10 : decode cX11_name 10 = .ok (.tableswitch 68 0 2 #[26, 35, 44], 26) := by decide +kernel
theorem dX11_name_36 : decode cX11_name 36 = .ok (.aload_n 0, 1) := by decide +kernel
theorem dX11_name_37 : decode cX11_name 37 = .ok (.getfield 35, 3) := by decide +kernel
theorem dX11_name_40 : decode cX11_name 40 = .ok (.iload_n 1, 1) := by decide +kernel
theorem dX11_name_41 : decode cX11_name 41 = .ok (.invokevirtual 152, 3) := by decide +kernel
theorem dX11_name_44 : decode cX11_name 44 = .ok (.ireturn, 1) := by decide +kernel
theorem dX11_name_45 : decode cX11_name 45 = .ok (.aload_n 0, 1) := by decide +kernel
theorem dX11_name_46 : decode cX11_name 46 = .ok (.getfield 35, 3) := by decide +kernel
theorem dX11_name_49 : decode cX11_name 49 = .ok (.iload_n 1, 1) := by decide +kernel
theorem dX11_name_50 : decode cX11_name 50 = .ok (.invokevirtual 155, 3) := by decide +kernel
theorem dX11_name_53 : decode cX11_name 53 = .ok (.ireturn, 1) := by decide +kernel
theorem dX11_name_54 : decode cX11_name 54 = .ok (.aload_n 0, 1) := by decide +kernel
theorem dX11_name_55 : decode cX11_name 55 = .ok (.getfield 35, 3) := by decide +kernel
theorem dX11_name_58 : decode cX11_name 58 = .ok (.iload_n 1, 1) := by decide +kernel
theorem dX11_name_59 : decode cX11_name 59 = .ok (.aload_n 0, 1) := by decide +kernel
theorem dX11_name_60 : decode cX11_name 60 = .ok (.getfield 19, 3) := by decide +kernel
theorem dX11_name_63 : decode cX11_name 63 = .ok (.getfield 158, 3) := by decide +kernel
theorem dX11_name_66 : decode cX11_name 66 = .ok (.invokevirtual 161, 3) := by decide +kernel
theorem dX11_name_69 : decode cX11_name 69 = .ok (.ifCond .eq 7, 3) := by decide +kernel
theorem dX11_name_72 : decode cX11_name 72 = .ok (.iconst 1, 1) := by decide +kernel
theorem dX11_name_73 : decode cX11_name 73 = .ok (.goto 4, 3) := by decide +kernel
theorem dX11_name_76 : decode cX11_name 76 = .ok (.iconst 0, 1) := by decide +kernel
theorem dX11_name_77 : decode cX11_name 77 = .ok (.ireturn, 1) := by decide +kernel
theorem dX11_name_78 : decode cX11_name 78 = .ok (.iconst (-1), 1) := by decide +kernel
theorem dX11_name_79 : decode cX11_name 79 = .ok (.ireturn, 1) := by decide +kernel
set_option maxRecDepth 100000 in
theorem ggX11_now_X3_defaults : GoodIn wsX11_now wsX3_defaults := goodIn_r _ [7, 8, 47, 48, 49, 50, 51, 52, 53, 54] rfl (by decide +kernel)
set_option maxRecDepth 100000 in
theorem gX11_now_X3_defaults : GoodIn wsX11_now (wsV RX11 171 RX3 yX3_defaults wsX3_defaults) := goodIn_app (goodIn_r ([.methodLink RX11 171 yX3_defaults, .instanceMethod yX3_defaults, .selects RX3 yX3_defaults yX3_defaults, .initialized RX3] : List Cond) [3, 4, 5, 6] rfl (by decide +kernel)) ggX11_now_X3_defaults
set_option maxRecDepth 100000 in
theorem ggX11_now_X11_neverDue : GoodIn wsX11_now wsX11_neverDue := goodIn_r _ [13, 14, 1, 15, 16, 17, 6, 18, 8, 19, 12, 20, 21, 22, 23, 24, 25, 26, 27, 28, 29, 30, 31, 32, 33, 34, 35, 36, 37, 38, 39, 40, 41, 42, 43, 44, 45, 46, 60, 61, 62, 63, 64, 47, 48, 49, 50, 51, 52, 53, 54] rfl (by decide +kernel)
set_option maxRecDepth 100000 in
theorem gX11_now_X11_neverDue : GoodIn wsX11_now (wsV RX11 174 RX11 yX11_neverDue wsX11_neverDue) := goodIn_app (goodIn_r ([.methodLink RX11 174 yX11_neverDue, .instanceMethod yX11_neverDue, .selects RX11 yX11_neverDue yX11_neverDue, .initialized RX11] : List Cond) [9, 10, 11, 12] rfl (by decide +kernel)) ggX11_now_X11_neverDue
theorem dX11_now_0 : decode cX11_now 0 = .ok (.iload_n 1, 1) := by decide +kernel
theorem dX11_now_1 : decode cX11_now 1 = .ok (.tableswitch 84 0 5 #[39, 47, 55, 63, 71, 76], 39) := by decide +kernel
theorem dX11_now_40 : decode cX11_now 40 = .ok (.aload_n 0, 1) := by decide +kernel
theorem dX11_now_41 : decode cX11_now 41 = .ok (.getfield 35, 3) := by decide +kernel
theorem dX11_now_44 : decode cX11_now 44 = .ok (.getfield 143, 3) := by decide +kernel
theorem dX11_now_47 : decode cX11_now 47 = .ok (.ireturn, 1) := by decide +kernel
theorem dX11_now_48 : decode cX11_now 48 = .ok (.aload_n 0, 1) := by decide +kernel
theorem dX11_now_49 : decode cX11_now 49 = .ok (.getfield 35, 3) := by decide +kernel
theorem dX11_now_52 : decode cX11_now 52 = .ok (.getfield 165, 3) := by decide +kernel
theorem dX11_now_55 : decode cX11_now 55 = .ok (.ireturn, 1) := by decide +kernel
theorem dX11_now_56 : decode cX11_now 56 = .ok (.aload_n 0, 1) := by decide +kernel
theorem dX11_now_57 : decode cX11_now 57 = .ok (.getfield 35, 3) := by decide +kernel
theorem dX11_now_60 : decode cX11_now 60 = .ok (.getfield 168, 3) := by decide +kernel
theorem dX11_now_63 : decode cX11_now 63 = .ok (.ireturn, 1) := by decide +kernel
theorem dX11_now_64 : decode cX11_now 64 = .ok (.aload_n 0, 1) := by decide +kernel
theorem dX11_now_65 : decode cX11_now 65 = .ok (.getfield 35, 3) := by decide +kernel
theorem dX11_now_68 : decode cX11_now 68 = .ok (.invokevirtual 171, 3) := by decide +kernel
theorem dX11_now_71 : decode cX11_now 71 = .ok (.ireturn, 1) := by decide +kernel
theorem dX11_now_72 : decode cX11_now 72 = .ok (.aload_n 0, 1) := by decide +kernel
theorem dX11_now_73 : decode cX11_now 73 = .ok (.invokevirtual 174, 3) := by decide +kernel
theorem dX11_now_76 : decode cX11_now 76 = .ok (.ireturn, 1) := by decide +kernel
theorem dX11_now_77 : decode cX11_now 77 = .ok (.aload_n 0, 1) := by decide +kernel
theorem dX11_now_78 : decode cX11_now 78 = .ok (.getfield 76, 3) := by decide +kernel
theorem dX11_now_81 : decode cX11_now 81 = .ok (.getfield 177, 3) := by decide +kernel
theorem dX11_now_84 : decode cX11_now 84 = .ok (.ireturn, 1) := by decide +kernel
theorem dX11_now_85 : decode cX11_now 85 = .ok (.iconst (-1), 1) := by decide +kernel
theorem dX11_now_86 : decode cX11_now 86 = .ok (.ireturn, 1) := by decide +kernel
set_option maxRecDepth 100000 in
theorem ggX11_night_X6_remember : GoodIn wsX11_night wsX6_remember := goodIn_r _ [8, 9, 10, 11, 12, 13, 14, 15, 16, 17, 7, 18, 19, 20, 21, 22, 23, 24, 25, 26, 27, 28, 29, 30, 31, 32, 33, 34, 172, 173, 174, 175, 176, 164, 165, 166, 167, 168, 169, 170, 171] rfl (by decide +kernel)
set_option maxRecDepth 100000 in
theorem gX11_night_X6_remember : GoodIn wsX11_night (wsV RX11 180 RX6 yX6_remember wsX6_remember) := goodIn_app (goodIn_r ([.methodLink RX11 180 yX6_remember, .instanceMethod yX6_remember, .selects RX6 yX6_remember yX6_remember, .initialized RX6] : List Cond) [4, 5, 6, 7] rfl (by decide +kernel)) ggX11_night_X6_remember
set_option maxRecDepth 100000 in
theorem ggX11_night_X4_open : GoodIn wsX11_night wsX4_open := goodIn_r _ [39, 40, 41, 42, 43, 44, 45, 46, 47, 48, 49, 50, 51, 52, 53, 54, 55, 56, 57, 58, 33, 59, 60, 61, 62, 22, 63, 25, 64, 65, 66, 67, 27, 24, 68, 69, 70, 71, 72, 73, 74, 177, 178, 179, 180, 181, 182, 183, 184, 185, 186, 187, 164, 165, 166, 167, 168, 169, 170, 171] rfl (by decide +kernel)
set_option maxRecDepth 100000 in
theorem gX11_night_X4_open : GoodIn wsX11_night (wsV RX11 184 RX4 yX4_open wsX4_open) := goodIn_app (goodIn_r ([.methodLink RX11 184 yX4_open, .instanceMethod yX4_open, .selects RX4 yX4_open yX4_open, .initialized RX4] : List Cond) [35, 36, 37, 38] rfl (by decide +kernel)) ggX11_night_X4_open
set_option maxRecDepth 100000 in
theorem ggX11_night_X4_bidOwn : GoodIn wsX11_night wsX4_bidOwn := goodIn_r _ [78, 41, 40, 79, 33, 80, 81, 82, 83, 84, 65, 66, 22, 67, 27, 24, 58, 59, 85, 69, 70, 45, 71, 72, 47, 73, 74, 177, 178, 179, 180, 183, 184, 185, 186, 187, 164, 165, 166, 167, 168, 169, 170, 171, 181, 182] rfl (by decide +kernel)
set_option maxRecDepth 100000 in
theorem gX11_night_X4_bidOwn : GoodIn wsX11_night (wsV RX11 193 RX4 yX4_bidOwn wsX4_bidOwn) := goodIn_app (goodIn_r ([.methodLink RX11 193 yX4_bidOwn, .instanceMethod yX4_bidOwn, .selects RX4 yX4_bidOwn yX4_bidOwn, .initialized RX4] : List Cond) [75, 76, 77, 38] rfl (by decide +kernel)) ggX11_night_X4_bidOwn
set_option maxRecDepth 100000 in
theorem ggX11_night_X3_dropOwn : GoodIn wsX11_night wsX3_dropOwn := goodIn_r _ [89, 30, 31, 164, 165, 166, 167, 168, 169, 170, 171] rfl (by decide +kernel)
set_option maxRecDepth 100000 in
theorem gX11_night_X3_dropOwn : GoodIn wsX11_night (wsV RX11 197 RX3 yX3_dropOwn wsX3_dropOwn) := goodIn_app (goodIn_r ([.methodLink RX11 197 yX3_dropOwn, .instanceMethod yX3_dropOwn, .selects RX3 yX3_dropOwn yX3_dropOwn, .initialized RX3] : List Cond) [86, 87, 88, 22] rfl (by decide +kernel)) ggX11_night_X3_dropOwn
set_option maxRecDepth 100000 in
theorem ggX11_night_X4_close : GoodIn wsX11_night wsX4_close := goodIn_r _ [93, 40, 94, 95, 96, 97, 98, 45, 99, 47, 100, 101, 102, 103, 104, 105, 14, 106, 107, 13, 15, 58, 33, 59, 108, 109, 110, 22, 111, 25, 73, 74, 112, 113, 114, 115, 72, 116, 117, 118, 38, 119, 41, 120, 121, 122, 123, 24, 27, 124, 125, 126, 55, 127, 57, 128, 129, 130, 131, 132, 133, 134, 135, 136, 137, 138, 139, 140, 141, 142, 143, 144, 26, 145, 146, 147, 148, 149, 61, 62, 63, 150, 151, 152, 153, 177, 178, 179, 180, 164, 165, 166, 167, 168, 169, 170, 171, 181, 182, 183, 184, 185, 186, 187] rfl (by decide +kernel)
set_option maxRecDepth 100000 in
theorem gX11_night_X4_close : GoodIn wsX11_night (wsV RX11 200 RX4 yX4_close wsX4_close) := goodIn_app (goodIn_r ([.methodLink RX11 200 yX4_close, .instanceMethod yX4_close, .selects RX4 yX4_close yX4_close, .initialized RX4] : List Cond) [90, 91, 92, 38] rfl (by decide +kernel)) ggX11_night_X4_close
theorem dX11_night_0 : decode cX11_night 0 = .ok (.aload_n 0, 1) := by decide +kernel
theorem dX11_night_1 : decode cX11_night 1 = .ok (.getfield 35, 3) := by decide +kernel
theorem dX11_night_4 : decode cX11_night 4 = .ok (.getfield 143, 3) := by decide +kernel
theorem dX11_night_7 : decode cX11_night 7 = .ok (.bipush 60, 2) := by decide +kernel
theorem dX11_night_9 : decode cX11_night 9 = .ok (.if_icmp .ge 15, 3) := by decide +kernel
theorem dX11_night_12 : decode cX11_night 12 = .ok (.aload_n 0, 1) := by decide +kernel
theorem dX11_night_13 : decode cX11_night 13 = .ok (.getfield 35, 3) := by decide +kernel
theorem dX11_night_16 : decode cX11_night 16 = .ok (.getfield 165, 3) := by decide +kernel
theorem dX11_night_19 : decode cX11_night 19 = .ok (.bipush 99, 2) := by decide +kernel
theorem dX11_night_21 : decode cX11_night 21 = .ok (.if_icmp .lt 6, 3) := by decide +kernel
theorem dX11_night_24 : decode cX11_night 24 = .ok (.bipush (-2), 2) := by decide +kernel
theorem dX11_night_26 : decode cX11_night 26 = .ok (.ireturn, 1) := by decide +kernel
theorem dX11_night_27 : decode cX11_night 27 = .ok (.aload_n 0, 1) := by decide +kernel
theorem dX11_night_28 : decode cX11_night 28 = .ok (.getfield 76, 3) := by decide +kernel
theorem dX11_night_31 : decode cX11_night 31 = .ok (.aload_n 0, 1) := by decide +kernel
theorem dX11_night_32 : decode cX11_night 32 = .ok (.getfield 35, 3) := by decide +kernel
theorem dX11_night_35 : decode cX11_night 35 = .ok (.invokevirtual 180, 3) := by decide +kernel
theorem dX11_night_38 : decode cX11_night 38 = .ok (.aload_n 0, 1) := by decide +kernel
theorem dX11_night_39 : decode cX11_night 39 = .ok (.getfield 44, 3) := by decide +kernel
theorem dX11_night_42 : decode cX11_night 42 = .ok (.aload_n 0, 1) := by decide +kernel
theorem dX11_night_43 : decode cX11_night 43 = .ok (.getfield 35, 3) := by decide +kernel
theorem dX11_night_46 : decode cX11_night 46 = .ok (.invokevirtual 184, 3) := by decide +kernel
theorem dX11_night_49 : decode cX11_night 49 = .ok (.aload_n 0, 1) := by decide +kernel
theorem dX11_night_50 : decode cX11_night 50 = .ok (.getfield 44, 3) := by decide +kernel
theorem dX11_night_53 : decode cX11_night 53 = .ok (.aload_n 0, 1) := by decide +kernel
theorem dX11_night_54 : decode cX11_night 54 = .ok (.getfield 35, 3) := by decide +kernel
theorem dX11_night_57 : decode cX11_night 57 = .ok (.aload_n 0, 1) := by decide +kernel
theorem dX11_night_58 : decode cX11_night 58 = .ok (.getfield 35, 3) := by decide +kernel
theorem dX11_night_61 : decode cX11_night 61 = .ok (.getfield 187, 3) := by decide +kernel
theorem dX11_night_64 : decode cX11_night 64 = .ok (.aload_n 0, 1) := by decide +kernel
theorem dX11_night_65 : decode cX11_night 65 = .ok (.getfield 35, 3) := by decide +kernel
theorem dX11_night_68 : decode cX11_night 68 = .ok (.getfield 190, 3) := by decide +kernel
theorem dX11_night_71 : decode cX11_night 71 = .ok (.invokevirtual 193, 3) := by decide +kernel
theorem dX11_night_74 : decode cX11_night 74 = .ok (.aload_n 0, 1) := by decide +kernel
theorem dX11_night_75 : decode cX11_night 75 = .ok (.getfield 35, 3) := by decide +kernel
theorem dX11_night_78 : decode cX11_night 78 = .ok (.invokevirtual 197, 3) := by decide +kernel
theorem dX11_night_81 : decode cX11_night 81 = .ok (.aload_n 0, 1) := by decide +kernel
theorem dX11_night_82 : decode cX11_night 82 = .ok (.getfield 44, 3) := by decide +kernel
theorem dX11_night_85 : decode cX11_night 85 = .ok (.aload_n 0, 1) := by decide +kernel
theorem dX11_night_86 : decode cX11_night 86 = .ok (.getfield 35, 3) := by decide +kernel
theorem dX11_night_89 : decode cX11_night 89 = .ok (.invokevirtual 200, 3) := by decide +kernel
theorem dX11_night_92 : decode cX11_night 92 = .ok (.ireturn, 1) := by decide +kernel
set_option maxRecDepth 100000 in
theorem ggX11_bids_X11_isName : GoodIn wsX11_bids wsX11_isName := goodIn_r _ [6, 7, 8, 5, 9] rfl (by decide +kernel)
set_option maxRecDepth 100000 in
theorem gX11_bids_X11_isName : GoodIn wsX11_bids (va_wsS RX11 149 yX11_isName wsX11_isName) := goodIn_app (goodIn_r ([.methodLink RX11 149 yX11_isName, .static yX11_isName, .initialized RX11] : List Cond) [3, 4, 5] rfl (by decide +kernel)) ggX11_bids_X11_isName
set_option maxRecDepth 100000 in
theorem ggX11_bids_X11_within : GoodIn wsX11_bids wsX11_within := goodIn_r _ [9] rfl (by decide +kernel)
set_option maxRecDepth 100000 in
theorem gX11_bids_X11_within : GoodIn wsX11_bids (va_wsS RX11 92 yX11_within wsX11_within) := goodIn_app (goodIn_r ([.methodLink RX11 92 yX11_within, .static yX11_within, .initialized RX11] : List Cond) [7, 8, 5] rfl (by decide +kernel)) ggX11_bids_X11_within
set_option maxRecDepth 100000 in
theorem ggX11_bids_X6_remember : GoodIn wsX11_bids wsX6_remember := goodIn_r _ [14, 15, 16, 17, 18, 19, 20, 21, 22, 23, 13, 24, 25, 26, 27, 28, 29, 30, 31, 32, 33, 34, 35, 36, 37, 38, 5, 39, 58, 59, 60, 61, 62, 50, 51, 52, 53, 54, 55, 56, 57] rfl (by decide +kernel)
set_option maxRecDepth 100000 in
theorem gX11_bids_X6_remember : GoodIn wsX11_bids (wsV RX11 180 RX6 yX6_remember wsX6_remember) := goodIn_app (goodIn_r ([.methodLink RX11 180 yX6_remember, .instanceMethod yX6_remember, .selects RX6 yX6_remember yX6_remember, .initialized RX6] : List Cond) [10, 11, 12, 13] rfl (by decide +kernel)) ggX11_bids_X6_remember
theorem dX11_bids_0 : decode cX11_bids 0 = .ok (.iload_n 1, 1) := by decide +kernel
theorem dX11_bids_1 : decode cX11_bids 1 = .ok (.invokestatic 149, 3) := by decide +kernel
theorem dX11_bids_4 : decode cX11_bids 4 = .ok (.ifCond .eq 13, 3) := by decide +kernel
theorem dX11_bids_7 : decode cX11_bids 7 = .ok (.iload_n 2, 1) := by decide +kernel
theorem dX11_bids_8 : decode cX11_bids 8 = .ok (.iconst 1, 1) := by decide +kernel
theorem dX11_bids_9 : decode cX11_bids 9 = .ok (.bipush 40, 2) := by decide +kernel
theorem dX11_bids_11 : decode cX11_bids 11 = .ok (.invokestatic 92, 3) := by decide +kernel
theorem dX11_bids_14 : decode cX11_bids 14 = .ok (.ifCond .ne 5, 3) := by decide +kernel
theorem dX11_bids_17 : decode cX11_bids 17 = .ok (.iconst (-1), 1) := by decide +kernel
theorem dX11_bids_18 : decode cX11_bids 18 = .ok (.ireturn, 1) := by decide +kernel
theorem dX11_bids_19 : decode cX11_bids 19 = .ok (.aload_n 0, 1) := by decide +kernel
theorem dX11_bids_20 : decode cX11_bids 20 = .ok (.getfield 76, 3) := by decide +kernel
theorem dX11_bids_23 : decode cX11_bids 23 = .ok (.aload_n 0, 1) := by decide +kernel
theorem dX11_bids_24 : decode cX11_bids 24 = .ok (.getfield 35, 3) := by decide +kernel
theorem dX11_bids_27 : decode cX11_bids 27 = .ok (.invokevirtual 180, 3) := by decide +kernel
theorem dX11_bids_30 : decode cX11_bids 30 = .ok (.aload_n 0, 1) := by decide +kernel
theorem dX11_bids_31 : decode cX11_bids 31 = .ok (.getfield 35, 3) := by decide +kernel
theorem dX11_bids_34 : decode cX11_bids 34 = .ok (.getfield 187, 3) := by decide +kernel
theorem dX11_bids_37 : decode cX11_bids 37 = .ok (.istore_n 3, 1) := by decide +kernel
theorem dX11_bids_38 : decode cX11_bids 38 = .ok (.aload_n 0, 1) := by decide +kernel
theorem dX11_bids_39 : decode cX11_bids 39 = .ok (.getfield 35, 3) := by decide +kernel
theorem dX11_bids_42 : decode cX11_bids 42 = .ok (.iload_n 1, 1) := by decide +kernel
theorem dX11_bids_43 : decode cX11_bids 43 = .ok (.putfield 187, 3) := by decide +kernel
theorem dX11_bids_46 : decode cX11_bids 46 = .ok (.aload_n 0, 1) := by decide +kernel
theorem dX11_bids_47 : decode cX11_bids 47 = .ok (.getfield 35, 3) := by decide +kernel
theorem dX11_bids_50 : decode cX11_bids 50 = .ok (.iload_n 2, 1) := by decide +kernel
theorem dX11_bids_51 : decode cX11_bids 51 = .ok (.putfield 190, 3) := by decide +kernel
theorem dX11_bids_54 : decode cX11_bids 54 = .ok (.iload_n 3, 1) := by decide +kernel
theorem dX11_bids_55 : decode cX11_bids 55 = .ok (.ireturn, 1) := by decide +kernel
set_option maxRecDepth 100000 in
theorem ggX11_undo_X6_stepBack : GoodIn wsX11_undo wsX6_stepBack := goodIn_r _ [7, 8, 9, 10, 11, 12, 6, 13, 14, 15, 16, 17, 18, 19, 20, 21, 22, 23, 24, 25, 26, 27, 28, 29, 40, 41, 42, 43, 44, 45, 46, 47, 48, 49, 50, 51, 52] rfl (by decide +kernel)
set_option maxRecDepth 100000 in
theorem gX11_undo_X6_stepBack : GoodIn wsX11_undo (wsV RX11 204 RX6 yX6_stepBack wsX6_stepBack) := goodIn_app (goodIn_r ([.methodLink RX11 204 yX6_stepBack, .instanceMethod yX6_stepBack, .selects RX6 yX6_stepBack yX6_stepBack, .initialized RX6] : List Cond) [3, 4, 5, 6] rfl (by decide +kernel)) ggX11_undo_X6_stepBack
theorem dX11_undo_0 : decode cX11_undo 0 = .ok (.aload_n 0, 1) := by decide +kernel
theorem dX11_undo_1 : decode cX11_undo 1 = .ok (.getfield 76, 3) := by decide +kernel
theorem dX11_undo_4 : decode cX11_undo 4 = .ok (.aload_n 0, 1) := by decide +kernel
theorem dX11_undo_5 : decode cX11_undo 5 = .ok (.getfield 35, 3) := by decide +kernel
theorem dX11_undo_8 : decode cX11_undo 8 = .ok (.invokevirtual 204, 3) := by decide +kernel
theorem dX11_undo_11 : decode cX11_undo 11 = .ok (.ifCond .eq 13, 3) := by decide +kernel
theorem dX11_undo_14 : decode cX11_undo 14 = .ok (.aload_n 0, 1) := by decide +kernel
theorem dX11_undo_15 : decode cX11_undo 15 = .ok (.getfield 76, 3) := by decide +kernel
theorem dX11_undo_18 : decode cX11_undo 18 = .ok (.getfield 177, 3) := by decide +kernel
theorem dX11_undo_21 : decode cX11_undo 21 = .ok (.goto 5, 3) := by decide +kernel
theorem dX11_undo_24 : decode cX11_undo 24 = .ok (.bipush (-2), 2) := by decide +kernel
theorem dX11_undo_26 : decode cX11_undo 26 = .ok (.ireturn, 1) := by decide +kernel
set_option maxRecDepth 100000 in
theorem ggX11_inNights_X11_within : GoodIn wsX11_inNights wsX11_within := goodIn_r _ [6] rfl (by decide +kernel)
set_option maxRecDepth 100000 in
theorem gX11_inNights_X11_within : GoodIn wsX11_inNights (va_wsS RX11 92 yX11_within wsX11_within) := goodIn_app (goodIn_r ([.methodLink RX11 92 yX11_within, .static yX11_within, .initialized RX11] : List Cond) [3, 4, 5] rfl (by decide +kernel)) ggX11_inNights_X11_within
set_option maxRecDepth 100000 in
theorem ggX11_inNights_X5_after : GoodIn wsX11_inNights wsX5_after := goodIn_r _ [11, 12, 13, 14, 15, 16, 17, 18, 19, 20, 21, 22, 23, 24, 25, 26, 27, 5, 28, 29, 30, 31, 32, 33, 34, 35, 36, 37, 38, 39, 40, 41, 42, 43, 44, 45, 46, 47, 48, 49, 50, 51, 52, 53, 54, 55, 56, 57, 58, 59, 60, 61, 62, 63, 64, 65, 66, 67, 68, 69, 70, 71, 72, 73, 74, 75, 76, 77, 78, 79, 80, 81, 82, 83, 84, 85, 86, 87, 88, 89, 90, 91, 92, 93, 94, 95, 96, 97, 98, 99, 100, 101, 102, 103, 104, 105, 106, 107, 108, 109, 110, 111, 112, 113, 114, 115, 116, 117, 118, 119, 120, 121, 122, 123, 124, 125, 126, 127, 128, 129, 130, 131, 132, 133, 134, 135, 159, 160, 161, 151, 152, 153, 154, 155, 156, 157, 158, 162, 163, 164, 165, 166, 167, 168, 169, 170, 171, 172] rfl (by decide +kernel)
set_option maxRecDepth 100000 in
theorem gX11_inNights_X5_after : GoodIn wsX11_inNights (wsV RX11 208 RX5 yX5_after wsX5_after) := goodIn_app (goodIn_r ([.methodLink RX11 208 yX5_after, .instanceMethod yX5_after, .selects RX5 yX5_after yX5_after, .initialized RX5] : List Cond) [7, 8, 9, 10] rfl (by decide +kernel)) ggX11_inNights_X5_after
set_option maxRecDepth 100000 in
theorem ggX11_inNights_X3_defaults : GoodIn wsX11_inNights wsX3_defaults := goodIn_r _ [139, 21, 151, 152, 153, 154, 155, 156, 157, 158] rfl (by decide +kernel)
set_option maxRecDepth 100000 in
theorem gX11_inNights_X3_defaults : GoodIn wsX11_inNights (wsV RX11 171 RX3 yX3_defaults wsX3_defaults) := goodIn_app (goodIn_r ([.methodLink RX11 171 yX3_defaults, .instanceMethod yX3_defaults, .selects RX3 yX3_defaults yX3_defaults, .initialized RX3] : List Cond) [136, 137, 138, 17] rfl (by decide +kernel)) ggX11_inNights_X3_defaults
set_option maxRecDepth 100000 in
theorem ggX11_inNights_X3_nameOfDay : GoodIn wsX11_inNights wsX3_nameOfDay := goodIn_r _ [117, 19, 52, 5, 53, 151, 152, 153, 154, 155, 156, 157, 158] rfl (by decide +kernel)
set_option maxRecDepth 100000 in
theorem gX11_inNights_X3_nameOfDay : GoodIn wsX11_inNights (wsV RX11 146 RX3 yX3_nameOfDay wsX3_nameOfDay) := goodIn_app (goodIn_r ([.methodLink RX11 146 yX3_nameOfDay, .instanceMethod yX3_nameOfDay, .selects RX3 yX3_nameOfDay yX3_nameOfDay, .initialized RX3] : List Cond) [140, 115, 116, 17] rfl (by decide +kernel)) ggX11_inNights_X3_nameOfDay
theorem dX11_inNights_0 : decode cX11_inNights 0 = .ok (.iload_n 1, 1) := by decide +kernel
theorem dX11_inNights_1 : decode cX11_inNights 1 = .ok (.iconst 0, 1) := by decide +kernel
theorem dX11_inNights_2 : decode cX11_inNights 2 = .ok (.bipush 20, 2) := by decide +kernel
theorem dX11_inNights_4 : decode cX11_inNights 4 = .ok (.invokestatic 92, 3) := by decide +kernel
theorem dX11_inNights_7 : decode cX11_inNights 7 = .ok (.ifCond .eq 12, 3) := by decide +kernel
theorem dX11_inNights_10 : decode cX11_inNights 10 = .ok (.iload_n 2, 1) := by decide +kernel
theorem dX11_inNights_11 : decode cX11_inNights 11 = .ok (.iconst 0, 1) := by decide +kernel
theorem dX11_inNights_12 : decode cX11_inNights 12 = .ok (.iconst 2, 1) := by decide +kernel
theorem dX11_inNights_13 : decode cX11_inNights 13 = .ok (.invokestatic 92, 3) := by decide +kernel
theorem dX11_inNights_16 : decode cX11_inNights 16 = .ok (.ifCond .ne 5, 3) := by decide +kernel
theorem dX11_inNights_19 : decode cX11_inNights 19 = .ok (.iconst (-1), 1) := by decide +kernel
theorem dX11_inNights_20 : decode cX11_inNights 20 = .ok (.ireturn, 1) := by decide +kernel
theorem dX11_inNights_21 : decode cX11_inNights 21 = .ok (.aload_n 0, 1) := by decide +kernel
theorem dX11_inNights_22 : decode cX11_inNights 22 = .ok (.getfield 53, 3) := by decide +kernel
theorem dX11_inNights_25 : decode cX11_inNights 25 = .ok (.aload_n 0, 1) := by decide +kernel
theorem dX11_inNights_26 : decode cX11_inNights 26 = .ok (.getfield 35, 3) := by decide +kernel
theorem dX11_inNights_29 : decode cX11_inNights 29 = .ok (.iload_n 1, 1) := by decide +kernel
theorem dX11_inNights_30 : decode cX11_inNights 30 = .ok (.invokevirtual 208, 3) := by decide +kernel
theorem dX11_inNights_33 : decode cX11_inNights 33 = .ok (.astore_n 3, 1) := by decide +kernel
theorem dX11_inNights_34 : decode cX11_inNights 34 = .ok (.iload_n 2, 1) := by decide +kernel
theorem dX11_inNights_35 : decode cX11_inNights 35 = .ok (.iconst 1, 1) := by decide +kernel
theorem dX11_inNights_36 : decode cX11_inNights 36 = .ok (.if_icmp .ne 8, 3) := by decide +kernel
theorem dX11_inNights_39 : decode cX11_inNights 39 = .ok (.aload_n 3, 1) := by decide +kernel
theorem dX11_inNights_40 : decode cX11_inNights 40 = .ok (.getfield 143, 3) := by decide +kernel
theorem dX11_inNights_43 : decode cX11_inNights 43 = .ok (.ireturn, 1) := by decide +kernel
theorem dX11_inNights_44 : decode cX11_inNights 44 = .ok (.iload_n 2, 1) := by decide +kernel
theorem dX11_inNights_45 : decode cX11_inNights 45 = .ok (.iconst 2, 1) := by decide +kernel
theorem dX11_inNights_46 : decode cX11_inNights 46 = .ok (.if_icmp .ne 8, 3) := by decide +kernel
theorem dX11_inNights_49 : decode cX11_inNights 49 = .ok (.aload_n 3, 1) := by decide +kernel
theorem dX11_inNights_50 : decode cX11_inNights 50 = .ok (.invokevirtual 171, 3) := by decide +kernel
theorem dX11_inNights_53 : decode cX11_inNights 53 = .ok (.ireturn, 1) := by decide +kernel
theorem dX11_inNights_54 : decode cX11_inNights 54 = .ok (.aload_n 3, 1) := by decide +kernel
theorem dX11_inNights_55 : decode cX11_inNights 55 = .ok (.getfield 143, 3) := by decide +kernel
theorem dX11_inNights_58 : decode cX11_inNights 58 = .ok (.ifCond .ne 8, 3) := by decide +kernel
theorem dX11_inNights_61 : decode cX11_inNights 61 = .ok (.bipush (-9), 2) := by decide +kernel
theorem dX11_inNights_63 : decode cX11_inNights 63 = .ok (.goto 11, 3) := by decide +kernel
theorem dX11_inNights_66 : decode cX11_inNights 66 = .ok (.aload_n 3, 1) := by decide +kernel
theorem dX11_inNights_67 : decode cX11_inNights 67 = .ok (.aload_n 3, 1) := by decide +kernel
theorem dX11_inNights_68 : decode cX11_inNights 68 = .ok (.getfield 143, 3) := by decide +kernel
theorem dX11_inNights_71 : decode cX11_inNights 71 = .ok (.invokevirtual 146, 3) := by decide +kernel
theorem dX11_inNights_74 : decode cX11_inNights 74 = .ok (.ireturn, 1) := by decide +kernel
set_option maxRecDepth 100000 in
theorem ggX11_purseIn_X11_isBidder : GoodIn wsX11_purseIn wsX11_isBidder := goodIn_r _ [7, 8, 9, 10, 6, 11, 142, 143, 144, 145, 146, 147, 148, 149, 150, 151, 152, 153, 154, 155, 156] rfl (by decide +kernel)
set_option maxRecDepth 100000 in
theorem gX11_purseIn_X11_isBidder : GoodIn wsX11_purseIn (wsV RX11 122 RX11 yX11_isBidder wsX11_isBidder) := goodIn_app (goodIn_r ([.methodLink RX11 122 yX11_isBidder, .instanceMethod yX11_isBidder, .selects RX11 yX11_isBidder yX11_isBidder, .initialized RX11] : List Cond) [3, 4, 5, 6] rfl (by decide +kernel)) ggX11_purseIn_X11_isBidder
set_option maxRecDepth 100000 in
theorem ggX11_purseIn_X11_within : GoodIn wsX11_purseIn wsX11_within := goodIn_r _ [11] rfl (by decide +kernel)
set_option maxRecDepth 100000 in
theorem gX11_purseIn_X11_within : GoodIn wsX11_purseIn (va_wsS RX11 92 yX11_within wsX11_within) := goodIn_app (goodIn_r ([.methodLink RX11 92 yX11_within, .static yX11_within, .initialized RX11] : List Cond) [9, 10, 6] rfl (by decide +kernel)) ggX11_purseIn_X11_within
set_option maxRecDepth 100000 in
theorem ggX11_purseIn_X5_after : GoodIn wsX11_purseIn wsX5_after := goodIn_r _ [16, 17, 18, 19, 20, 21, 22, 23, 24, 25, 26, 27, 28, 29, 30, 31, 32, 6, 33, 34, 35, 36, 37, 38, 39, 40, 41, 42, 43, 44, 45, 46, 47, 48, 49, 50, 51, 52, 53, 54, 55, 56, 57, 58, 59, 60, 61, 62, 63, 64, 65, 66, 67, 68, 69, 70, 71, 72, 73, 74, 75, 76, 77, 78, 79, 80, 81, 82, 83, 84, 85, 86, 87, 88, 89, 90, 91, 92, 93, 94, 95, 96, 97, 98, 99, 100, 101, 102, 103, 104, 105, 106, 107, 108, 109, 110, 111, 112, 113, 114, 115, 116, 117, 118, 119, 120, 121, 122, 123, 124, 125, 126, 127, 128, 129, 130, 131, 132, 133, 134, 135, 136, 137, 138, 139, 140, 157, 158, 159, 160, 161, 162, 163, 164, 165, 166, 167, 168, 169, 170, 171, 172, 173, 152, 153, 154, 155, 156] rfl (by decide +kernel)
set_option maxRecDepth 100000 in
theorem gX11_purseIn_X5_after : GoodIn wsX11_purseIn (wsV RX11 208 RX5 yX5_after wsX5_after) := goodIn_app (goodIn_r ([.methodLink RX11 208 yX5_after, .instanceMethod yX5_after, .selects RX5 yX5_after yX5_after, .initialized RX5] : List Cond) [12, 13, 14, 15] rfl (by decide +kernel)) ggX11_purseIn_X5_after
set_option maxRecDepth 100000 in
theorem ggX11_purseIn_X3_purse : GoodIn wsX11_purseIn wsX3_purse := goodIn_r _ [62, 25, 57, 6, 58, 160, 161, 162, 163, 164, 165, 166, 167] rfl (by decide +kernel)
set_option maxRecDepth 100000 in
theorem gX11_purseIn_X3_purse : GoodIn wsX11_purseIn (wsV RX11 126 RX3 yX3_purse wsX3_purse) := goodIn_app (goodIn_r ([.methodLink RX11 126 yX3_purse, .instanceMethod yX3_purse, .selects RX3 yX3_purse yX3_purse, .initialized RX3] : List Cond) [141, 60, 61, 22] rfl (by decide +kernel)) ggX11_purseIn_X3_purse
theorem dX11_purseIn_0 : decode cX11_purseIn 0 = .ok (.aload_n 0, 1) := by decide +kernel
theorem dX11_purseIn_1 : decode cX11_purseIn 1 = .ok (.iload_n 1, 1) := by decide +kernel
theorem dX11_purseIn_2 : decode cX11_purseIn 2 = .ok (.invokevirtual 122, 3) := by decide +kernel
theorem dX11_purseIn_5 : decode cX11_purseIn 5 = .ok (.ifCond .eq 13, 3) := by decide +kernel
theorem dX11_purseIn_8 : decode cX11_purseIn 8 = .ok (.iload_n 2, 1) := by decide +kernel
theorem dX11_purseIn_9 : decode cX11_purseIn 9 = .ok (.iconst 0, 1) := by decide +kernel
theorem dX11_purseIn_10 : decode cX11_purseIn 10 = .ok (.bipush 20, 2) := by decide +kernel
theorem dX11_purseIn_12 : decode cX11_purseIn 12 = .ok (.invokestatic 92, 3) := by decide +kernel
theorem dX11_purseIn_15 : decode cX11_purseIn 15 = .ok (.ifCond .ne 5, 3) := by decide +kernel
theorem dX11_purseIn_18 : decode cX11_purseIn 18 = .ok (.iconst (-1), 1) := by decide +kernel
theorem dX11_purseIn_19 : decode cX11_purseIn 19 = .ok (.ireturn, 1) := by decide +kernel
theorem dX11_purseIn_20 : decode cX11_purseIn 20 = .ok (.aload_n 0, 1) := by decide +kernel
theorem dX11_purseIn_21 : decode cX11_purseIn 21 = .ok (.getfield 53, 3) := by decide +kernel
theorem dX11_purseIn_24 : decode cX11_purseIn 24 = .ok (.aload_n 0, 1) := by decide +kernel
theorem dX11_purseIn_25 : decode cX11_purseIn 25 = .ok (.getfield 35, 3) := by decide +kernel
theorem dX11_purseIn_28 : decode cX11_purseIn 28 = .ok (.iload_n 2, 1) := by decide +kernel
theorem dX11_purseIn_29 : decode cX11_purseIn 29 = .ok (.invokevirtual 208, 3) := by decide +kernel
theorem dX11_purseIn_32 : decode cX11_purseIn 32 = .ok (.iload_n 1, 1) := by decide +kernel
theorem dX11_purseIn_33 : decode cX11_purseIn 33 = .ok (.invokevirtual 126, 3) := by decide +kernel
theorem dX11_purseIn_36 : decode cX11_purseIn 36 = .ok (.ireturn, 1) := by decide +kernel
set_option maxRecDepth 100000 in
theorem ggX11_falls_X11_isDebt : GoodIn wsX11_falls wsX11_isDebt := goodIn_r _ [7, 8, 9, 10, 6, 11, 142, 143, 144, 145, 146, 147, 148, 149, 150, 151, 152, 153, 154, 155, 156] rfl (by decide +kernel)
set_option maxRecDepth 100000 in
theorem gX11_falls_X11_isDebt : GoodIn wsX11_falls (wsV RX11 134 RX11 yX11_isDebt wsX11_isDebt) := goodIn_app (goodIn_r ([.methodLink RX11 134 yX11_isDebt, .instanceMethod yX11_isDebt, .selects RX11 yX11_isDebt yX11_isDebt, .initialized RX11] : List Cond) [3, 4, 5, 6] rfl (by decide +kernel)) ggX11_falls_X11_isDebt
set_option maxRecDepth 100000 in
theorem ggX11_falls_X5_nightDue : GoodIn wsX11_falls wsX5_nightDue := goodIn_r _ [16, 17, 18, 19, 20, 21, 22, 23, 24, 25, 6, 26, 27, 28, 29, 30, 31, 32, 33, 34, 35, 36, 37, 38, 39, 40, 41, 42, 43, 44, 45, 46, 47, 48, 49, 50, 51, 52, 53, 54, 55, 56, 57, 58, 59, 60, 61, 62, 63, 64, 65, 66, 67, 68, 69, 70, 71, 72, 73, 74, 75, 76, 77, 78, 79, 80, 81, 82, 83, 84, 85, 86, 87, 88, 89, 90, 91, 92, 93, 94, 95, 96, 97, 98, 99, 100, 101, 102, 103, 104, 105, 106, 107, 108, 109, 110, 111, 112, 113, 114, 115, 116, 117, 118, 119, 120, 121, 122, 123, 124, 125, 126, 127, 128, 129, 130, 131, 132, 133, 134, 135, 136, 137, 138, 139, 140, 141, 157, 158, 159, 160, 161, 162, 163, 164, 165, 166, 167, 168, 169, 170, 171, 172, 173, 152, 153, 154, 155, 156] rfl (by decide +kernel)
set_option maxRecDepth 100000 in
theorem gX11_falls_X5_nightDue : GoodIn wsX11_falls (wsV RX11 212 RX5 yX5_nightDue wsX5_nightDue) := goodIn_app (goodIn_r ([.methodLink RX11 212 yX5_nightDue, .instanceMethod yX5_nightDue, .selects RX5 yX5_nightDue yX5_nightDue, .initialized RX5] : List Cond) [12, 13, 14, 15] rfl (by decide +kernel)) ggX11_falls_X5_nightDue
theorem dX11_falls_0 : decode cX11_falls 0 = .ok (.aload_n 0, 1) := by decide +kernel
theorem dX11_falls_1 : decode cX11_falls 1 = .ok (.iload_n 1, 1) := by decide +kernel
theorem dX11_falls_2 : decode cX11_falls 2 = .ok (.invokevirtual 134, 3) := by decide +kernel
theorem dX11_falls_5 : decode cX11_falls 5 = .ok (.ifCond .eq 20, 3) := by decide +kernel
theorem dX11_falls_8 : decode cX11_falls 8 = .ok (.aload_n 0, 1) := by decide +kernel
theorem dX11_falls_9 : decode cX11_falls 9 = .ok (.getfield 53, 3) := by decide +kernel
theorem dX11_falls_12 : decode cX11_falls 12 = .ok (.aload_n 0, 1) := by decide +kernel
theorem dX11_falls_13 : decode cX11_falls 13 = .ok (.getfield 35, 3) := by decide +kernel
theorem dX11_falls_16 : decode cX11_falls 16 = .ok (.iload_n 1, 1) := by decide +kernel
theorem dX11_falls_17 : decode cX11_falls 17 = .ok (.bipush 40, 2) := by decide +kernel
theorem dX11_falls_19 : decode cX11_falls 19 = .ok (.invokevirtual 212, 3) := by decide +kernel
theorem dX11_falls_22 : decode cX11_falls 22 = .ok (.goto 4, 3) := by decide +kernel
theorem dX11_falls_25 : decode cX11_falls 25 = .ok (.iconst (-1), 1) := by decide +kernel
theorem dX11_falls_26 : decode cX11_falls 26 = .ok (.ireturn, 1) := by decide +kernel
set_option maxRecDepth 100000 in
theorem ggX11_buy_X11_isName : GoodIn wsX11_buy wsX11_isName := goodIn_r _ [6, 7, 8, 5, 9] rfl (by decide +kernel)
set_option maxRecDepth 100000 in
theorem gX11_buy_X11_isName : GoodIn wsX11_buy (va_wsS RX11 149 yX11_isName wsX11_isName) := goodIn_app (goodIn_r ([.methodLink RX11 149 yX11_isName, .static yX11_isName, .initialized RX11] : List Cond) [3, 4, 5] rfl (by decide +kernel)) ggX11_buy_X11_isName
set_option maxRecDepth 100000 in
theorem ggX11_buy_X11_within : GoodIn wsX11_buy wsX11_within := goodIn_r _ [9] rfl (by decide +kernel)
set_option maxRecDepth 100000 in
theorem gX11_buy_X11_within : GoodIn wsX11_buy (va_wsS RX11 92 yX11_within wsX11_within) := goodIn_app (goodIn_r ([.methodLink RX11 92 yX11_within, .static yX11_within, .initialized RX11] : List Cond) [7, 8, 5] rfl (by decide +kernel)) ggX11_buy_X11_within
set_option maxRecDepth 100000 in
theorem ggX11_buy_X5_cheapest : GoodIn wsX11_buy wsX5_cheapest := goodIn_r _ [14, 15, 16, 17, 18, 19, 20, 21, 22, 23, 24, 25, 26, 27, 28, 29, 30, 31, 5, 32, 33, 34, 35, 36, 37, 38, 39, 40, 41, 42, 43, 44, 45, 46, 47, 48, 49, 50, 51, 52, 53, 54, 55, 56, 57, 58, 59, 60, 61, 62, 63, 64, 65, 66, 67, 68, 69, 70, 71, 72, 73, 74, 75, 76, 77, 78, 79, 80, 81, 82, 83, 84, 85, 86, 87, 88, 89, 90, 91, 92, 93, 94, 95, 96, 97, 98, 99, 100, 101, 102, 103, 104, 105, 106, 107, 108, 109, 110, 111, 112, 113, 114, 115, 116, 117, 118, 119, 120, 121, 122, 123, 124, 125, 126, 127, 128, 129, 130, 131, 132, 133, 134, 135, 136, 137, 138, 139, 140, 141, 142, 143, 144, 145, 146, 147, 148, 149, 160, 161, 162, 163, 164, 165, 166, 167, 168, 169, 170, 171, 172, 173, 174, 175, 176, 177, 178, 179, 180, 181] rfl (by decide +kernel)
set_option maxRecDepth 100000 in
theorem gX11_buy_X5_cheapest : GoodIn wsX11_buy (wsV RX11 216 RX5 yX5_cheapest wsX5_cheapest) := goodIn_app (goodIn_r ([.methodLink RX11 216 yX5_cheapest, .instanceMethod yX5_cheapest, .selects RX5 yX5_cheapest yX5_cheapest, .initialized RX5] : List Cond) [10, 11, 12, 13] rfl (by decide +kernel)) ggX11_buy_X5_cheapest
theorem dX11_buy_0 : decode cX11_buy 0 = .ok (.iload_n 1, 1) := by decide +kernel
theorem dX11_buy_1 : decode cX11_buy 1 = .ok (.invokestatic 149, 3) := by decide +kernel
theorem dX11_buy_4 : decode cX11_buy 4 = .ok (.ifCond .eq 22, 3) := by decide +kernel
theorem dX11_buy_7 : decode cX11_buy 7 = .ok (.iload_n 2, 1) := by decide +kernel
theorem dX11_buy_8 : decode cX11_buy 8 = .ok (.iconst 1, 1) := by decide +kernel
theorem dX11_buy_9 : decode cX11_buy 9 = .ok (.bipush 10, 2) := by decide +kernel
theorem dX11_buy_11 : decode cX11_buy 11 = .ok (.invokestatic 92, 3) := by decide +kernel
theorem dX11_buy_14 : decode cX11_buy 14 = .ok (.ifCond .eq 12, 3) := by decide +kernel
theorem dX11_buy_17 : decode cX11_buy 17 = .ok (.iload_n 3, 1) := by decide +kernel
theorem dX11_buy_18 : decode cX11_buy 18 = .ok (.iconst 0, 1) := by decide +kernel
theorem dX11_buy_19 : decode cX11_buy 19 = .ok (.iconst 1, 1) := by decide +kernel
theorem dX11_buy_20 : decode cX11_buy 20 = .ok (.invokestatic 92, 3) := by decide +kernel
theorem dX11_buy_23 : decode cX11_buy 23 = .ok (.ifCond .ne 5, 3) := by decide +kernel
theorem dX11_buy_26 : decode cX11_buy 26 = .ok (.iconst (-1), 1) := by decide +kernel
theorem dX11_buy_27 : decode cX11_buy 27 = .ok (.ireturn, 1) := by decide +kernel
theorem dX11_buy_28 : decode cX11_buy 28 = .ok (.aload_n 0, 1) := by decide +kernel
theorem dX11_buy_29 : decode cX11_buy 29 = .ok (.getfield 53, 3) := by decide +kernel
theorem dX11_buy_32 : decode cX11_buy 32 = .ok (.aload_n 0, 1) := by decide +kernel
theorem dX11_buy_33 : decode cX11_buy 33 = .ok (.getfield 35, 3) := by decide +kernel
theorem dX11_buy_36 : decode cX11_buy 36 = .ok (.iload_n 1, 1) := by decide +kernel
theorem dX11_buy_37 : decode cX11_buy 37 = .ok (.iload_n 2, 1) := by decide +kernel
theorem dX11_buy_38 : decode cX11_buy 38 = .ok (.iload_n 3, 1) := by decide +kernel
theorem dX11_buy_39 : decode cX11_buy 39 = .ok (.invokevirtual 216, 3) := by decide +kernel
theorem dX11_buy_42 : decode cX11_buy 42 = .ok (.ireturn, 1) := by decide +kernel
set_option maxRecDepth 100000 in
theorem ggX11_hold_X11_isName : GoodIn wsX11_hold wsX11_isName := goodIn_r _ [6, 7, 8, 5, 9] rfl (by decide +kernel)
set_option maxRecDepth 100000 in
theorem gX11_hold_X11_isName : GoodIn wsX11_hold (va_wsS RX11 149 yX11_isName wsX11_isName) := goodIn_app (goodIn_r ([.methodLink RX11 149 yX11_isName, .static yX11_isName, .initialized RX11] : List Cond) [3, 4, 5] rfl (by decide +kernel)) ggX11_hold_X11_isName
set_option maxRecDepth 100000 in
theorem ggX11_hold_X11_within : GoodIn wsX11_hold wsX11_within := goodIn_r _ [9] rfl (by decide +kernel)
set_option maxRecDepth 100000 in
theorem gX11_hold_X11_within : GoodIn wsX11_hold (va_wsS RX11 92 yX11_within wsX11_within) := goodIn_app (goodIn_r ([.methodLink RX11 92 yX11_within, .static yX11_within, .initialized RX11] : List Cond) [7, 8, 5] rfl (by decide +kernel)) ggX11_hold_X11_within
set_option maxRecDepth 100000 in
theorem ggX11_hold_X5_holding : GoodIn wsX11_hold wsX5_holding := goodIn_r _ [14, 15, 16, 17, 18, 19, 20, 21, 22, 23, 24, 25, 26, 27, 28, 29, 30, 31, 5, 32, 33, 34, 35, 36, 37, 38, 39, 40, 41, 42, 43, 44, 45, 46, 47, 48, 49, 50, 51, 52, 53, 54, 55, 56, 57, 58, 59, 60, 61, 62, 63, 64, 65, 66, 67, 68, 69, 70, 71, 72, 73, 74, 75, 76, 77, 78, 79, 80, 81, 82, 83, 84, 85, 86, 87, 88, 89, 4, 6, 7, 8, 9, 90, 91, 92, 93, 94, 95, 96, 97, 98, 99, 100, 101, 102, 103, 104, 105, 106, 107, 108, 109, 110, 111, 112, 113, 114, 115, 116, 117, 118, 119, 120, 121, 122, 123, 124, 125, 126, 127, 128, 129, 130, 131, 132, 133, 134, 135, 136, 137, 138, 139, 140, 141, 142, 143, 144, 145, 146, 147, 148, 149, 150, 151, 152, 153, 154, 155, 166, 167, 168, 169, 170, 171, 172, 173, 174, 175, 176, 177, 178, 179, 180, 181, 182, 183, 184, 185, 186, 187] rfl (by decide +kernel)
set_option maxRecDepth 100000 in
theorem gX11_hold_X5_holding : GoodIn wsX11_hold (wsV RX11 220 RX5 yX5_holding wsX5_holding) := goodIn_app (goodIn_r ([.methodLink RX11 220 yX5_holding, .instanceMethod yX5_holding, .selects RX5 yX5_holding yX5_holding, .initialized RX5] : List Cond) [10, 11, 12, 13] rfl (by decide +kernel)) ggX11_hold_X5_holding
theorem dX11_hold_0 : decode cX11_hold 0 = .ok (.iload_n 1, 1) := by decide +kernel
theorem dX11_hold_1 : decode cX11_hold 1 = .ok (.invokestatic 149, 3) := by decide +kernel
theorem dX11_hold_4 : decode cX11_hold 4 = .ok (.ifCond .eq 22, 3) := by decide +kernel
theorem dX11_hold_7 : decode cX11_hold 7 = .ok (.iload_n 2, 1) := by decide +kernel
theorem dX11_hold_8 : decode cX11_hold 8 = .ok (.iconst 1, 1) := by decide +kernel
theorem dX11_hold_9 : decode cX11_hold 9 = .ok (.bipush 6, 2) := by decide +kernel
theorem dX11_hold_11 : decode cX11_hold 11 = .ok (.invokestatic 92, 3) := by decide +kernel
theorem dX11_hold_14 : decode cX11_hold 14 = .ok (.ifCond .eq 12, 3) := by decide +kernel
theorem dX11_hold_17 : decode cX11_hold 17 = .ok (.iload_n 3, 1) := by decide +kernel
theorem dX11_hold_18 : decode cX11_hold 18 = .ok (.iconst 0, 1) := by decide +kernel
theorem dX11_hold_19 : decode cX11_hold 19 = .ok (.iconst 1, 1) := by decide +kernel
theorem dX11_hold_20 : decode cX11_hold 20 = .ok (.invokestatic 92, 3) := by decide +kernel
theorem dX11_hold_23 : decode cX11_hold 23 = .ok (.ifCond .ne 5, 3) := by decide +kernel
theorem dX11_hold_26 : decode cX11_hold 26 = .ok (.iconst (-1), 1) := by decide +kernel
theorem dX11_hold_27 : decode cX11_hold 27 = .ok (.ireturn, 1) := by decide +kernel
theorem dX11_hold_28 : decode cX11_hold 28 = .ok (.aload_n 0, 1) := by decide +kernel
theorem dX11_hold_29 : decode cX11_hold 29 = .ok (.getfield 53, 3) := by decide +kernel
theorem dX11_hold_32 : decode cX11_hold 32 = .ok (.aload_n 0, 1) := by decide +kernel
theorem dX11_hold_33 : decode cX11_hold 33 = .ok (.getfield 35, 3) := by decide +kernel
theorem dX11_hold_36 : decode cX11_hold 36 = .ok (.iload_n 1, 1) := by decide +kernel
theorem dX11_hold_37 : decode cX11_hold 37 = .ok (.iload_n 2, 1) := by decide +kernel
theorem dX11_hold_38 : decode cX11_hold 38 = .ok (.iload_n 3, 1) := by decide +kernel
theorem dX11_hold_39 : decode cX11_hold 39 = .ok (.invokevirtual 220, 3) := by decide +kernel
theorem dX11_hold_42 : decode cX11_hold 42 = .ok (.ireturn, 1) := by decide +kernel
set_option maxRecDepth 100000 in
theorem ggX11_ring_X11_isBidder : GoodIn wsX11_ring wsX11_isBidder := goodIn_r _ [8, 9, 10, 11, 7, 12, 154, 155, 156, 157, 158, 159, 160, 161, 162, 163, 164, 165, 166, 167, 168] rfl (by decide +kernel)
set_option maxRecDepth 100000 in
theorem gX11_ring_X11_isBidder : GoodIn wsX11_ring (wsV RX11 122 RX11 yX11_isBidder wsX11_isBidder) := goodIn_app (goodIn_r ([.methodLink RX11 122 yX11_isBidder, .instanceMethod yX11_isBidder, .selects RX11 yX11_isBidder yX11_isBidder, .initialized RX11] : List Cond) [4, 5, 6, 7] rfl (by decide +kernel)) ggX11_ring_X11_isBidder
set_option maxRecDepth 100000 in
theorem ggX11_ring_X11_within : GoodIn wsX11_ring wsX11_within := goodIn_r _ [12] rfl (by decide +kernel)
set_option maxRecDepth 100000 in
theorem gX11_ring_X11_within : GoodIn wsX11_ring (va_wsS RX11 92 yX11_within wsX11_within) := goodIn_app (goodIn_r ([.methodLink RX11 92 yX11_within, .static yX11_within, .initialized RX11] : List Cond) [10, 11, 7] rfl (by decide +kernel)) ggX11_ring_X11_within
set_option maxRecDepth 100000 in
theorem ggX11_ring_X5_paidBy : GoodIn wsX11_ring wsX5_paidBy := goodIn_r _ [17, 18, 19, 20, 21, 22, 23, 24, 25, 26, 27, 28, 29, 30, 31, 32, 33, 7, 34, 35, 36, 37, 38, 39, 40, 41, 42, 43, 44, 45, 46, 47, 48, 49, 50, 51, 52, 53, 54, 55, 56, 57, 58, 59, 60, 61, 62, 63, 64, 65, 66, 67, 68, 69, 70, 71, 72, 73, 74, 75, 76, 77, 78, 79, 80, 81, 82, 83, 84, 85, 86, 87, 88, 89, 90, 91, 92, 93, 94, 95, 96, 97, 98, 99, 100, 101, 102, 103, 104, 105, 106, 107, 108, 109, 110, 111, 112, 113, 114, 115, 116, 117, 118, 119, 120, 121, 122, 123, 124, 125, 126, 127, 128, 129, 130, 131, 132, 133, 134, 135, 136, 137, 138, 139, 140, 141, 142, 143, 144, 145, 146, 147, 148, 149, 150, 151, 152, 153, 169, 170, 171, 172, 173, 174, 175, 176, 177, 178, 179, 180, 181, 182, 183, 184, 185, 164, 165, 166, 167, 168] rfl (by decide +kernel)
set_option maxRecDepth 100000 in
theorem gX11_ring_X5_paidBy : GoodIn wsX11_ring (wsV RX11 224 RX5 yX5_paidBy wsX5_paidBy) := goodIn_app (goodIn_r ([.methodLink RX11 224 yX5_paidBy, .instanceMethod yX5_paidBy, .selects RX5 yX5_paidBy yX5_paidBy, .initialized RX5] : List Cond) [13, 14, 15, 16] rfl (by decide +kernel)) ggX11_ring_X5_paidBy
theorem dX11_ring_0 : decode cX11_ring 0 = .ok (.aload_n 0, 1) := by decide +kernel
theorem dX11_ring_1 : decode cX11_ring 1 = .ok (.iload_n 1, 1) := by decide +kernel
theorem dX11_ring_2 : decode cX11_ring 2 = .ok (.invokevirtual 122, 3) := by decide +kernel
theorem dX11_ring_5 : decode cX11_ring 5 = .ok (.ifCond .eq 26, 3) := by decide +kernel
theorem dX11_ring_8 : decode cX11_ring 8 = .ok (.aload_n 0, 1) := by decide +kernel
theorem dX11_ring_9 : decode cX11_ring 9 = .ok (.iload_n 2, 1) := by decide +kernel
theorem dX11_ring_10 : decode cX11_ring 10 = .ok (.invokevirtual 122, 3) := by decide +kernel
theorem dX11_ring_13 : decode cX11_ring 13 = .ok (.ifCond .eq 18, 3) := by decide +kernel
theorem dX11_ring_16 : decode cX11_ring 16 = .ok (.iload_n 1, 1) := by decide +kernel
theorem dX11_ring_17 : decode cX11_ring 17 = .ok (.iload_n 2, 1) := by decide +kernel
theorem dX11_ring_18 : decode cX11_ring 18 = .ok (.if_icmp .eq 13, 3) := by decide +kernel
theorem dX11_ring_21 : decode cX11_ring 21 = .ok (.iload_n 3, 1) := by decide +kernel
theorem dX11_ring_22 : decode cX11_ring 22 = .ok (.iconst 1, 1) := by decide +kernel
theorem dX11_ring_23 : decode cX11_ring 23 = .ok (.bipush 20, 2) := by decide +kernel
theorem dX11_ring_25 : decode cX11_ring 25 = .ok (.invokestatic 92, 3) := by decide +kernel
theorem dX11_ring_28 : decode cX11_ring 28 = .ok (.ifCond .ne 6, 3) := by decide +kernel
theorem dX11_ring_31 : decode cX11_ring 31 = .ok (.ldc 223, 2) := by decide +kernel
theorem dX11_ring_33 : decode cX11_ring 33 = .ok (.ireturn, 1) := by decide +kernel
theorem dX11_ring_34 : decode cX11_ring 34 = .ok (.aload_n 0, 1) := by decide +kernel
theorem dX11_ring_35 : decode cX11_ring 35 = .ok (.getfield 53, 3) := by decide +kernel
theorem dX11_ring_38 : decode cX11_ring 38 = .ok (.aload_n 0, 1) := by decide +kernel
theorem dX11_ring_39 : decode cX11_ring 39 = .ok (.getfield 35, 3) := by decide +kernel
theorem dX11_ring_42 : decode cX11_ring 42 = .ok (.iload_n 1, 1) := by decide +kernel
theorem dX11_ring_43 : decode cX11_ring 43 = .ok (.iload_n 2, 1) := by decide +kernel
theorem dX11_ring_44 : decode cX11_ring 44 = .ok (.iload_n 3, 1) := by decide +kernel
theorem dX11_ring_45 : decode cX11_ring 45 = .ok (.iconst 0, 1) := by decide +kernel
theorem dX11_ring_46 : decode cX11_ring 46 = .ok (.invokevirtual 224, 3) := by decide +kernel
theorem dX11_ring_49 : decode cX11_ring 49 = .ok (.aload_n 0, 1) := by decide +kernel
theorem dX11_ring_50 : decode cX11_ring 50 = .ok (.getfield 53, 3) := by decide +kernel
theorem dX11_ring_53 : decode cX11_ring 53 = .ok (.aload_n 0, 1) := by decide +kernel
theorem dX11_ring_54 : decode cX11_ring 54 = .ok (.getfield 35, 3) := by decide +kernel
theorem dX11_ring_57 : decode cX11_ring 57 = .ok (.iload_n 1, 1) := by decide +kernel
theorem dX11_ring_58 : decode cX11_ring 58 = .ok (.iload_n 2, 1) := by decide +kernel
theorem dX11_ring_59 : decode cX11_ring 59 = .ok (.iload_n 3, 1) := by decide +kernel
theorem dX11_ring_60 : decode cX11_ring 60 = .ok (.iconst 1, 1) := by decide +kernel
theorem dX11_ring_61 : decode cX11_ring 61 = .ok (.invokevirtual 224, 3) := by decide +kernel
theorem dX11_ring_64 : decode cX11_ring 64 = .ok (.isub, 1) := by decide +kernel
theorem dX11_ring_65 : decode cX11_ring 65 = .ok (.ireturn, 1) := by decide +kernel
set_option maxRecDepth 100000 in
theorem ggX11_found_X11_within : GoodIn wsX11_found wsX11_within := goodIn_r _ [5] rfl (by decide +kernel)
set_option maxRecDepth 100000 in
theorem gX11_found_X11_within : GoodIn wsX11_found (va_wsS RX11 92 yX11_within wsX11_within) := goodIn_app (goodIn_r ([.methodLink RX11 92 yX11_within, .static yX11_within, .initialized RX11] : List Cond) [2, 3, 4] rfl (by decide +kernel)) ggX11_found_X11_within
set_option maxRecDepth 100000 in
theorem ggX11_found_X11_isNameOrNone : GoodIn wsX11_found wsX11_isNameOrNone := goodIn_r _ [8, 2, 3, 4, 5] rfl (by decide +kernel)
set_option maxRecDepth 100000 in
theorem gX11_found_X11_isNameOrNone : GoodIn wsX11_found (va_wsS RX11 228 yX11_isNameOrNone wsX11_isNameOrNone) := goodIn_app (goodIn_r ([.methodLink RX11 228 yX11_isNameOrNone, .static yX11_isNameOrNone, .initialized RX11] : List Cond) [6, 7, 4] rfl (by decide +kernel)) ggX11_found_X11_isNameOrNone
