theorem dX12_takesItem_33 : decode cX12_takesItem 33 = .ok (.bipush 111, 2) := by decide +kernel
theorem dX12_takesItem_35 : decode cX12_takesItem 35 = .ok (.if_icmp .ne 10, 3) := by decide +kernel
theorem dX12_takesItem_38 : decode cX12_takesItem 38 = .ok (.aload_n 0, 1) := by decide +kernel
theorem dX12_takesItem_39 : decode cX12_takesItem 39 = .ok (.invokevirtual 113, 3) := by decide +kernel
theorem dX12_takesItem_42 : decode cX12_takesItem 42 = .ok (.goto 21, 3) := by decide +kernel
theorem dX12_takesItem_45 : decode cX12_takesItem 45 = .ok (.iload_n 1, 1) := by decide +kernel
theorem dX12_takesItem_46 : decode cX12_takesItem 46 = .ok (.bipush 114, 2) := by decide +kernel
theorem dX12_takesItem_48 : decode cX12_takesItem 48 = .ok (.if_icmp .ne 14, 3) := by decide +kernel
theorem dX12_takesItem_51 : decode cX12_takesItem 51 = .ok (.aload_n 0, 1) := by decide +kernel
theorem dX12_takesItem_52 : decode cX12_takesItem 52 = .ok (.invokevirtual 116, 3) := by decide +kernel
theorem dX12_takesItem_55 : decode cX12_takesItem 55 = .ok (.ifCond .eq 7, 3) := by decide +kernel
theorem dX12_takesItem_58 : decode cX12_takesItem 58 = .ok (.iconst 1, 1) := by decide +kernel
theorem dX12_takesItem_59 : decode cX12_takesItem 59 = .ok (.goto 4, 3) := by decide +kernel
theorem dX12_takesItem_62 : decode cX12_takesItem 62 = .ok (.iconst 0, 1) := by decide +kernel
theorem dX12_takesItem_63 : decode cX12_takesItem 63 = .ok (.istore_n 2, 1) := by decide +kernel
theorem dX12_takesItem_64 : decode cX12_takesItem 64 = .ok (.iload_n 2, 1) := by decide +kernel
theorem dX12_takesItem_65 : decode cX12_takesItem 65 = .ok (.ifCond .ne 5, 3) := by decide +kernel
theorem dX12_takesItem_68 : decode cX12_takesItem 68 = .ok (.iconst 0, 1) := by decide +kernel
theorem dX12_takesItem_69 : decode cX12_takesItem 69 = .ok (.ireturn, 1) := by decide +kernel
theorem dX12_takesItem_70 : decode cX12_takesItem 70 = .ok (.aload_n 0, 1) := by decide +kernel
theorem dX12_takesItem_71 : decode cX12_takesItem 71 = .ok (.invokevirtual 85, 3) := by decide +kernel
theorem dX12_takesItem_74 : decode cX12_takesItem 74 = .ok (.aload_n 0, 1) := by decide +kernel
theorem dX12_takesItem_75 : decode cX12_takesItem 75 = .ok (.aload_n 0, 1) := by decide +kernel
theorem dX12_takesItem_76 : decode cX12_takesItem 76 = .ok (.getfield 75, 3) := by decide +kernel
theorem dX12_takesItem_79 : decode cX12_takesItem 79 = .ok (.invokevirtual 78, 3) := by decide +kernel
theorem dX12_takesItem_82 : decode cX12_takesItem 82 = .ok (.bipush 59, 2) := by decide +kernel
theorem dX12_takesItem_84 : decode cX12_takesItem 84 = .ok (.if_icmp .ne 7, 3) := by decide +kernel
theorem dX12_takesItem_87 : decode cX12_takesItem 87 = .ok (.iconst 1, 1) := by decide +kernel
theorem dX12_takesItem_88 : decode cX12_takesItem 88 = .ok (.goto 4, 3) := by decide +kernel
theorem dX12_takesItem_91 : decode cX12_takesItem 91 = .ok (.iconst 0, 1) := by decide +kernel
theorem dX12_takesItem_92 : decode cX12_takesItem 92 = .ok (.istore_n 3, 1) := by decide +kernel
theorem dX12_takesItem_93 : decode cX12_takesItem 93 = .ok (.aload_n 0, 1) := by decide +kernel
theorem dX12_takesItem_94 : decode cX12_takesItem 94 = .ok (.dup, 1) := by decide +kernel
theorem dX12_takesItem_95 : decode cX12_takesItem 95 = .ok (.getfield 75, 3) := by decide +kernel
theorem dX12_takesItem_98 : decode cX12_takesItem 98 = .ok (.iload_n 3, 1) := by decide +kernel
theorem dX12_takesItem_99 : decode cX12_takesItem 99 = .ok (.ifCond .eq 7, 3) := by decide +kernel
theorem dX12_takesItem_102 : decode cX12_takesItem 102 = .ok (.iconst 1, 1) := by decide +kernel
theorem dX12_takesItem_103 : decode cX12_takesItem 103 = .ok (.goto 4, 3) := by decide +kernel
theorem dX12_takesItem_106 : decode cX12_takesItem 106 = .ok (.iconst 0, 1) := by decide +kernel
theorem dX12_takesItem_107 : decode cX12_takesItem 107 = .ok (.iadd, 1) := by decide +kernel
theorem dX12_takesItem_108 : decode cX12_takesItem 108 = .ok (.putfield 75, 3) := by decide +kernel
theorem dX12_takesItem_111 : decode cX12_takesItem 111 = .ok (.iload_n 3, 1) := by decide +kernel
theorem dX12_takesItem_112 : decode cX12_takesItem 112 = .ok (.ireturn, 1) := by decide +kernel
set_option maxRecDepth 100000 in
theorem ggX12_town_X12_blanks : GoodIn wsX12_town wsX12_blanks := goodIn_r _ [29, 6, 8, 30, 31, 32, 28, 33, 7, 34, 61, 62, 63, 64, 65, 66, 67, 68, 69, 70, 71, 72, 73, 74, 75, 76, 77, 78, 79, 80, 81, 82, 83, 84, 85, 86, 87, 88, 89, 90, 91, 92, 93, 94, 95] rfl (by decide +kernel)
set_option maxRecDepth 100000 in
theorem gX12_town_X12_blanks : GoodIn wsX12_town (wsV RX12 85 RX12 yX12_blanks wsX12_blanks) := goodIn_app (goodIn_r ([.methodLink RX12 85 yX12_blanks, .instanceMethod yX12_blanks, .selects RX12 yX12_blanks yX12_blanks, .initialized RX12] : List Cond) [25, 26, 27, 28] rfl (by decide +kernel)) ggX12_town_X12_blanks
set_option maxRecDepth 100000 in
theorem ggX12_town_X12_takesItem : GoodIn wsX12_town wsX12_takesItem := goodIn_r _ [38, 6, 30, 31, 32, 28, 33, 7, 34, 39, 40, 41, 42, 1, 13, 43, 15, 17, 44, 45, 46, 47, 48, 49, 8, 25, 26, 27, 29, 50, 51, 52, 53, 54, 55, 56, 2, 19, 57, 58, 59, 60, 4, 3, 61, 62, 63, 64, 65, 66, 67, 68, 69, 70, 71, 72, 73, 74, 75, 76, 77, 78, 79, 80, 81, 82, 83, 84, 85, 86, 87, 88, 89, 90, 91, 92, 93, 94, 95] rfl (by decide +kernel)
set_option maxRecDepth 100000 in
theorem gX12_town_X12_takesItem : GoodIn wsX12_town (wsV RX12 122 RX12 yX12_takesItem wsX12_takesItem) := goodIn_app (goodIn_r ([.methodLink RX12 122 yX12_takesItem, .instanceMethod yX12_takesItem, .selects RX12 yX12_takesItem yX12_takesItem, .initialized RX12] : List Cond) [35, 36, 37, 28] rfl (by decide +kernel)) ggX12_town_X12_takesItem
theorem dX12_town_0 : decode cX12_town 0 = .ok (.aload_n 0, 1) := by decide +kernel
theorem dX12_town_1 : decode cX12_town 1 = .ok (.iconst 0, 1) := by decide +kernel
theorem dX12_town_2 : decode cX12_town 2 = .ok (.putfield 95, 3) := by decide +kernel
theorem dX12_town_5 : decode cX12_town 5 = .ok (.aload_n 0, 1) := by decide +kernel
theorem dX12_town_6 : decode cX12_town 6 = .ok (.iconst 0, 1) := by decide +kernel
theorem dX12_town_7 : decode cX12_town 7 = .ok (.putfield 102, 3) := by decide +kernel
theorem dX12_town_10 : decode cX12_town 10 = .ok (.aload_n 0, 1) := by decide +kernel
theorem dX12_town_11 : decode cX12_town 11 = .ok (.iconst 1, 1) := by decide +kernel
theorem dX12_town_12 : decode cX12_town 12 = .ok (.putfield 63, 3) := by decide +kernel
theorem dX12_town_15 : decode cX12_town 15 = .ok (.aload_n 0, 1) := by decide +kernel
theorem dX12_town_16 : decode cX12_town 16 = .ok (.iconst 0, 1) := by decide +kernel
theorem dX12_town_17 : decode cX12_town 17 = .ok (.putfield 105, 3) := by decide +kernel
theorem dX12_town_20 : decode cX12_town 20 = .ok (.aload_n 0, 1) := by decide +kernel
theorem dX12_town_21 : decode cX12_town 21 = .ok (.iconst 0, 1) := by decide +kernel
theorem dX12_town_22 : decode cX12_town 22 = .ok (.putfield 119, 3) := by decide +kernel
theorem dX12_town_25 : decode cX12_town 25 = .ok (.aload_n 0, 1) := by decide +kernel
theorem dX12_town_26 : decode cX12_town 26 = .ok (.iconst 0, 1) := by decide +kernel
theorem dX12_town_27 : decode cX12_town 27 = .ok (.putfield 75, 3) := by decide +kernel
theorem dX12_town_30 : decode cX12_town 30 = .ok (.aload_n 0, 1) := by decide +kernel
theorem dX12_town_31 : decode cX12_town 31 = .ok (.invokevirtual 85, 3) := by decide +kernel
theorem dX12_town_34 : decode cX12_town 34 = .ok (.aload_n 0, 1) := by decide +kernel
theorem dX12_town_35 : decode cX12_town 35 = .ok (.getfield 75, 3) := by decide +kernel
theorem dX12_town_38 : decode cX12_town 38 = .ok (.aload_n 0, 1) := by decide +kernel
theorem dX12_town_39 : decode cX12_town 39 = .ok (.getfield 72, 3) := by decide +kernel
theorem dX12_town_42 : decode cX12_town 42 = .ok (.if_icmp .ge 35, 3) := by decide +kernel
theorem dX12_town_45 : decode cX12_town 45 = .ok (.aload_n 0, 1) := by decide +kernel
theorem dX12_town_46 : decode cX12_town 46 = .ok (.invokevirtual 122, 3) := by decide +kernel
theorem dX12_town_49 : decode cX12_town 49 = .ok (.ifCond .ne 11, 3) := by decide +kernel
theorem dX12_town_52 : decode cX12_town 52 = .ok (.bipush (-10), 2) := by decide +kernel
theorem dX12_town_54 : decode cX12_town 54 = .ok (.aload_n 0, 1) := by decide +kernel
theorem dX12_town_55 : decode cX12_town 55 = .ok (.getfield 82, 3) := by decide +kernel
theorem dX12_town_58 : decode cX12_town 58 = .ok (.isub, 1) := by decide +kernel
theorem dX12_town_59 : decode cX12_town 59 = .ok (.ireturn, 1) := by decide +kernel
theorem dX12_town_60 : decode cX12_town 60 = .ok (.aload_n 0, 1) := by decide +kernel
theorem dX12_town_61 : decode cX12_town 61 = .ok (.dup, 1) := by decide +kernel
theorem dX12_town_62 : decode cX12_town 62 = .ok (.getfield 119, 3) := by decide +kernel
theorem dX12_town_65 : decode cX12_town 65 = .ok (.iconst 1, 1) := by decide +kernel
theorem dX12_town_66 : decode cX12_town 66 = .ok (.iadd, 1) := by decide +kernel
theorem dX12_town_67 : decode cX12_town 67 = .ok (.putfield 119, 3) := by decide +kernel
theorem dX12_town_70 : decode cX12_town 70 = .ok (.aload_n 0, 1) := by decide +kernel
theorem dX12_town_71 : decode cX12_town 71 = .ok (.invokevirtual 85, 3) := by decide +kernel
theorem dX12_town_74 : decode cX12_town 74 = .ok (.goto (-40), 3) := by decide +kernel
theorem dX12_town_77 : decode cX12_town 77 = .ok (.aload_n 0, 1) := by decide +kernel
theorem dX12_town_78 : decode cX12_town 78 = .ok (.aload_n 0, 1) := by decide +kernel
theorem dX12_town_79 : decode cX12_town 79 = .ok (.getfield 95, 3) := by decide +kernel
theorem dX12_town_82 : decode cX12_town 82 = .ok (.putfield 125, 3) := by decide +kernel
theorem dX12_town_85 : decode cX12_town 85 = .ok (.aload_n 0, 1) := by decide +kernel
theorem dX12_town_86 : decode cX12_town 86 = .ok (.aload_n 0, 1) := by decide +kernel
theorem dX12_town_87 : decode cX12_town 87 = .ok (.getfield 102, 3) := by decide +kernel
theorem dX12_town_90 : decode cX12_town 90 = .ok (.putfield 128, 3) := by decide +kernel
theorem dX12_town_93 : decode cX12_town 93 = .ok (.aload_n 0, 1) := by decide +kernel
theorem dX12_town_94 : decode cX12_town 94 = .ok (.aload_n 0, 1) := by decide +kernel
theorem dX12_town_95 : decode cX12_town 95 = .ok (.getfield 63, 3) := by decide +kernel
theorem dX12_town_98 : decode cX12_town 98 = .ok (.putfield 26, 3) := by decide +kernel
theorem dX12_town_101 : decode cX12_town 101 = .ok (.iconst 0, 1) := by decide +kernel
theorem dX12_town_102 : decode cX12_town 102 = .ok (.istore_n 1, 1) := by decide +kernel
theorem dX12_town_103 : decode cX12_town 103 = .ok (.iload_n 1, 1) := by decide +kernel
theorem dX12_town_104 : decode cX12_town 104 = .ok (.iconst 4, 1) := by decide +kernel
theorem dX12_town_105 : decode cX12_town 105 = .ok (.if_icmp .ge 33, 3) := by decide +kernel
theorem dX12_town_108 : decode cX12_town 108 = .ok (.aload_n 0, 1) := by decide +kernel
theorem dX12_town_109 : decode cX12_town 109 = .ok (.getfield 17, 3) := by decide +kernel
theorem dX12_town_112 : decode cX12_town 112 = .ok (.iload_n 1, 1) := by decide +kernel
theorem dX12_town_113 : decode cX12_town 113 = .ok (.aload_n 0, 1) := by decide +kernel
theorem dX12_town_114 : decode cX12_town 114 = .ok (.getfield 45, 3) := by decide +kernel
theorem dX12_town_117 : decode cX12_town 117 = .ok (.iload_n 1, 1) := by decide +kernel
theorem dX12_town_118 : decode cX12_town 118 = .ok (.iaload, 1) := by decide +kernel
theorem dX12_town_119 : decode cX12_town 119 = .ok (.iastore, 1) := by decide +kernel
theorem dX12_town_120 : decode cX12_town 120 = .ok (.aload_n 0, 1) := by decide +kernel
theorem dX12_town_121 : decode cX12_town 121 = .ok (.getfield 20, 3) := by decide +kernel
theorem dX12_town_124 : decode cX12_town 124 = .ok (.iload_n 1, 1) := by decide +kernel
theorem dX12_town_125 : decode cX12_town 125 = .ok (.aload_n 0, 1) := by decide +kernel
theorem dX12_town_126 : decode cX12_town 126 = .ok (.getfield 48, 3) := by decide +kernel
theorem dX12_town_129 : decode cX12_town 129 = .ok (.iload_n 1, 1) := by decide +kernel
theorem dX12_town_130 : decode cX12_town 130 = .ok (.iaload, 1) := by decide +kernel
theorem dX12_town_131 : decode cX12_town 131 = .ok (.iastore, 1) := by decide +kernel
theorem dX12_town_132 : decode cX12_town 132 = .ok (.iinc 1 1, 3) := by decide +kernel
theorem dX12_town_135 : decode cX12_town 135 = .ok (.goto (-32), 3) := by decide +kernel
theorem dX12_town_138 : decode cX12_town 138 = .ok (.iconst 0, 1) := by decide +kernel
theorem dX12_town_139 : decode cX12_town 139 = .ok (.istore_n 1, 1) := by decide +kernel
theorem dX12_town_140 : decode cX12_town 140 = .ok (.iload_n 1, 1) := by decide +kernel
theorem dX12_town_141 : decode cX12_town 141 = .ok (.bipush 20, 2) := by decide +kernel
theorem dX12_town_143 : decode cX12_town 143 = .ok (.if_icmp .ge 21, 3) := by decide +kernel
theorem dX12_town_146 : decode cX12_town 146 = .ok (.aload_n 0, 1) := by decide +kernel
theorem dX12_town_147 : decode cX12_town 147 = .ok (.getfield 23, 3) := by decide +kernel
theorem dX12_town_150 : decode cX12_town 150 = .ok (.iload_n 1, 1) := by decide +kernel
theorem dX12_town_151 : decode cX12_town 151 = .ok (.aload_n 0, 1) := by decide +kernel
theorem dX12_town_152 : decode cX12_town 152 = .ok (.getfield 51, 3) := by decide +kernel
theorem dX12_town_155 : decode cX12_town 155 = .ok (.iload_n 1, 1) := by decide +kernel
theorem dX12_town_156 : decode cX12_town 156 = .ok (.iaload, 1) := by decide +kernel
theorem dX12_town_157 : decode cX12_town 157 = .ok (.iastore, 1) := by decide +kernel
theorem dX12_town_158 : decode cX12_town 158 = .ok (.iinc 1 1, 3) := by decide +kernel
theorem dX12_town_161 : decode cX12_town 161 = .ok (.goto (-21), 3) := by decide +kernel
theorem dX12_town_164 : decode cX12_town 164 = .ok (.iconst 0, 1) := by decide +kernel
theorem dX12_town_165 : decode cX12_town 165 = .ok (.istore_n 1, 1) := by decide +kernel
theorem dX12_town_166 : decode cX12_town 166 = .ok (.iload_n 1, 1) := by decide +kernel
theorem dX12_town_167 : decode cX12_town 167 = .ok (.bipush 30, 2) := by decide +kernel
theorem dX12_town_169 : decode cX12_town 169 = .ok (.if_icmp .ge 21, 3) := by decide +kernel
theorem dX12_town_172 : decode cX12_town 172 = .ok (.aload_n 0, 1) := by decide +kernel
theorem dX12_town_173 : decode cX12_town 173 = .ok (.getfield 30, 3) := by decide +kernel
theorem dX12_town_176 : decode cX12_town 176 = .ok (.iload_n 1, 1) := by decide +kernel
theorem dX12_town_177 : decode cX12_town 177 = .ok (.aload_n 0, 1) := by decide +kernel
theorem dX12_town_178 : decode cX12_town 178 = .ok (.getfield 54, 3) := by decide +kernel
theorem dX12_town_181 : decode cX12_town 181 = .ok (.iload_n 1, 1) := by decide +kernel
theorem dX12_town_182 : decode cX12_town 182 = .ok (.iaload, 1) := by decide +kernel
theorem dX12_town_183 : decode cX12_town 183 = .ok (.iastore, 1) := by decide +kernel
theorem dX12_town_184 : decode cX12_town 184 = .ok (.iinc 1 1, 3) := by decide +kernel
theorem dX12_town_187 : decode cX12_town 187 = .ok (.goto (-21), 3) := by decide +kernel
theorem dX12_town_190 : decode cX12_town 190 = .ok (.iconst 0, 1) := by decide +kernel
theorem dX12_town_191 : decode cX12_town 191 = .ok (.istore_n 1, 1) := by decide +kernel
theorem dX12_town_192 : decode cX12_town 192 = .ok (.iload_n 1, 1) := by decide +kernel
theorem dX12_town_193 : decode cX12_town 193 = .ok (.bipush 120, 2) := by decide +kernel
theorem dX12_town_195 : decode cX12_town 195 = .ok (.if_icmp .ge 16, 3) := by decide +kernel
theorem dX12_town_198 : decode cX12_town 198 = .ok (.aload_n 0, 1) := by decide +kernel
theorem dX12_town_199 : decode cX12_town 199 = .ok (.getfield 7, 3) := by decide +kernel
theorem dX12_town_202 : decode cX12_town 202 = .ok (.iload_n 1, 1) := by decide +kernel
theorem dX12_town_203 : decode cX12_town 203 = .ok (.iconst 0, 1) := by decide +kernel
theorem dX12_town_204 : decode cX12_town 204 = .ok (.iastore, 1) := by decide +kernel
theorem dX12_town_205 : decode cX12_town 205 = .ok (.iinc 1 1, 3) := by decide +kernel
theorem dX12_town_208 : decode cX12_town 208 = .ok (.goto (-16), 3) := by decide +kernel
theorem dX12_town_211 : decode cX12_town 211 = .ok (.iconst 0, 1) := by decide +kernel
theorem dX12_town_212 : decode cX12_town 212 = .ok (.istore_n 1, 1) := by decide +kernel
theorem dX12_town_213 : decode cX12_town 213 = .ok (.iload_n 1, 1) := by decide +kernel
theorem dX12_town_214 : decode cX12_town 214 = .ok (.aload_n 0, 1) := by decide +kernel
theorem dX12_town_215 : decode cX12_town 215 = .ok (.getfield 125, 3) := by decide +kernel
theorem dX12_town_218 : decode cX12_town 218 = .ok (.if_icmp .ge 24, 3) := by decide +kernel
theorem dX12_town_221 : decode cX12_town 221 = .ok (.aload_n 0, 1) := by decide +kernel
theorem dX12_town_222 : decode cX12_town 222 = .ok (.getfield 7, 3) := by decide +kernel
theorem dX12_town_225 : decode cX12_town 225 = .ok (.bipush 6, 2) := by decide +kernel
theorem dX12_town_227 : decode cX12_town 227 = .ok (.iload_n 1, 1) := by decide +kernel
theorem dX12_town_228 : decode cX12_town 228 = .ok (.iadd, 1) := by decide +kernel
theorem dX12_town_229 : decode cX12_town 229 = .ok (.aload_n 0, 1) := by decide +kernel
theorem dX12_town_230 : decode cX12_town 230 = .ok (.getfield 17, 3) := by decide +kernel
theorem dX12_town_233 : decode cX12_town 233 = .ok (.iload_n 1, 1) := by decide +kernel
theorem dX12_town_234 : decode cX12_town 234 = .ok (.iaload, 1) := by decide +kernel
theorem dX12_town_235 : decode cX12_town 235 = .ok (.iastore, 1) := by decide +kernel
theorem dX12_town_236 : decode cX12_town 236 = .ok (.iinc 1 1, 3) := by decide +kernel
theorem dX12_town_239 : decode cX12_town 239 = .ok (.goto (-26), 3) := by decide +kernel
theorem dX12_town_242 : decode cX12_town 242 = .ok (.aload_n 0, 1) := by decide +kernel
theorem dX12_town_243 : decode cX12_town 243 = .ok (.iconst 0, 1) := by decide +kernel
theorem dX12_town_244 : decode cX12_town 244 = .ok (.putfield 131, 3) := by decide +kernel
theorem dX12_town_247 : decode cX12_town 247 = .ok (.aload_n 0, 1) := by decide +kernel
theorem dX12_town_248 : decode cX12_town 248 = .ok (.iconst 0, 1) := by decide +kernel
theorem dX12_town_249 : decode cX12_town 249 = .ok (.putfield 134, 3) := by decide +kernel
theorem dX12_town_252 : decode cX12_town 252 = .ok (.aload_n 0, 1) := by decide +kernel
theorem dX12_town_253 : decode cX12_town 253 = .ok (.iconst 0, 1) := by decide +kernel
theorem dX12_town_254 : decode cX12_town 254 = .ok (.putfield 137, 3) := by decide +kernel
theorem dX12_town_257 : decode cX12_town 257 = .ok (.aload_n 0, 1) := by decide +kernel
theorem dX12_town_258 : decode cX12_town 258 = .ok (.getfield 13, 3) := by decide +kernel
theorem dX12_town_261 : decode cX12_town 261 = .ok (.iconst 0, 1) := by decide +kernel
theorem dX12_town_262 : decode cX12_town 262 = .ok (.iconst 0, 1) := by decide +kernel
theorem dX12_town_263 : decode cX12_town 263 = .ok (.bastore, 1) := by decide +kernel
theorem dX12_town_264 : decode cX12_town 264 = .ok (.aload_n 0, 1) := by decide +kernel
theorem dX12_town_265 : decode cX12_town 265 = .ok (.getfield 13, 3) := by decide +kernel
theorem dX12_town_268 : decode cX12_town 268 = .ok (.iconst 1, 1) := by decide +kernel
theorem dX12_town_269 : decode cX12_town 269 = .ok (.iconst 0, 1) := by decide +kernel
theorem dX12_town_270 : decode cX12_town 270 = .ok (.bastore, 1) := by decide +kernel
theorem dX12_town_271 : decode cX12_town 271 = .ok (.aload_n 0, 1) := by decide +kernel
theorem dX12_town_272 : decode cX12_town 272 = .ok (.iconst 0, 1) := by decide +kernel
theorem dX12_town_273 : decode cX12_town 273 = .ok (.putfield 72, 3) := by decide +kernel
theorem dX12_town_276 : decode cX12_town 276 = .ok (.aload_n 0, 1) := by decide +kernel
theorem dX12_town_277 : decode cX12_town 277 = .ok (.getfield 119, 3) := by decide +kernel
theorem dX12_town_280 : decode cX12_town 280 = .ok (.ireturn, 1) := by decide +kernel
set_option maxRecDepth 100000 in
theorem ggX12_isBidder_X12_in : GoodIn wsX12_isBidder wsX12_in := goodIn_r _ [5] rfl (by decide +kernel)
set_option maxRecDepth 100000 in
theorem gX12_isBidder_X12_in : GoodIn wsX12_isBidder (va_wsS RX12 68 yX12_in wsX12_in) := goodIn_app (goodIn_r ([.methodLink RX12 68 yX12_in, .static yX12_in, .initialized RX12] : List Cond) [2, 3, 4] rfl (by decide +kernel)) ggX12_isBidder_X12_in
theorem dX12_isBidder_0 : decode cX12_isBidder 0 = .ok (.iload_n 1, 1) := by decide +kernel
theorem dX12_isBidder_1 : decode cX12_isBidder 1 = .ok (.i2l, 1) := by decide +kernel
theorem dX12_isBidder_2 : decode cX12_isBidder 2 = .ok (.lconst 0, 1) := by decide +kernel
theorem dX12_isBidder_3 : decode cX12_isBidder 3 = .ok (.aload_n 0, 1) := by decide +kernel
theorem dX12_isBidder_4 : decode cX12_isBidder 4 = .ok (.getfield 125, 3) := by decide +kernel
theorem dX12_isBidder_7 : decode cX12_isBidder 7 = .ok (.iconst 1, 1) := by decide +kernel
theorem dX12_isBidder_8 : decode cX12_isBidder 8 = .ok (.isub, 1) := by decide +kernel
theorem dX12_isBidder_9 : decode cX12_isBidder 9 = .ok (.i2l, 1) := by decide +kernel
theorem dX12_isBidder_10 : decode cX12_isBidder 10 = .ok (.invokestatic 68, 3) := by decide +kernel
theorem dX12_isBidder_13 : decode cX12_isBidder 13 = .ok (.ireturn, 1) := by decide +kernel
set_option maxRecDepth 100000 in
theorem ggX12_isDebt_X12_in : GoodIn wsX12_isDebt wsX12_in := goodIn_r _ [5] rfl (by decide +kernel)
set_option maxRecDepth 100000 in
theorem gX12_isDebt_X12_in : GoodIn wsX12_isDebt (va_wsS RX12 68 yX12_in wsX12_in) := goodIn_app (goodIn_r ([.methodLink RX12 68 yX12_in, .static yX12_in, .initialized RX12] : List Cond) [2, 3, 4] rfl (by decide +kernel)) ggX12_isDebt_X12_in
theorem dX12_isDebt_0 : decode cX12_isDebt 0 = .ok (.iload_n 1, 1) := by decide +kernel
theorem dX12_isDebt_1 : decode cX12_isDebt 1 = .ok (.i2l, 1) := by decide +kernel
theorem dX12_isDebt_2 : decode cX12_isDebt 2 = .ok (.lconst 0, 1) := by decide +kernel
theorem dX12_isDebt_3 : decode cX12_isDebt 3 = .ok (.aload_n 0, 1) := by decide +kernel
theorem dX12_isDebt_4 : decode cX12_isDebt 4 = .ok (.getfield 128, 3) := by decide +kernel
theorem dX12_isDebt_7 : decode cX12_isDebt 7 = .ok (.iconst 1, 1) := by decide +kernel
theorem dX12_isDebt_8 : decode cX12_isDebt 8 = .ok (.isub, 1) := by decide +kernel
theorem dX12_isDebt_9 : decode cX12_isDebt 9 = .ok (.i2l, 1) := by decide +kernel
theorem dX12_isDebt_10 : decode cX12_isDebt 10 = .ok (.invokestatic 68, 3) := by decide +kernel
theorem dX12_isDebt_13 : decode cX12_isDebt 13 = .ok (.ireturn, 1) := by decide +kernel
set_option maxRecDepth 100000 in
theorem ggX12_isName_X12_in : GoodIn wsX12_isName wsX12_in := goodIn_r _ [5] rfl (by decide +kernel)
set_option maxRecDepth 100000 in
theorem gX12_isName_X12_in : GoodIn wsX12_isName (va_wsS RX12 68 yX12_in wsX12_in) := goodIn_app (goodIn_r ([.methodLink RX12 68 yX12_in, .static yX12_in, .initialized RX12] : List Cond) [2, 3, 4] rfl (by decide +kernel)) ggX12_isName_X12_in
theorem dX12_isName_0 : decode cX12_isName 0 = .ok (.iload_n 0, 1) := by decide +kernel
theorem dX12_isName_1 : decode cX12_isName 1 = .ok (.i2l, 1) := by decide +kernel
theorem dX12_isName_2 : decode cX12_isName 2 = .ok (.lconst 0, 1) := by decide +kernel
theorem dX12_isName_3 : decode cX12_isName 3 = .ok (.ldc2_w 140, 3) := by decide +kernel
theorem dX12_isName_6 : decode cX12_isName 6 = .ok (.invokestatic 68, 3) := by decide +kernel
theorem dX12_isName_9 : decode cX12_isName 9 = .ok (.ireturn, 1) := by decide +kernel
set_option maxRecDepth 100000 in
theorem ggX12_bidder_X12_isBidder : GoodIn wsX12_bidder wsX12_isBidder := goodIn_r _ [9, 10, 11, 12, 8, 13, 14, 15, 16, 17, 18, 19, 20, 21, 22, 23, 24, 25, 26, 27, 28, 29, 30, 31, 32, 33, 34, 35, 36, 37, 38, 39, 40, 41, 42, 43, 44, 45, 46, 47, 48] rfl (by decide +kernel)
set_option maxRecDepth 100000 in
theorem gX12_bidder_X12_isBidder : GoodIn wsX12_bidder (wsV RX12 142 RX12 yX12_isBidder wsX12_isBidder) := goodIn_app (goodIn_r ([.methodLink RX12 142 yX12_isBidder, .instanceMethod yX12_isBidder, .selects RX12 yX12_isBidder yX12_isBidder, .initialized RX12] : List Cond) [5, 6, 7, 8] rfl (by decide +kernel)) ggX12_bidder_X12_isBidder
set_option maxRecDepth 100000 in
theorem ggX12_bidder_X12_in : GoodIn wsX12_bidder wsX12_in := goodIn_r _ [13] rfl (by decide +kernel)
set_option maxRecDepth 100000 in
theorem gX12_bidder_X12_in : GoodIn wsX12_bidder (va_wsS RX12 68 yX12_in wsX12_in) := goodIn_app (goodIn_r ([.methodLink RX12 68 yX12_in, .static yX12_in, .initialized RX12] : List Cond) [11, 12, 8] rfl (by decide +kernel)) ggX12_bidder_X12_in
theorem dX12_bidder_0 : decode cX12_bidder 0 = .ok (.aload_n 0, 1) := by decide +kernel
theorem dX12_bidder_1 : decode cX12_bidder 1 = .ok (.iload_n 1, 1) := by decide +kernel
theorem dX12_bidder_2 : decode cX12_bidder 2 = .ok (.invokevirtual 142, 3) := by decide +kernel
theorem dX12_bidder_5 : decode cX12_bidder 5 = .ok (.ifCond .eq 15, 3) := by decide +kernel
theorem dX12_bidder_8 : decode cX12_bidder 8 = .ok (.iload_n 2, 1) := by decide +kernel
theorem dX12_bidder_9 : decode cX12_bidder 9 = .ok (.i2l, 1) := by decide +kernel
theorem dX12_bidder_10 : decode cX12_bidder 10 = .ok (.lconst 0, 1) := by decide +kernel
theorem dX12_bidder_11 : decode cX12_bidder 11 = .ok (.ldc2_w 146, 3) := by decide +kernel
theorem dX12_bidder_14 : decode cX12_bidder 14 = .ok (.invokestatic 68, 3) := by decide +kernel
theorem dX12_bidder_17 : decode cX12_bidder 17 = .ok (.ifCond .ne 5, 3) := by decide +kernel
theorem dX12_bidder_20 : decode cX12_bidder 20 = .ok (.iconst (-1), 1) := by decide +kernel
theorem dX12_bidder_21 : decode cX12_bidder 21 = .ok (.ireturn, 1) := by decide +kernel
theorem dX12_bidder_22 : decode cX12_bidder 22 = .ok (.iload_n 2, 1) := by decide +kernel
theorem dX12_bidder_23 : decode cX12_bidder 23 = .ok (.ifCond .ne 15, 3) := by decide +kernel
theorem dX12_bidder_26 : decode cX12_bidder 26 = .ok (.aload_n 0, 1) := by decide +kernel
theorem dX12_bidder_27 : decode cX12_bidder 27 = .ok (.getfield 7, 3) := by decide +kernel
theorem dX12_bidder_30 : decode cX12_bidder 30 = .ok (.bipush 6, 2) := by decide +kernel
theorem dX12_bidder_32 : decode cX12_bidder 32 = .ok (.iload_n 1, 1) := by decide +kernel
theorem dX12_bidder_33 : decode cX12_bidder 33 = .ok (.iadd, 1) := by decide +kernel
theorem dX12_bidder_34 : decode cX12_bidder 34 = .ok (.iaload, 1) := by decide +kernel
theorem dX12_bidder_35 : decode cX12_bidder 35 = .ok (.goto 29, 3) := by decide +kernel
theorem dX12_bidder_38 : decode cX12_bidder 38 = .ok (.iload_n 2, 1) := by decide +kernel
theorem dX12_bidder_39 : decode cX12_bidder 39 = .ok (.iconst 1, 1) := by decide +kernel
theorem dX12_bidder_40 : decode cX12_bidder 40 = .ok (.if_icmp .ne 12, 3) := by decide +kernel
theorem dX12_bidder_43 : decode cX12_bidder 43 = .ok (.aload_n 0, 1) := by decide +kernel
theorem dX12_bidder_44 : decode cX12_bidder 44 = .ok (.getfield 20, 3) := by decide +kernel
theorem dX12_bidder_47 : decode cX12_bidder 47 = .ok (.iload_n 1, 1) := by decide +kernel
theorem dX12_bidder_48 : decode cX12_bidder 48 = .ok (.iaload, 1) := by decide +kernel
theorem dX12_bidder_49 : decode cX12_bidder 49 = .ok (.goto 15, 3) := by decide +kernel
theorem dX12_bidder_52 : decode cX12_bidder 52 = .ok (.aload_n 0, 1) := by decide +kernel
theorem dX12_bidder_53 : decode cX12_bidder 53 = .ok (.getfield 23, 3) := by decide +kernel
theorem dX12_bidder_56 : decode cX12_bidder 56 = .ok (.iconst 5, 1) := by decide +kernel
theorem dX12_bidder_57 : decode cX12_bidder 57 = .ok (.iload_n 1, 1) := by decide +kernel
theorem dX12_bidder_58 : decode cX12_bidder 58 = .ok (.imul, 1) := by decide +kernel
theorem dX12_bidder_59 : decode cX12_bidder 59 = .ok (.iload_n 2, 1) := by decide +kernel
theorem dX12_bidder_60 : decode cX12_bidder 60 = .ok (.iadd, 1) := by decide +kernel
theorem dX12_bidder_61 : decode cX12_bidder 61 = .ok (.iconst 2, 1) := by decide +kernel
theorem dX12_bidder_62 : decode cX12_bidder 62 = .ok (.isub, 1) := by decide +kernel
theorem dX12_bidder_63 : decode cX12_bidder 63 = .ok (.iaload, 1) := by decide +kernel
theorem dX12_bidder_64 : decode cX12_bidder 64 = .ok (.ireturn, 1) := by decide +kernel
set_option maxRecDepth 100000 in
theorem ggX12_debt_X12_isDebt : GoodIn wsX12_debt wsX12_isDebt := goodIn_r _ [8, 9, 10, 11, 7, 12, 13, 14, 15, 16, 17, 18, 19, 20, 21, 22, 23, 24, 25, 26, 27, 28, 29, 30, 31, 32, 33, 34, 35, 36, 37, 38, 39, 40, 41, 42, 43, 44, 45, 46, 47] rfl (by decide +kernel)
set_option maxRecDepth 100000 in
theorem gX12_debt_X12_isDebt : GoodIn wsX12_debt (wsV RX12 148 RX12 yX12_isDebt wsX12_isDebt) := goodIn_app (goodIn_r ([.methodLink RX12 148 yX12_isDebt, .instanceMethod yX12_isDebt, .selects RX12 yX12_isDebt yX12_isDebt, .initialized RX12] : List Cond) [4, 5, 6, 7] rfl (by decide +kernel)) ggX12_debt_X12_isDebt
set_option maxRecDepth 100000 in
theorem ggX12_debt_X12_in : GoodIn wsX12_debt wsX12_in := goodIn_r _ [12] rfl (by decide +kernel)
set_option maxRecDepth 100000 in
theorem gX12_debt_X12_in : GoodIn wsX12_debt (va_wsS RX12 68 yX12_in wsX12_in) := goodIn_app (goodIn_r ([.methodLink RX12 68 yX12_in, .static yX12_in, .initialized RX12] : List Cond) [10, 11, 7] rfl (by decide +kernel)) ggX12_debt_X12_in
theorem dX12_debt_0 : decode cX12_debt 0 = .ok (.aload_n 0, 1) := by decide +kernel
theorem dX12_debt_1 : decode cX12_debt 1 = .ok (.iload_n 1, 1) := by decide +kernel
theorem dX12_debt_2 : decode cX12_debt 2 = .ok (.invokevirtual 148, 3) := by decide +kernel
theorem dX12_debt_5 : decode cX12_debt 5 = .ok (.ifCond .eq 15, 3) := by decide +kernel
theorem dX12_debt_8 : decode cX12_debt 8 = .ok (.iload_n 2, 1) := by decide +kernel
theorem dX12_debt_9 : decode cX12_debt 9 = .ok (.i2l, 1) := by decide +kernel
theorem dX12_debt_10 : decode cX12_debt 10 = .ok (.lconst 0, 1) := by decide +kernel
theorem dX12_debt_11 : decode cX12_debt 11 = .ok (.ldc2_w 151, 3) := by decide +kernel
theorem dX12_debt_14 : decode cX12_debt 14 = .ok (.invokestatic 68, 3) := by decide +kernel
theorem dX12_debt_17 : decode cX12_debt 17 = .ok (.ifCond .ne 5, 3) := by decide +kernel
theorem dX12_debt_20 : decode cX12_debt 20 = .ok (.iconst (-1), 1) := by decide +kernel
theorem dX12_debt_21 : decode cX12_debt 21 = .ok (.ireturn, 1) := by decide +kernel
theorem dX12_debt_22 : decode cX12_debt 22 = .ok (.iload_n 2, 1) := by decide +kernel
theorem dX12_debt_23 : decode cX12_debt 23 = .ok (.iconst 5, 1) := by decide +kernel
theorem dX12_debt_24 : decode cX12_debt 24 = .ok (.if_icmp .ge 16, 3) := by decide +kernel
theorem dX12_debt_27 : decode cX12_debt 27 = .ok (.aload_n 0, 1) := by decide +kernel
theorem dX12_debt_28 : decode cX12_debt 28 = .ok (.getfield 30, 3) := by decide +kernel
theorem dX12_debt_31 : decode cX12_debt 31 = .ok (.iconst 5, 1) := by decide +kernel
theorem dX12_debt_32 : decode cX12_debt 32 = .ok (.iload_n 1, 1) := by decide +kernel
theorem dX12_debt_33 : decode cX12_debt 33 = .ok (.imul, 1) := by decide +kernel
theorem dX12_debt_34 : decode cX12_debt 34 = .ok (.iload_n 2, 1) := by decide +kernel
theorem dX12_debt_35 : decode cX12_debt 35 = .ok (.iadd, 1) := by decide +kernel
theorem dX12_debt_36 : decode cX12_debt 36 = .ok (.iaload, 1) := by decide +kernel
theorem dX12_debt_37 : decode cX12_debt 37 = .ok (.goto 12, 3) := by decide +kernel
theorem dX12_debt_40 : decode cX12_debt 40 = .ok (.aload_n 0, 1) := by decide +kernel
theorem dX12_debt_41 : decode cX12_debt 41 = .ok (.getfield 7, 3) := by decide +kernel
theorem dX12_debt_44 : decode cX12_debt 44 = .ok (.bipush 10, 2) := by decide +kernel
theorem dX12_debt_46 : decode cX12_debt 46 = .ok (.iload_n 1, 1) := by decide +kernel
theorem dX12_debt_47 : decode cX12_debt 47 = .ok (.iadd, 1) := by decide +kernel
theorem dX12_debt_48 : decode cX12_debt 48 = .ok (.iaload, 1) := by decide +kernel
theorem dX12_debt_49 : decode cX12_debt 49 = .ok (.ireturn, 1) := by decide +kernel
set_option maxRecDepth 100000 in
theorem ggX12_day_X12_in : GoodIn wsX12_day wsX12_in := goodIn_r _ [5] rfl (by decide +kernel)
set_option maxRecDepth 100000 in
theorem gX12_day_X12_in : GoodIn wsX12_day (va_wsS RX12 68 yX12_in wsX12_in) := goodIn_app (goodIn_r ([.methodLink RX12 68 yX12_in, .static yX12_in, .initialized RX12] : List Cond) [2, 3, 4] rfl (by decide +kernel)) ggX12_day_X12_in
theorem dX12_day_0 : decode cX12_day 0 = .ok (.iload_n 1, 1) := by decide +kernel
theorem dX12_day_1 : decode cX12_day 1 = .ok (.i2l, 1) := by decide +kernel
theorem dX12_day_2 : decode cX12_day 2 = .ok (.lconst 1, 1) := by decide +kernel
theorem dX12_day_3 : decode cX12_day 3 = .ok (.aload_n 0, 1) := by decide +kernel
theorem dX12_day_4 : decode cX12_day 4 = .ok (.getfield 7, 3) := by decide +kernel
theorem dX12_day_7 : decode cX12_day 7 = .ok (.iconst 0, 1) := by decide +kernel
theorem dX12_day_8 : decode cX12_day 8 = .ok (.iaload, 1) := by decide +kernel
theorem dX12_day_9 : decode cX12_day 9 = .ok (.i2l, 1) := by decide +kernel
theorem dX12_day_10 : decode cX12_day 10 = .ok (.invokestatic 68, 3) := by decide +kernel
theorem dX12_day_13 : decode cX12_day 13 = .ok (.ifCond .eq 17, 3) := by decide +kernel
theorem dX12_day_16 : decode cX12_day 16 = .ok (.aload_n 0, 1) := by decide +kernel
theorem dX12_day_17 : decode cX12_day 17 = .ok (.getfield 7, 3) := by decide +kernel
theorem dX12_day_20 : decode cX12_day 20 = .ok (.bipush 16, 2) := by decide +kernel
theorem dX12_day_22 : decode cX12_day 22 = .ok (.iload_n 1, 1) := by decide +kernel
theorem dX12_day_23 : decode cX12_day 23 = .ok (.iadd, 1) := by decide +kernel
theorem dX12_day_24 : decode cX12_day 24 = .ok (.iconst 1, 1) := by decide +kernel
theorem dX12_day_25 : decode cX12_day 25 = .ok (.isub, 1) := by decide +kernel
theorem dX12_day_26 : decode cX12_day 26 = .ok (.iaload, 1) := by decide +kernel
theorem dX12_day_27 : decode cX12_day 27 = .ok (.goto 4, 3) := by decide +kernel
theorem dX12_day_30 : decode cX12_day 30 = .ok (.iconst (-1), 1) := by decide +kernel
theorem dX12_day_31 : decode cX12_day 31 = .ok (.ireturn, 1) := by decide +kernel
theorem dX12_countOf_0 : decode cX12_countOf 0 = .ok (.iconst 0, 1) := by decide +kernel
theorem dX12_countOf_1 : decode cX12_countOf 1 = .ok (.istore_n 3, 1) := by decide +kernel
theorem dX12_countOf_2 : decode cX12_countOf 2 = .ok (.iconst 0, 1) := by decide +kernel
theorem dX12_countOf_3 : decode cX12_countOf 3 = .ok (.istore 4, 2) := by decide +kernel
theorem dX12_countOf_5 : decode cX12_countOf 5 = .ok (.iload 4, 2) := by decide +kernel
theorem dX12_countOf_7 : decode cX12_countOf 7 = .ok (.aload_n 0, 1) := by decide +kernel
theorem dX12_countOf_8 : decode cX12_countOf 8 = .ok (.getfield 7, 3) := by decide +kernel
theorem dX12_countOf_11 : decode cX12_countOf 11 = .ok (.iload_n 1, 1) := by decide +kernel
theorem dX12_countOf_12 : decode cX12_countOf 12 = .ok (.iconst 0, 1) := by decide +kernel
theorem dX12_countOf_13 : decode cX12_countOf 13 = .ok (.iadd, 1) := by decide +kernel
theorem dX12_countOf_14 : decode cX12_countOf 14 = .ok (.iaload, 1) := by decide +kernel
theorem dX12_countOf_15 : decode cX12_countOf 15 = .ok (.if_icmp .ge 33, 3) := by decide +kernel
theorem dX12_countOf_18 : decode cX12_countOf 18 = .ok (.iload_n 3, 1) := by decide +kernel
theorem dX12_countOf_19 : decode cX12_countOf 19 = .ok (.aload_n 0, 1) := by decide +kernel
theorem dX12_countOf_20 : decode cX12_countOf 20 = .ok (.getfield 7, 3) := by decide +kernel
theorem dX12_countOf_23 : decode cX12_countOf 23 = .ok (.iload_n 1, 1) := by decide +kernel
theorem dX12_countOf_24 : decode cX12_countOf 24 = .ok (.bipush 16, 2) := by decide +kernel
theorem dX12_countOf_26 : decode cX12_countOf 26 = .ok (.iadd, 1) := by decide +kernel
theorem dX12_countOf_27 : decode cX12_countOf 27 = .ok (.iload 4, 2) := by decide +kernel
theorem dX12_countOf_29 : decode cX12_countOf 29 = .ok (.iadd, 1) := by decide +kernel
theorem dX12_countOf_30 : decode cX12_countOf 30 = .ok (.iaload, 1) := by decide +kernel
theorem dX12_countOf_31 : decode cX12_countOf 31 = .ok (.iload_n 2, 1) := by decide +kernel
theorem dX12_countOf_32 : decode cX12_countOf 32 = .ok (.if_icmp .ne 7, 3) := by decide +kernel
theorem dX12_countOf_35 : decode cX12_countOf 35 = .ok (.iconst 1, 1) := by decide +kernel
theorem dX12_countOf_36 : decode cX12_countOf 36 = .ok (.goto 4, 3) := by decide +kernel
theorem dX12_countOf_39 : decode cX12_countOf 39 = .ok (.iconst 0, 1) := by decide +kernel
theorem dX12_countOf_40 : decode cX12_countOf 40 = .ok (.iadd, 1) := by decide +kernel
theorem dX12_countOf_41 : decode cX12_countOf 41 = .ok (.istore_n 3, 1) := by decide +kernel
theorem dX12_countOf_42 : decode cX12_countOf 42 = .ok (.iinc 4 1, 3) := by decide +kernel
theorem dX12_countOf_45 : decode cX12_countOf 45 = .ok (.goto (-40), 3) := by decide +kernel
theorem dX12_countOf_48 : decode cX12_countOf 48 = .ok (.iload_n 3, 1) := by decide +kernel
theorem dX12_countOf_49 : decode cX12_countOf 49 = .ok (.ireturn, 1) := by decide +kernel
theorem dX12_isBarred_0 : decode cX12_isBarred 0 = .ok (.iconst 0, 1) := by decide +kernel
theorem dX12_isBarred_1 : decode cX12_isBarred 1 = .ok (.istore_n 3, 1) := by decide +kernel
theorem dX12_isBarred_2 : decode cX12_isBarred 2 = .ok (.iconst 1, 1) := by decide +kernel
theorem dX12_isBarred_3 : decode cX12_isBarred 3 = .ok (.istore 4, 2) := by decide +kernel
theorem dX12_isBarred_5 : decode cX12_isBarred 5 = .ok (.iload 4, 2) := by decide +kernel
theorem dX12_isBarred_7 : decode cX12_isBarred 7 = .ok (.aload_n 0, 1) := by decide +kernel
theorem dX12_isBarred_8 : decode cX12_isBarred 8 = .ok (.getfield 26, 3) := by decide +kernel
theorem dX12_isBarred_11 : decode cX12_isBarred 11 = .ok (.if_icmp .gt 57, 3) := by decide +kernel
theorem dX12_isBarred_14 : decode cX12_isBarred 14 = .ok (.iload 4, 2) := by decide +kernel
theorem dX12_isBarred_16 : decode cX12_isBarred 16 = .ok (.aload_n 0, 1) := by decide +kernel
theorem dX12_isBarred_17 : decode cX12_isBarred 17 = .ok (.getfield 7, 3) := by decide +kernel
theorem dX12_isBarred_20 : decode cX12_isBarred 20 = .ok (.iload_n 1, 1) := by decide +kernel
theorem dX12_isBarred_21 : decode cX12_isBarred 21 = .ok (.iconst 0, 1) := by decide +kernel
theorem dX12_isBarred_22 : decode cX12_isBarred 22 = .ok (.iadd, 1) := by decide +kernel
theorem dX12_isBarred_23 : decode cX12_isBarred 23 = .ok (.iaload, 1) := by decide +kernel
theorem dX12_isBarred_24 : decode cX12_isBarred 24 = .ok (.if_icmp .gt 44, 3) := by decide +kernel
theorem dX12_isBarred_27 : decode cX12_isBarred 27 = .ok (.iload_n 3, 1) := by decide +kernel
theorem dX12_isBarred_28 : decode cX12_isBarred 28 = .ok (.ifCond .ne 28, 3) := by decide +kernel
theorem dX12_isBarred_31 : decode cX12_isBarred 31 = .ok (.aload_n 0, 1) := by decide +kernel
theorem dX12_isBarred_32 : decode cX12_isBarred 32 = .ok (.getfield 7, 3) := by decide +kernel
theorem dX12_isBarred_35 : decode cX12_isBarred 35 = .ok (.iload_n 1, 1) := by decide +kernel
theorem dX12_isBarred_36 : decode cX12_isBarred 36 = .ok (.bipush 16, 2) := by decide +kernel
theorem dX12_isBarred_38 : decode cX12_isBarred 38 = .ok (.iadd, 1) := by decide +kernel
theorem dX12_isBarred_39 : decode cX12_isBarred 39 = .ok (.aload_n 0, 1) := by decide +kernel
theorem dX12_isBarred_40 : decode cX12_isBarred 40 = .ok (.getfield 7, 3) := by decide +kernel
theorem dX12_isBarred_43 : decode cX12_isBarred 43 = .ok (.iload_n 1, 1) := by decide +kernel
theorem dX12_isBarred_44 : decode cX12_isBarred 44 = .ok (.iconst 0, 1) := by decide +kernel
theorem dX12_isBarred_45 : decode cX12_isBarred 45 = .ok (.iadd, 1) := by decide +kernel
theorem dX12_isBarred_46 : decode cX12_isBarred 46 = .ok (.iaload, 1) := by decide +kernel
theorem dX12_isBarred_47 : decode cX12_isBarred 47 = .ok (.iadd, 1) := by decide +kernel
theorem dX12_isBarred_48 : decode cX12_isBarred 48 = .ok (.iload 4, 2) := by decide +kernel
theorem dX12_isBarred_50 : decode cX12_isBarred 50 = .ok (.isub, 1) := by decide +kernel
theorem dX12_isBarred_51 : decode cX12_isBarred 51 = .ok (.iaload, 1) := by decide +kernel
theorem dX12_isBarred_52 : decode cX12_isBarred 52 = .ok (.iload_n 2, 1) := by decide +kernel
theorem dX12_isBarred_53 : decode cX12_isBarred 53 = .ok (.if_icmp .ne 7, 3) := by decide +kernel
theorem dX12_isBarred_56 : decode cX12_isBarred 56 = .ok (.iconst 1, 1) := by decide +kernel
theorem dX12_isBarred_57 : decode cX12_isBarred 57 = .ok (.goto 4, 3) := by decide +kernel
theorem dX12_isBarred_60 : decode cX12_isBarred 60 = .ok (.iconst 0, 1) := by decide +kernel
theorem dX12_isBarred_61 : decode cX12_isBarred 61 = .ok (.istore_n 3, 1) := by decide +kernel
theorem dX12_isBarred_62 : decode cX12_isBarred 62 = .ok (.iinc 4 1, 3) := by decide +kernel
theorem dX12_isBarred_65 : decode cX12_isBarred 65 = .ok (.goto (-60), 3) := by decide +kernel
theorem dX12_isBarred_68 : decode cX12_isBarred 68 = .ok (.iload_n 3, 1) := by decide +kernel
theorem dX12_isBarred_69 : decode cX12_isBarred 69 = .ok (.ireturn, 1) := by decide +kernel
set_option maxRecDepth 100000 in
theorem ggX12_name_X12_isName : GoodIn wsX12_name wsX12_isName := goodIn_r _ [6, 7, 8, 9, 5, 10] rfl (by decide +kernel)
set_option maxRecDepth 100000 in
theorem gX12_name_X12_isName : GoodIn wsX12_name (va_wsS RX12 153 yX12_isName wsX12_isName) := goodIn_app (goodIn_r ([.methodLink RX12 153 yX12_isName, .static yX12_isName, .initialized RX12] : List Cond) [3, 4, 5] rfl (by decide +kernel)) ggX12_name_X12_isName
set_option maxRecDepth 100000 in
theorem ggX12_name_X12_in : GoodIn wsX12_name wsX12_in := goodIn_r _ [10] rfl (by decide +kernel)
set_option maxRecDepth 100000 in
theorem gX12_name_X12_in : GoodIn wsX12_name (va_wsS RX12 68 yX12_in wsX12_in) := goodIn_app (goodIn_r ([.methodLink RX12 68 yX12_in, .static yX12_in, .initialized RX12] : List Cond) [8, 9, 5] rfl (by decide +kernel)) ggX12_name_X12_in
set_option maxRecDepth 100000 in
theorem ggX12_name_X12_countOf : GoodIn wsX12_name wsX12_countOf := goodIn_r _ [14, 2, 20, 21, 22, 23, 24, 25, 26, 27, 28, 29, 30, 31, 32, 33, 34, 35, 36, 37, 38, 39, 40, 41, 42, 43, 44, 45, 46, 47, 48, 49, 50, 51, 52, 53, 54] rfl (by decide +kernel)
set_option maxRecDepth 100000 in
theorem gX12_name_X12_countOf : GoodIn wsX12_name (wsV RX12 158 RX12 yX12_countOf wsX12_countOf) := goodIn_app (goodIn_r ([.methodLink RX12 158 yX12_countOf, .instanceMethod yX12_countOf, .selects RX12 yX12_countOf yX12_countOf, .initialized RX12] : List Cond) [11, 12, 13, 5] rfl (by decide +kernel)) ggX12_name_X12_countOf
set_option maxRecDepth 100000 in
theorem ggX12_name_X12_isBarred : GoodIn wsX12_name wsX12_isBarred := goodIn_r _ [18, 19, 2, 20, 21, 22, 23, 24, 25, 26, 27, 28, 29, 30, 31, 32, 33, 34, 35, 36, 37, 38, 39, 40, 41, 42, 43, 44, 45, 46, 47, 48, 49, 50, 51, 52, 53, 54] rfl (by decide +kernel)
set_option maxRecDepth 100000 in
theorem gX12_name_X12_isBarred : GoodIn wsX12_name (wsV RX12 162 RX12 yX12_isBarred wsX12_isBarred) := goodIn_app (goodIn_r ([.methodLink RX12 162 yX12_isBarred, .instanceMethod yX12_isBarred, .selects RX12 yX12_isBarred yX12_isBarred, .initialized RX12] : List Cond) [15, 16, 17, 5] rfl (by decide +kernel)) ggX12_name_X12_isBarred
theorem dX12_name_0 : decode cX12_name 0 = .ok (.iload_n 1, 1) := by decide +kernel
theorem dX12_name_1 : decode cX12_name 1 = .ok (.invokestatic 153, 3) := by decide +kernel
theorem dX12_name_4 : decode cX12_name 4 = .ok (.ifCond .eq 15, 3) := by decide +kernel
theorem dX12_name_7 : decode cX12_name 7 = .ok (.iload_n 2, 1) := by decide +kernel
theorem dX12_name_8 : decode cX12_name 8 = .ok (.i2l, 1) := by decide +kernel
theorem dX12_name_9 : decode cX12_name 9 = .ok (.lconst 0, 1) := by decide +kernel
theorem dX12_name_10 : decode cX12_name 10 = .ok (.ldc2_w 156, 3) := by decide +kernel
theorem dX12_name_13 : decode cX12_name 13 = .ok (.invokestatic 68, 3) := by decide +kernel
theorem dX12_name_16 : decode cX12_name 16 = .ok (.ifCond .ne 5, 3) := by decide +kernel
theorem dX12_name_19 : decode cX12_name 19 = .ok (.iconst (-1), 1) := by decide +kernel
theorem dX12_name_20 : decode cX12_name 20 = .ok (.ireturn, 1) := by decide +kernel
theorem dX12_name_21 : decode cX12_name 21 = .ok (.iconst 0, 1) := by decide +kernel
theorem dX12_name_22 : decode cX12_name 22 = .ok (.istore_n 3, 1) := by decide +kernel
theorem dX12_name_23 : decode cX12_name 23 = .ok (.iconst 0, 1) := by decide +kernel
theorem dX12_name_24 : decode cX12_name 24 = .ok (.istore 4, 2) := by decide +kernel
theorem dX12_name_26 : decode cX12_name 26 = .ok (.iload 4, 2) := by decide +kernel
theorem dX12_name_28 : decode cX12_name 28 = .ok (.aload_n 0, 1) := by decide +kernel
theorem dX12_name_29 : decode cX12_name 29 = .ok (.getfield 7, 3) := by decide +kernel
theorem dX12_name_32 : decode cX12_name 32 = .ok (.iconst 0, 1) := by decide +kernel
theorem dX12_name_33 : decode cX12_name 33 = .ok (.iaload, 1) := by decide +kernel
theorem dX12_name_34 : decode cX12_name 34 = .ok (.if_icmp .ge 32, 3) := by decide +kernel
theorem dX12_name_37 : decode cX12_name 37 = .ok (.aload_n 0, 1) := by decide +kernel
theorem dX12_name_38 : decode cX12_name 38 = .ok (.getfield 7, 3) := by decide +kernel
theorem dX12_name_41 : decode cX12_name 41 = .ok (.bipush 16, 2) := by decide +kernel
theorem dX12_name_43 : decode cX12_name 43 = .ok (.iload 4, 2) := by decide +kernel
theorem dX12_name_45 : decode cX12_name 45 = .ok (.iadd, 1) := by decide +kernel
theorem dX12_name_46 : decode cX12_name 46 = .ok (.iaload, 1) := by decide +kernel
theorem dX12_name_47 : decode cX12_name 47 = .ok (.iload_n 1, 1) := by decide +kernel
theorem dX12_name_48 : decode cX12_name 48 = .ok (.if_icmp .ne 10, 3) := by decide +kernel
theorem dX12_name_51 : decode cX12_name 51 = .ok (.iload 4, 2) := by decide +kernel
theorem dX12_name_53 : decode cX12_name 53 = .ok (.iconst 1, 1) := by decide +kernel
theorem dX12_name_54 : decode cX12_name 54 = .ok (.iadd, 1) := by decide +kernel
theorem dX12_name_55 : decode cX12_name 55 = .ok (.goto 4, 3) := by decide +kernel
theorem dX12_name_58 : decode cX12_name 58 = .ok (.iload_n 3, 1) := by decide +kernel
theorem dX12_name_59 : decode cX12_name 59 = .ok (.istore_n 3, 1) := by decide +kernel
theorem dX12_name_60 : decode cX12_name 60 = .ok (.iinc 4 1, 3) := by decide +kernel
theorem dX12_name_63 : decode cX12_name 63 = .ok (.goto (-37), 3) := by decide +kernel
theorem dX12_name_66 : decode cX12_name 66 = .ok (.iload_n 2, 1) := by decide +kernel
theorem dX12_name_67 : decode cX12_name 67 = .ok (.ifCond .ne 12, 3) := by decide +kernel
theorem dX12_name_70 : decode cX12_name 70 = .ok (.aload_n 0, 1) := by decide +kernel
theorem dX12_name_71 : decode cX12_name 71 = .ok (.iconst 0, 1) := by decide +kernel
theorem dX12_name_72 : decode cX12_name 72 = .ok (.iload_n 1, 1) := by decide +kernel
theorem dX12_name_73 : decode cX12_name 73 = .ok (.invokevirtual 158, 3) := by decide +kernel
theorem dX12_name_76 : decode cX12_name 76 = .ok (.goto 26, 3) := by decide +kernel
theorem dX12_name_79 : decode cX12_name 79 = .ok (.iload_n 2, 1) := by decide +kernel
theorem dX12_name_80 : decode cX12_name 80 = .ok (.iconst 1, 1) := by decide +kernel
theorem dX12_name_81 : decode cX12_name 81 = .ok (.if_icmp .ne 7, 3) := by decide +kernel
theorem dX12_name_84 : decode cX12_name 84 = .ok (.iload_n 3, 1) := by decide +kernel
theorem dX12_name_85 : decode cX12_name 85 = .ok (.goto 17, 3) := by decide +kernel
theorem dX12_name_88 : decode cX12_name 88 = .ok (.aload_n 0, 1) := by decide +kernel
theorem dX12_name_89 : decode cX12_name 89 = .ok (.iconst 0, 1) := by decide +kernel
theorem dX12_name_90 : decode cX12_name 90 = .ok (.iload_n 1, 1) := by decide +kernel
theorem dX12_name_91 : decode cX12_name 91 = .ok (.invokevirtual 162, 3) := by decide +kernel
theorem dX12_name_94 : decode cX12_name 94 = .ok (.ifCond .eq 7, 3) := by decide +kernel
theorem dX12_name_97 : decode cX12_name 97 = .ok (.iconst 1, 1) := by decide +kernel
theorem dX12_name_98 : decode cX12_name 98 = .ok (.goto 4, 3) := by decide +kernel
theorem dX12_name_101 : decode cX12_name 101 = .ok (.iconst 0, 1) := by decide +kernel
theorem dX12_name_102 : decode cX12_name 102 = .ok (.ireturn, 1) := by decide +kernel
set_option maxRecDepth 100000 in
theorem ggX12_bidsOf_X12_isBarred : GoodIn wsX12_bidsOf wsX12_isBarred := goodIn_r _ [10, 11, 4, 12, 13, 14, 15, 16, 17, 18, 19, 20, 21, 22, 23, 24, 25, 26, 27, 28, 29, 30, 31, 32, 33, 34, 35, 36, 37, 38, 39, 40, 41, 42, 43, 44, 45, 46] rfl (by decide +kernel)
set_option maxRecDepth 100000 in
theorem gX12_bidsOf_X12_isBarred : GoodIn wsX12_bidsOf (wsV RX12 162 RX12 yX12_isBarred wsX12_isBarred) := goodIn_app (goodIn_r ([.methodLink RX12 162 yX12_isBarred, .instanceMethod yX12_isBarred, .selects RX12 yX12_isBarred yX12_isBarred, .initialized RX12] : List Cond) [6, 7, 8, 9] rfl (by decide +kernel)) ggX12_bidsOf_X12_isBarred
theorem dX12_bidsOf_0 : decode cX12_bidsOf 0 = .ok (.iconst 0, 1) := by decide +kernel
theorem dX12_bidsOf_1 : decode cX12_bidsOf 1 = .ok (.istore_n 2, 1) := by decide +kernel
theorem dX12_bidsOf_2 : decode cX12_bidsOf 2 = .ok (.iload_n 2, 1) := by decide +kernel
theorem dX12_bidsOf_3 : decode cX12_bidsOf 3 = .ok (.iconst 4, 1) := by decide +kernel
theorem dX12_bidsOf_4 : decode cX12_bidsOf 4 = .ok (.if_icmp .ge 100, 3) := by decide +kernel
theorem dX12_bidsOf_7 : decode cX12_bidsOf 7 = .ok (.aload_n 0, 1) := by decide +kernel
theorem dX12_bidsOf_8 : decode cX12_bidsOf 8 = .ok (.getfield 57, 3) := by decide +kernel
theorem dX12_bidsOf_11 : decode cX12_bidsOf 11 = .ok (.iload_n 2, 1) := by decide +kernel
theorem dX12_bidsOf_12 : decode cX12_bidsOf 12 = .ok (.iconst 0, 1) := by decide +kernel
theorem dX12_bidsOf_13 : decode cX12_bidsOf 13 = .ok (.iastore, 1) := by decide +kernel
theorem dX12_bidsOf_14 : decode cX12_bidsOf 14 = .ok (.iconst 0, 1) := by decide +kernel
theorem dX12_bidsOf_15 : decode cX12_bidsOf 15 = .ok (.istore_n 3, 1) := by decide +kernel
theorem dX12_bidsOf_16 : decode cX12_bidsOf 16 = .ok (.iload_n 3, 1) := by decide +kernel
theorem dX12_bidsOf_17 : decode cX12_bidsOf 17 = .ok (.iconst 5, 1) := by decide +kernel
theorem dX12_bidsOf_18 : decode cX12_bidsOf 18 = .ok (.if_icmp .ge 80, 3) := by decide +kernel
theorem dX12_bidsOf_21 : decode cX12_bidsOf 21 = .ok (.iload_n 2, 1) := by decide +kernel
theorem dX12_bidsOf_22 : decode cX12_bidsOf 22 = .ok (.aload_n 0, 1) := by decide +kernel
theorem dX12_bidsOf_23 : decode cX12_bidsOf 23 = .ok (.getfield 125, 3) := by decide +kernel
theorem dX12_bidsOf_26 : decode cX12_bidsOf 26 = .ok (.if_icmp .ge 72, 3) := by decide +kernel
theorem dX12_bidsOf_29 : decode cX12_bidsOf 29 = .ok (.aload_n 0, 1) := by decide +kernel
theorem dX12_bidsOf_30 : decode cX12_bidsOf 30 = .ok (.getfield 23, 3) := by decide +kernel
theorem dX12_bidsOf_33 : decode cX12_bidsOf 33 = .ok (.iconst 5, 1) := by decide +kernel
theorem dX12_bidsOf_34 : decode cX12_bidsOf 34 = .ok (.iload_n 2, 1) := by decide +kernel
theorem dX12_bidsOf_35 : decode cX12_bidsOf 35 = .ok (.imul, 1) := by decide +kernel
theorem dX12_bidsOf_36 : decode cX12_bidsOf 36 = .ok (.iload_n 3, 1) := by decide +kernel
theorem dX12_bidsOf_37 : decode cX12_bidsOf 37 = .ok (.iadd, 1) := by decide +kernel
theorem dX12_bidsOf_38 : decode cX12_bidsOf 38 = .ok (.iaload, 1) := by decide +kernel
theorem dX12_bidsOf_39 : decode cX12_bidsOf 39 = .ok (.istore 4, 2) := by decide +kernel
theorem dX12_bidsOf_41 : decode cX12_bidsOf 41 = .ok (.iload 4, 2) := by decide +kernel
theorem dX12_bidsOf_43 : decode cX12_bidsOf 43 = .ok (.aload_n 0, 1) := by decide +kernel
theorem dX12_bidsOf_44 : decode cX12_bidsOf 44 = .ok (.getfield 57, 3) := by decide +kernel
theorem dX12_bidsOf_47 : decode cX12_bidsOf 47 = .ok (.iload_n 2, 1) := by decide +kernel
theorem dX12_bidsOf_48 : decode cX12_bidsOf 48 = .ok (.iaload, 1) := by decide +kernel
theorem dX12_bidsOf_49 : decode cX12_bidsOf 49 = .ok (.if_icmp .le 43, 3) := by decide +kernel
theorem dX12_bidsOf_52 : decode cX12_bidsOf 52 = .ok (.iload 4, 2) := by decide +kernel
theorem dX12_bidsOf_54 : decode cX12_bidsOf 54 = .ok (.aload_n 0, 1) := by decide +kernel
theorem dX12_bidsOf_55 : decode cX12_bidsOf 55 = .ok (.getfield 7, 3) := by decide +kernel
theorem dX12_bidsOf_58 : decode cX12_bidsOf 58 = .ok (.iload_n 1, 1) := by decide +kernel
theorem dX12_bidsOf_59 : decode cX12_bidsOf 59 = .ok (.bipush 6, 2) := by decide +kernel
theorem dX12_bidsOf_61 : decode cX12_bidsOf 61 = .ok (.iadd, 1) := by decide +kernel
theorem dX12_bidsOf_62 : decode cX12_bidsOf 62 = .ok (.iload_n 2, 1) := by decide +kernel
theorem dX12_bidsOf_63 : decode cX12_bidsOf 63 = .ok (.iadd, 1) := by decide +kernel
theorem dX12_bidsOf_64 : decode cX12_bidsOf 64 = .ok (.iaload, 1) := by decide +kernel
theorem dX12_bidsOf_65 : decode cX12_bidsOf 65 = .ok (.if_icmp .gt 27, 3) := by decide +kernel
theorem dX12_bidsOf_68 : decode cX12_bidsOf 68 = .ok (.aload_n 0, 1) := by decide +kernel
theorem dX12_bidsOf_69 : decode cX12_bidsOf 69 = .ok (.iload_n 1, 1) := by decide +kernel
theorem dX12_bidsOf_70 : decode cX12_bidsOf 70 = .ok (.iload_n 3, 1) := by decide +kernel
theorem dX12_bidsOf_71 : decode cX12_bidsOf 71 = .ok (.invokevirtual 162, 3) := by decide +kernel
theorem dX12_bidsOf_74 : decode cX12_bidsOf 74 = .ok (.ifCond .ne 18, 3) := by decide +kernel
theorem dX12_bidsOf_77 : decode cX12_bidsOf 77 = .ok (.aload_n 0, 1) := by decide +kernel
theorem dX12_bidsOf_78 : decode cX12_bidsOf 78 = .ok (.getfield 57, 3) := by decide +kernel
theorem dX12_bidsOf_81 : decode cX12_bidsOf 81 = .ok (.iload_n 2, 1) := by decide +kernel
theorem dX12_bidsOf_82 : decode cX12_bidsOf 82 = .ok (.iload 4, 2) := by decide +kernel
theorem dX12_bidsOf_84 : decode cX12_bidsOf 84 = .ok (.iastore, 1) := by decide +kernel
theorem dX12_bidsOf_85 : decode cX12_bidsOf 85 = .ok (.aload_n 0, 1) := by decide +kernel
theorem dX12_bidsOf_86 : decode cX12_bidsOf 86 = .ok (.getfield 60, 3) := by decide +kernel
theorem dX12_bidsOf_89 : decode cX12_bidsOf 89 = .ok (.iload_n 2, 1) := by decide +kernel
theorem dX12_bidsOf_90 : decode cX12_bidsOf 90 = .ok (.iload_n 3, 1) := by decide +kernel
theorem dX12_bidsOf_91 : decode cX12_bidsOf 91 = .ok (.iastore, 1) := by decide +kernel
theorem dX12_bidsOf_92 : decode cX12_bidsOf 92 = .ok (.iinc 3 1, 3) := by decide +kernel
theorem dX12_bidsOf_95 : decode cX12_bidsOf 95 = .ok (.goto (-79), 3) := by decide +kernel
theorem dX12_bidsOf_98 : decode cX12_bidsOf 98 = .ok (.iinc 2 1, 3) := by decide +kernel
theorem dX12_bidsOf_101 : decode cX12_bidsOf 101 = .ok (.goto (-99), 3) := by decide +kernel
theorem dX12_bidsOf_104 : decode cX12_bidsOf 104 = .ok (.aload_n 0, 1) := by decide +kernel
theorem dX12_bidsOf_105 : decode cX12_bidsOf 105 = .ok (.getfield 57, 3) := by decide +kernel
theorem dX12_bidsOf_108 : decode cX12_bidsOf 108 = .ok (.iconst 4, 1) := by decide +kernel
theorem dX12_bidsOf_109 : decode cX12_bidsOf 109 = .ok (.aload_n 0, 1) := by decide +kernel
theorem dX12_bidsOf_110 : decode cX12_bidsOf 110 = .ok (.getfield 7, 3) := by decide +kernel
theorem dX12_bidsOf_113 : decode cX12_bidsOf 113 = .ok (.iload_n 1, 1) := by decide +kernel
theorem dX12_bidsOf_114 : decode cX12_bidsOf 114 = .ok (.iconst 4, 1) := by decide +kernel
theorem dX12_bidsOf_115 : decode cX12_bidsOf 115 = .ok (.iadd, 1) := by decide +kernel
theorem dX12_bidsOf_116 : decode cX12_bidsOf 116 = .ok (.iaload, 1) := by decide +kernel
theorem dX12_bidsOf_117 : decode cX12_bidsOf 117 = .ok (.ifCond .le 30, 3) := by decide +kernel
theorem dX12_bidsOf_120 : decode cX12_bidsOf 120 = .ok (.aload_n 0, 1) := by decide +kernel
theorem dX12_bidsOf_121 : decode cX12_bidsOf 121 = .ok (.iload_n 1, 1) := by decide +kernel
theorem dX12_bidsOf_122 : decode cX12_bidsOf 122 = .ok (.aload_n 0, 1) := by decide +kernel
theorem dX12_bidsOf_123 : decode cX12_bidsOf 123 = .ok (.getfield 7, 3) := by decide +kernel
theorem dX12_bidsOf_126 : decode cX12_bidsOf 126 = .ok (.iload_n 1, 1) := by decide +kernel
theorem dX12_bidsOf_127 : decode cX12_bidsOf 127 = .ok (.iconst 5, 1) := by decide +kernel
theorem dX12_bidsOf_128 : decode cX12_bidsOf 128 = .ok (.iadd, 1) := by decide +kernel
theorem dX12_bidsOf_129 : decode cX12_bidsOf 129 = .ok (.iaload, 1) := by decide +kernel
theorem dX12_bidsOf_130 : decode cX12_bidsOf 130 = .ok (.invokevirtual 162, 3) := by decide +kernel
theorem dX12_bidsOf_133 : decode cX12_bidsOf 133 = .ok (.ifCond .ne 14, 3) := by decide +kernel
theorem dX12_bidsOf_136 : decode cX12_bidsOf 136 = .ok (.aload_n 0, 1) := by decide +kernel
theorem dX12_bidsOf_137 : decode cX12_bidsOf 137 = .ok (.getfield 7, 3) := by decide +kernel
theorem dX12_bidsOf_140 : decode cX12_bidsOf 140 = .ok (.iload_n 1, 1) := by decide +kernel
theorem dX12_bidsOf_141 : decode cX12_bidsOf 141 = .ok (.iconst 4, 1) := by decide +kernel
theorem dX12_bidsOf_142 : decode cX12_bidsOf 142 = .ok (.iadd, 1) := by decide +kernel
theorem dX12_bidsOf_143 : decode cX12_bidsOf 143 = .ok (.iaload, 1) := by decide +kernel
theorem dX12_bidsOf_144 : decode cX12_bidsOf 144 = .ok (.goto 4, 3) := by decide +kernel
theorem dX12_bidsOf_147 : decode cX12_bidsOf 147 = .ok (.iconst 0, 1) := by decide +kernel
theorem dX12_bidsOf_148 : decode cX12_bidsOf 148 = .ok (.iastore, 1) := by decide +kernel
theorem dX12_bidsOf_149 : decode cX12_bidsOf 149 = .ok (.aload_n 0, 1) := by decide +kernel
theorem dX12_bidsOf_150 : decode cX12_bidsOf 150 = .ok (.getfield 60, 3) := by decide +kernel
theorem dX12_bidsOf_153 : decode cX12_bidsOf 153 = .ok (.iconst 4, 1) := by decide +kernel
theorem dX12_bidsOf_154 : decode cX12_bidsOf 154 = .ok (.aload_n 0, 1) := by decide +kernel
theorem dX12_bidsOf_155 : decode cX12_bidsOf 155 = .ok (.getfield 7, 3) := by decide +kernel
theorem dX12_bidsOf_158 : decode cX12_bidsOf 158 = .ok (.iload_n 1, 1) := by decide +kernel
theorem dX12_bidsOf_159 : decode cX12_bidsOf 159 = .ok (.iconst 5, 1) := by decide +kernel
theorem dX12_bidsOf_160 : decode cX12_bidsOf 160 = .ok (.iadd, 1) := by decide +kernel
theorem dX12_bidsOf_161 : decode cX12_bidsOf 161 = .ok (.iaload, 1) := by decide +kernel
theorem dX12_bidsOf_162 : decode cX12_bidsOf 162 = .ok (.iastore, 1) := by decide +kernel
theorem dX12_bidsOf_163 : decode cX12_bidsOf 163 = .ok (.return_, 1) := by decide +kernel
theorem dX12_sells_0 : decode cX12_sells 0 = .ok (.aload_n 0, 1) := by decide +kernel
theorem dX12_sells_1 : decode cX12_sells 1 = .ok (.bipush (-9), 2) := by decide +kernel
theorem dX12_sells_3 : decode cX12_sells 3 = .ok (.putfield 165, 3) := by decide +kernel
theorem dX12_sells_6 : decode cX12_sells 6 = .ok (.aload_n 0, 1) := by decide +kernel
theorem dX12_sells_7 : decode cX12_sells 7 = .ok (.iconst 0, 1) := by decide +kernel
theorem dX12_sells_8 : decode cX12_sells 8 = .ok (.putfield 168, 3) := by decide +kernel
theorem dX12_sells_11 : decode cX12_sells 11 = .ok (.iconst 0, 1) := by decide +kernel
theorem dX12_sells_12 : decode cX12_sells 12 = .ok (.istore_n 1, 1) := by decide +kernel
theorem dX12_sells_13 : decode cX12_sells 13 = .ok (.iload_n 1, 1) := by decide +kernel
theorem dX12_sells_14 : decode cX12_sells 14 = .ok (.iconst 5, 1) := by decide +kernel
theorem dX12_sells_15 : decode cX12_sells 15 = .ok (.if_icmp .ge 64, 3) := by decide +kernel
theorem dX12_sells_18 : decode cX12_sells 18 = .ok (.aload_n 0, 1) := by decide +kernel
theorem dX12_sells_19 : decode cX12_sells 19 = .ok (.aload_n 0, 1) := by decide +kernel
theorem dX12_sells_20 : decode cX12_sells 20 = .ok (.getfield 57, 3) := by decide +kernel
theorem dX12_sells_23 : decode cX12_sells 23 = .ok (.iload_n 1, 1) := by decide +kernel
theorem dX12_sells_24 : decode cX12_sells 24 = .ok (.iaload, 1) := by decide +kernel
theorem dX12_sells_25 : decode cX12_sells 25 = .ok (.aload_n 0, 1) := by decide +kernel
theorem dX12_sells_26 : decode cX12_sells 26 = .ok (.getfield 168, 3) := by decide +kernel
theorem dX12_sells_29 : decode cX12_sells 29 = .ok (.if_icmp .le 7, 3) := by decide +kernel
theorem dX12_sells_32 : decode cX12_sells 32 = .ok (.iload_n 1, 1) := by decide +kernel
theorem dX12_sells_33 : decode cX12_sells 33 = .ok (.goto 7, 3) := by decide +kernel
theorem dX12_sells_36 : decode cX12_sells 36 = .ok (.aload_n 0, 1) := by decide +kernel
theorem dX12_sells_37 : decode cX12_sells 37 = .ok (.getfield 165, 3) := by decide +kernel
theorem dX12_sells_40 : decode cX12_sells 40 = .ok (.putfield 165, 3) := by decide +kernel
theorem dX12_sells_43 : decode cX12_sells 43 = .ok (.aload_n 0, 1) := by decide +kernel
theorem dX12_sells_44 : decode cX12_sells 44 = .ok (.aload_n 0, 1) := by decide +kernel
theorem dX12_sells_45 : decode cX12_sells 45 = .ok (.getfield 57, 3) := by decide +kernel
theorem dX12_sells_48 : decode cX12_sells 48 = .ok (.iload_n 1, 1) := by decide +kernel
theorem dX12_sells_49 : decode cX12_sells 49 = .ok (.iaload, 1) := by decide +kernel
theorem dX12_sells_50 : decode cX12_sells 50 = .ok (.aload_n 0, 1) := by decide +kernel
theorem dX12_sells_51 : decode cX12_sells 51 = .ok (.getfield 168, 3) := by decide +kernel
theorem dX12_sells_54 : decode cX12_sells 54 = .ok (.if_icmp .le 12, 3) := by decide +kernel
theorem dX12_sells_57 : decode cX12_sells 57 = .ok (.aload_n 0, 1) := by decide +kernel
theorem dX12_sells_58 : decode cX12_sells 58 = .ok (.getfield 57, 3) := by decide +kernel
theorem dX12_sells_61 : decode cX12_sells 61 = .ok (.iload_n 1, 1) := by decide +kernel
theorem dX12_sells_62 : decode cX12_sells 62 = .ok (.iaload, 1) := by decide +kernel
theorem dX12_sells_63 : decode cX12_sells 63 = .ok (.goto 7, 3) := by decide +kernel
theorem dX12_sells_66 : decode cX12_sells 66 = .ok (.aload_n 0, 1) := by decide +kernel
theorem dX12_sells_67 : decode cX12_sells 67 = .ok (.getfield 168, 3) := by decide +kernel
theorem dX12_sells_70 : decode cX12_sells 70 = .ok (.putfield 168, 3) := by decide +kernel
theorem dX12_sells_73 : decode cX12_sells 73 = .ok (.iinc 1 1, 3) := by decide +kernel
theorem dX12_sells_76 : decode cX12_sells 76 = .ok (.goto (-63), 3) := by decide +kernel
theorem dX12_sells_79 : decode cX12_sells 79 = .ok (.iconst 0, 1) := by decide +kernel
theorem dX12_sells_80 : decode cX12_sells 80 = .ok (.istore_n 1, 1) := by decide +kernel
theorem dX12_sells_81 : decode cX12_sells 81 = .ok (.iconst 0, 1) := by decide +kernel
theorem dX12_sells_82 : decode cX12_sells 82 = .ok (.istore_n 2, 1) := by decide +kernel
theorem dX12_sells_83 : decode cX12_sells 83 = .ok (.iload_n 2, 1) := by decide +kernel
theorem dX12_sells_84 : decode cX12_sells 84 = .ok (.iconst 5, 1) := by decide +kernel
theorem dX12_sells_85 : decode cX12_sells 85 = .ok (.if_icmp .ge 38, 3) := by decide +kernel
theorem dX12_sells_88 : decode cX12_sells 88 = .ok (.iload_n 2, 1) := by decide +kernel
theorem dX12_sells_89 : decode cX12_sells 89 = .ok (.aload_n 0, 1) := by decide +kernel
theorem dX12_sells_90 : decode cX12_sells 90 = .ok (.getfield 165, 3) := by decide +kernel
theorem dX12_sells_93 : decode cX12_sells 93 = .ok (.if_icmp .eq 22, 3) := by decide +kernel
theorem dX12_sells_96 : decode cX12_sells 96 = .ok (.aload_n 0, 1) := by decide +kernel
theorem dX12_sells_97 : decode cX12_sells 97 = .ok (.getfield 57, 3) := by decide +kernel
theorem dX12_sells_100 : decode cX12_sells 100 = .ok (.iload_n 2, 1) := by decide +kernel
theorem dX12_sells_101 : decode cX12_sells 101 = .ok (.iaload, 1) := by decide +kernel
theorem dX12_sells_102 : decode cX12_sells 102 = .ok (.iload_n 1, 1) := by decide +kernel
theorem dX12_sells_103 : decode cX12_sells 103 = .ok (.if_icmp .le 12, 3) := by decide +kernel
theorem dX12_sells_106 : decode cX12_sells 106 = .ok (.aload_n 0, 1) := by decide +kernel
theorem dX12_sells_107 : decode cX12_sells 107 = .ok (.getfield 57, 3) := by decide +kernel
theorem dX12_sells_110 : decode cX12_sells 110 = .ok (.iload_n 2, 1) := by decide +kernel
theorem dX12_sells_111 : decode cX12_sells 111 = .ok (.iaload, 1) := by decide +kernel
theorem dX12_sells_112 : decode cX12_sells 112 = .ok (.goto 4, 3) := by decide +kernel
theorem dX12_sells_115 : decode cX12_sells 115 = .ok (.iload_n 1, 1) := by decide +kernel
theorem dX12_sells_116 : decode cX12_sells 116 = .ok (.istore_n 1, 1) := by decide +kernel
theorem dX12_sells_117 : decode cX12_sells 117 = .ok (.iinc 2 1, 3) := by decide +kernel
theorem dX12_sells_120 : decode cX12_sells 120 = .ok (.goto (-37), 3) := by decide +kernel
theorem dX12_sells_123 : decode cX12_sells 123 = .ok (.aload_n 0, 1) := by decide +kernel
theorem dX12_sells_124 : decode cX12_sells 124 = .ok (.iload_n 1, 1) := by decide +kernel
theorem dX12_sells_125 : decode cX12_sells 125 = .ok (.iconst 1, 1) := by decide +kernel
theorem dX12_sells_126 : decode cX12_sells 126 = .ok (.iadd, 1) := by decide +kernel
theorem dX12_sells_127 : decode cX12_sells 127 = .ok (.aload_n 0, 1) := by decide +kernel
theorem dX12_sells_128 : decode cX12_sells 128 = .ok (.getfield 168, 3) := by decide +kernel
theorem dX12_sells_131 : decode cX12_sells 131 = .ok (.if_icmp .le 10, 3) := by decide +kernel
theorem dX12_sells_134 : decode cX12_sells 134 = .ok (.aload_n 0, 1) := by decide +kernel
theorem dX12_sells_135 : decode cX12_sells 135 = .ok (.getfield 168, 3) := by decide +kernel
theorem dX12_sells_138 : decode cX12_sells 138 = .ok (.goto 6, 3) := by decide +kernel
theorem dX12_sells_141 : decode cX12_sells 141 = .ok (.iload_n 1, 1) := by decide +kernel
theorem dX12_sells_142 : decode cX12_sells 142 = .ok (.iconst 1, 1) := by decide +kernel
theorem dX12_sells_143 : decode cX12_sells 143 = .ok (.iadd, 1) := by decide +kernel
theorem dX12_sells_144 : decode cX12_sells 144 = .ok (.putfield 171, 3) := by decide +kernel
theorem dX12_sells_147 : decode cX12_sells 147 = .ok (.return_, 1) := by decide +kernel
theorem dX12_isOver_0 : decode cX12_isOver 0 = .ok (.aload_n 0, 1) := by decide +kernel
theorem dX12_isOver_1 : decode cX12_isOver 1 = .ok (.getfield 7, 3) := by decide +kernel
theorem dX12_isOver_4 : decode cX12_isOver 4 = .ok (.iconst 0, 1) := by decide +kernel
theorem dX12_isOver_5 : decode cX12_isOver 5 = .ok (.iaload, 1) := by decide +kernel
theorem dX12_isOver_6 : decode cX12_isOver 6 = .ok (.bipush 60, 2) := by decide +kernel
theorem dX12_isOver_8 : decode cX12_isOver 8 = .ok (.if_icmp .eq 14, 3) := by decide +kernel
theorem dX12_isOver_11 : decode cX12_isOver 11 = .ok (.aload_n 0, 1) := by decide +kernel
theorem dX12_isOver_12 : decode cX12_isOver 12 = .ok (.getfield 7, 3) := by decide +kernel
theorem dX12_isOver_15 : decode cX12_isOver 15 = .ok (.iconst 1, 1) := by decide +kernel
theorem dX12_isOver_16 : decode cX12_isOver 16 = .ok (.iaload, 1) := by decide +kernel
theorem dX12_isOver_17 : decode cX12_isOver 17 = .ok (.bipush 99, 2) := by decide +kernel
theorem dX12_isOver_19 : decode cX12_isOver 19 = .ok (.if_icmp .ne 7, 3) := by decide +kernel
theorem dX12_isOver_22 : decode cX12_isOver 22 = .ok (.iconst 1, 1) := by decide +kernel
theorem dX12_isOver_23 : decode cX12_isOver 23 = .ok (.goto 4, 3) := by decide +kernel
theorem dX12_isOver_26 : decode cX12_isOver 26 = .ok (.iconst 0, 1) := by decide +kernel
theorem dX12_isOver_27 : decode cX12_isOver 27 = .ok (.ireturn, 1) := by decide +kernel
set_option maxRecDepth 100000 in
theorem ggX12_comes_X12_countOf : GoodIn wsX12_comes wsX12_countOf := goodIn_r _ [10, 1, 11, 12, 13, 14, 15, 16, 17, 18, 19, 20, 21, 22, 23, 24, 25, 26, 27, 28, 29, 30, 31, 32, 33, 34, 35, 36, 37, 38, 39, 40, 41, 42, 43, 44, 45] rfl (by decide +kernel)
set_option maxRecDepth 100000 in
theorem gX12_comes_X12_countOf : GoodIn wsX12_comes (wsV RX12 158 RX12 yX12_countOf wsX12_countOf) := goodIn_app (goodIn_r ([.methodLink RX12 158 yX12_countOf, .instanceMethod yX12_countOf, .selects RX12 yX12_countOf yX12_countOf, .initialized RX12] : List Cond) [6, 7, 8, 9] rfl (by decide +kernel)) ggX12_comes_X12_countOf
theorem dX12_comes_0 : decode cX12_comes 0 = .ok (.aload_n 0, 1) := by decide +kernel
theorem dX12_comes_1 : decode cX12_comes 1 = .ok (.getfield 7, 3) := by decide +kernel
theorem dX12_comes_4 : decode cX12_comes 4 = .ok (.iload_n 1, 1) := by decide +kernel
theorem dX12_comes_5 : decode cX12_comes 5 = .ok (.bipush 16, 2) := by decide +kernel
theorem dX12_comes_7 : decode cX12_comes 7 = .ok (.iadd, 1) := by decide +kernel
theorem dX12_comes_8 : decode cX12_comes 8 = .ok (.aload_n 0, 1) := by decide +kernel
theorem dX12_comes_9 : decode cX12_comes 9 = .ok (.getfield 7, 3) := by decide +kernel
theorem dX12_comes_12 : decode cX12_comes 12 = .ok (.iload_n 1, 1) := by decide +kernel
theorem dX12_comes_13 : decode cX12_comes 13 = .ok (.iconst 0, 1) := by decide +kernel
theorem dX12_comes_14 : decode cX12_comes 14 = .ok (.iadd, 1) := by decide +kernel
theorem dX12_comes_15 : decode cX12_comes 15 = .ok (.iaload, 1) := by decide +kernel
theorem dX12_comes_16 : decode cX12_comes 16 = .ok (.iadd, 1) := by decide +kernel
theorem dX12_comes_17 : decode cX12_comes 17 = .ok (.iload_n 2, 1) := by decide +kernel
theorem dX12_comes_18 : decode cX12_comes 18 = .ok (.iastore, 1) := by decide +kernel
theorem dX12_comes_19 : decode cX12_comes 19 = .ok (.aload_n 0, 1) := by decide +kernel
theorem dX12_comes_20 : decode cX12_comes 20 = .ok (.getfield 7, 3) := by decide +kernel
theorem dX12_comes_23 : decode cX12_comes 23 = .ok (.iload_n 1, 1) := by decide +kernel
theorem dX12_comes_24 : decode cX12_comes 24 = .ok (.iconst 0, 1) := by decide +kernel
theorem dX12_comes_25 : decode cX12_comes 25 = .ok (.iadd, 1) := by decide +kernel
theorem dX12_comes_26 : decode cX12_comes 26 = .ok (.dup2, 1) := by decide +kernel
theorem dX12_comes_27 : decode cX12_comes 27 = .ok (.iaload, 1) := by decide +kernel
theorem dX12_comes_28 : decode cX12_comes 28 = .ok (.iconst 1, 1) := by decide +kernel
theorem dX12_comes_29 : decode cX12_comes 29 = .ok (.iadd, 1) := by decide +kernel
theorem dX12_comes_30 : decode cX12_comes 30 = .ok (.iastore, 1) := by decide +kernel
theorem dX12_comes_31 : decode cX12_comes 31 = .ok (.iconst 0, 1) := by decide +kernel
theorem dX12_comes_32 : decode cX12_comes 32 = .ok (.istore_n 3, 1) := by decide +kernel
theorem dX12_comes_33 : decode cX12_comes 33 = .ok (.iload_n 3, 1) := by decide +kernel
theorem dX12_comes_34 : decode cX12_comes 34 = .ok (.aload_n 0, 1) := by decide +kernel
theorem dX12_comes_35 : decode cX12_comes 35 = .ok (.getfield 125, 3) := by decide +kernel
theorem dX12_comes_38 : decode cX12_comes 38 = .ok (.if_icmp .ge 29, 3) := by decide +kernel
theorem dX12_comes_41 : decode cX12_comes 41 = .ok (.aload_n 0, 1) := by decide +kernel
theorem dX12_comes_42 : decode cX12_comes 42 = .ok (.getfield 7, 3) := by decide +kernel
theorem dX12_comes_45 : decode cX12_comes 45 = .ok (.iload_n 1, 1) := by decide +kernel
theorem dX12_comes_46 : decode cX12_comes 46 = .ok (.bipush 6, 2) := by decide +kernel
theorem dX12_comes_48 : decode cX12_comes 48 = .ok (.iadd, 1) := by decide +kernel
theorem dX12_comes_49 : decode cX12_comes 49 = .ok (.iload_n 3, 1) := by decide +kernel
theorem dX12_comes_50 : decode cX12_comes 50 = .ok (.iadd, 1) := by decide +kernel
theorem dX12_comes_51 : decode cX12_comes 51 = .ok (.dup2, 1) := by decide +kernel
theorem dX12_comes_52 : decode cX12_comes 52 = .ok (.iaload, 1) := by decide +kernel
theorem dX12_comes_53 : decode cX12_comes 53 = .ok (.aload_n 0, 1) := by decide +kernel
theorem dX12_comes_54 : decode cX12_comes 54 = .ok (.getfield 20, 3) := by decide +kernel
theorem dX12_comes_57 : decode cX12_comes 57 = .ok (.iload_n 3, 1) := by decide +kernel
theorem dX12_comes_58 : decode cX12_comes 58 = .ok (.iaload, 1) := by decide +kernel
theorem dX12_comes_59 : decode cX12_comes 59 = .ok (.iadd, 1) := by decide +kernel
theorem dX12_comes_60 : decode cX12_comes 60 = .ok (.iastore, 1) := by decide +kernel
theorem dX12_comes_61 : decode cX12_comes 61 = .ok (.iinc 3 1, 3) := by decide +kernel
theorem dX12_comes_64 : decode cX12_comes 64 = .ok (.goto (-31), 3) := by decide +kernel
theorem dX12_comes_67 : decode cX12_comes 67 = .ok (.aload_n 0, 1) := by decide +kernel
theorem dX12_comes_68 : decode cX12_comes 68 = .ok (.iload_n 1, 1) := by decide +kernel
theorem dX12_comes_69 : decode cX12_comes 69 = .ok (.iload_n 2, 1) := by decide +kernel
theorem dX12_comes_70 : decode cX12_comes 70 = .ok (.invokevirtual 158, 3) := by decide +kernel
theorem dX12_comes_73 : decode cX12_comes 73 = .ok (.istore_n 3, 1) := by decide +kernel
theorem dX12_comes_74 : decode cX12_comes 74 = .ok (.iconst 0, 1) := by decide +kernel
theorem dX12_comes_75 : decode cX12_comes 75 = .ok (.istore 4, 2) := by decide +kernel
theorem dX12_comes_77 : decode cX12_comes 77 = .ok (.iload 4, 2) := by decide +kernel
theorem dX12_comes_79 : decode cX12_comes 79 = .ok (.aload_n 0, 1) := by decide +kernel
theorem dX12_comes_80 : decode cX12_comes 80 = .ok (.getfield 128, 3) := by decide +kernel
theorem dX12_comes_83 : decode cX12_comes 83 = .ok (.if_icmp .ge 206, 3) := by decide +kernel
theorem dX12_comes_86 : decode cX12_comes 86 = .ok (.aload_n 0, 1) := by decide +kernel
theorem dX12_comes_87 : decode cX12_comes 87 = .ok (.getfield 7, 3) := by decide +kernel
theorem dX12_comes_90 : decode cX12_comes 90 = .ok (.iload_n 1, 1) := by decide +kernel
theorem dX12_comes_91 : decode cX12_comes 91 = .ok (.bipush 10, 2) := by decide +kernel
theorem dX12_comes_93 : decode cX12_comes 93 = .ok (.iadd, 1) := by decide +kernel
theorem dX12_comes_94 : decode cX12_comes 94 = .ok (.iload 4, 2) := by decide +kernel
theorem dX12_comes_96 : decode cX12_comes 96 = .ok (.iadd, 1) := by decide +kernel
theorem dX12_comes_97 : decode cX12_comes 97 = .ok (.iaload, 1) := by decide +kernel
theorem dX12_comes_98 : decode cX12_comes 98 = .ok (.ifCond .ne 185, 3) := by decide +kernel
theorem dX12_comes_101 : decode cX12_comes 101 = .ok (.aload_n 0, 1) := by decide +kernel
theorem dX12_comes_102 : decode cX12_comes 102 = .ok (.getfield 30, 3) := by decide +kernel
theorem dX12_comes_105 : decode cX12_comes 105 = .ok (.iconst 5, 1) := by decide +kernel
theorem dX12_comes_106 : decode cX12_comes 106 = .ok (.iload 4, 2) := by decide +kernel
theorem dX12_comes_108 : decode cX12_comes 108 = .ok (.imul, 1) := by decide +kernel
theorem dX12_comes_109 : decode cX12_comes 109 = .ok (.iconst 4, 1) := by decide +kernel
theorem dX12_comes_110 : decode cX12_comes 110 = .ok (.iadd, 1) := by decide +kernel
theorem dX12_comes_111 : decode cX12_comes 111 = .ok (.iaload, 1) := by decide +kernel
theorem dX12_comes_112 : decode cX12_comes 112 = .ok (.iload_n 2, 1) := by decide +kernel
theorem dX12_comes_113 : decode cX12_comes 113 = .ok (.if_icmp .ne 170, 3) := by decide +kernel
theorem dX12_comes_116 : decode cX12_comes 116 = .ok (.aload_n 0, 1) := by decide +kernel
theorem dX12_comes_117 : decode cX12_comes 117 = .ok (.getfield 30, 3) := by decide +kernel
theorem dX12_comes_120 : decode cX12_comes 120 = .ok (.iconst 5, 1) := by decide +kernel
theorem dX12_comes_121 : decode cX12_comes 121 = .ok (.iload 4, 2) := by decide +kernel
theorem dX12_comes_123 : decode cX12_comes 123 = .ok (.imul, 1) := by decide +kernel
theorem dX12_comes_124 : decode cX12_comes 124 = .ok (.iconst 3, 1) := by decide +kernel
theorem dX12_comes_125 : decode cX12_comes 125 = .ok (.iadd, 1) := by decide +kernel
theorem dX12_comes_126 : decode cX12_comes 126 = .ok (.iaload, 1) := by decide +kernel
theorem dX12_comes_127 : decode cX12_comes 127 = .ok (.iload_n 3, 1) := by decide +kernel
theorem dX12_comes_128 : decode cX12_comes 128 = .ok (.if_icmp .ne 155, 3) := by decide +kernel
theorem dX12_comes_131 : decode cX12_comes 131 = .ok (.aload_n 0, 1) := by decide +kernel
theorem dX12_comes_132 : decode cX12_comes 132 = .ok (.getfield 30, 3) := by decide +kernel
theorem dX12_comes_135 : decode cX12_comes 135 = .ok (.iconst 5, 1) := by decide +kernel
theorem dX12_comes_136 : decode cX12_comes 136 = .ok (.iload 4, 2) := by decide +kernel
theorem dX12_comes_138 : decode cX12_comes 138 = .ok (.imul, 1) := by decide +kernel
theorem dX12_comes_139 : decode cX12_comes 139 = .ok (.iaload, 1) := by decide +kernel
theorem dX12_comes_140 : decode cX12_comes 140 = .ok (.istore 5, 2) := by decide +kernel
theorem dX12_comes_142 : decode cX12_comes 142 = .ok (.aload_n 0, 1) := by decide +kernel
theorem dX12_comes_143 : decode cX12_comes 143 = .ok (.getfield 30, 3) := by decide +kernel
theorem dX12_comes_146 : decode cX12_comes 146 = .ok (.iconst 5, 1) := by decide +kernel
theorem dX12_comes_147 : decode cX12_comes 147 = .ok (.iload 4, 2) := by decide +kernel
theorem dX12_comes_149 : decode cX12_comes 149 = .ok (.imul, 1) := by decide +kernel
theorem dX12_comes_150 : decode cX12_comes 150 = .ok (.iconst 2, 1) := by decide +kernel
theorem dX12_comes_151 : decode cX12_comes 151 = .ok (.iadd, 1) := by decide +kernel
theorem dX12_comes_152 : decode cX12_comes 152 = .ok (.iaload, 1) := by decide +kernel
theorem dX12_comes_153 : decode cX12_comes 153 = .ok (.istore 6, 2) := by decide +kernel
theorem dX12_comes_155 : decode cX12_comes 155 = .ok (.aload_n 0, 1) := by decide +kernel
theorem dX12_comes_156 : decode cX12_comes 156 = .ok (.getfield 7, 3) := by decide +kernel
theorem dX12_comes_159 : decode cX12_comes 159 = .ok (.iload_n 1, 1) := by decide +kernel
theorem dX12_comes_160 : decode cX12_comes 160 = .ok (.bipush 6, 2) := by decide +kernel
theorem dX12_comes_162 : decode cX12_comes 162 = .ok (.iadd, 1) := by decide +kernel
theorem dX12_comes_163 : decode cX12_comes 163 = .ok (.iload 5, 2) := by decide +kernel
theorem dX12_comes_165 : decode cX12_comes 165 = .ok (.iadd, 1) := by decide +kernel
theorem dX12_comes_166 : decode cX12_comes 166 = .ok (.iaload, 1) := by decide +kernel
theorem dX12_comes_167 : decode cX12_comes 167 = .ok (.iload 6, 2) := by decide +kernel
theorem dX12_comes_169 : decode cX12_comes 169 = .ok (.if_icmp .lt 7, 3) := by decide +kernel
theorem dX12_comes_172 : decode cX12_comes 172 = .ok (.iconst 1, 1) := by decide +kernel
theorem dX12_comes_173 : decode cX12_comes 173 = .ok (.goto 4, 3) := by decide +kernel
theorem dX12_comes_176 : decode cX12_comes 176 = .ok (.iconst 0, 1) := by decide +kernel
theorem dX12_comes_177 : decode cX12_comes 177 = .ok (.istore 7, 2) := by decide +kernel
theorem dX12_comes_179 : decode cX12_comes 179 = .ok (.aload_n 0, 1) := by decide +kernel
theorem dX12_comes_180 : decode cX12_comes 180 = .ok (.getfield 7, 3) := by decide +kernel
theorem dX12_comes_183 : decode cX12_comes 183 = .ok (.iload_n 1, 1) := by decide +kernel
theorem dX12_comes_184 : decode cX12_comes 184 = .ok (.bipush 10, 2) := by decide +kernel
theorem dX12_comes_186 : decode cX12_comes 186 = .ok (.iadd, 1) := by decide +kernel
theorem dX12_comes_187 : decode cX12_comes 187 = .ok (.iload 4, 2) := by decide +kernel
theorem dX12_comes_189 : decode cX12_comes 189 = .ok (.iadd, 1) := by decide +kernel
theorem dX12_comes_190 : decode cX12_comes 190 = .ok (.iload 7, 2) := by decide +kernel
theorem dX12_comes_192 : decode cX12_comes 192 = .ok (.ifCond .eq 7, 3) := by decide +kernel
theorem dX12_comes_195 : decode cX12_comes 195 = .ok (.iconst 1, 1) := by decide +kernel
theorem dX12_comes_196 : decode cX12_comes 196 = .ok (.goto 4, 3) := by decide +kernel
theorem dX12_comes_199 : decode cX12_comes 199 = .ok (.iconst 2, 1) := by decide +kernel
theorem dX12_comes_200 : decode cX12_comes 200 = .ok (.iastore, 1) := by decide +kernel
theorem dX12_comes_201 : decode cX12_comes 201 = .ok (.aload_n 0, 1) := by decide +kernel
theorem dX12_comes_202 : decode cX12_comes 202 = .ok (.getfield 7, 3) := by decide +kernel
theorem dX12_comes_205 : decode cX12_comes 205 = .ok (.iload_n 1, 1) := by decide +kernel
theorem dX12_comes_206 : decode cX12_comes 206 = .ok (.iconst 3, 1) := by decide +kernel
theorem dX12_comes_207 : decode cX12_comes 207 = .ok (.iadd, 1) := by decide +kernel
theorem dX12_comes_208 : decode cX12_comes 208 = .ok (.dup2, 1) := by decide +kernel
theorem dX12_comes_209 : decode cX12_comes 209 = .ok (.iaload, 1) := by decide +kernel
theorem dX12_comes_210 : decode cX12_comes 210 = .ok (.iload 7, 2) := by decide +kernel
theorem dX12_comes_212 : decode cX12_comes 212 = .ok (.ifCond .eq 7, 3) := by decide +kernel
theorem dX12_comes_215 : decode cX12_comes 215 = .ok (.iconst 0, 1) := by decide +kernel
theorem dX12_comes_216 : decode cX12_comes 216 = .ok (.goto 4, 3) := by decide +kernel
theorem dX12_comes_219 : decode cX12_comes 219 = .ok (.iconst 1, 1) := by decide +kernel
theorem dX12_comes_220 : decode cX12_comes 220 = .ok (.iadd, 1) := by decide +kernel
theorem dX12_comes_221 : decode cX12_comes 221 = .ok (.iastore, 1) := by decide +kernel
theorem dX12_comes_222 : decode cX12_comes 222 = .ok (.aload_n 0, 1) := by decide +kernel
theorem dX12_comes_223 : decode cX12_comes 223 = .ok (.getfield 7, 3) := by decide +kernel
theorem dX12_comes_226 : decode cX12_comes 226 = .ok (.iload_n 1, 1) := by decide +kernel
theorem dX12_comes_227 : decode cX12_comes 227 = .ok (.bipush 6, 2) := by decide +kernel
theorem dX12_comes_229 : decode cX12_comes 229 = .ok (.iadd, 1) := by decide +kernel
theorem dX12_comes_230 : decode cX12_comes 230 = .ok (.iload 5, 2) := by decide +kernel
theorem dX12_comes_232 : decode cX12_comes 232 = .ok (.iadd, 1) := by decide +kernel
theorem dX12_comes_233 : decode cX12_comes 233 = .ok (.dup2, 1) := by decide +kernel
theorem dX12_comes_234 : decode cX12_comes 234 = .ok (.iaload, 1) := by decide +kernel
theorem dX12_comes_235 : decode cX12_comes 235 = .ok (.iload 7, 2) := by decide +kernel
theorem dX12_comes_237 : decode cX12_comes 237 = .ok (.ifCond .eq 8, 3) := by decide +kernel
theorem dX12_comes_240 : decode cX12_comes 240 = .ok (.iload 6, 2) := by decide +kernel
theorem dX12_comes_242 : decode cX12_comes 242 = .ok (.goto 4, 3) := by decide +kernel
theorem dX12_comes_245 : decode cX12_comes 245 = .ok (.iconst 0, 1) := by decide +kernel
theorem dX12_comes_246 : decode cX12_comes 246 = .ok (.isub, 1) := by decide +kernel
theorem dX12_comes_247 : decode cX12_comes 247 = .ok (.iastore, 1) := by decide +kernel
theorem dX12_comes_248 : decode cX12_comes 248 = .ok (.aload_n 0, 1) := by decide +kernel
theorem dX12_comes_249 : decode cX12_comes 249 = .ok (.getfield 7, 3) := by decide +kernel
theorem dX12_comes_252 : decode cX12_comes 252 = .ok (.iload_n 1, 1) := by decide +kernel
theorem dX12_comes_253 : decode cX12_comes 253 = .ok (.bipush 6, 2) := by decide +kernel
theorem dX12_comes_255 : decode cX12_comes 255 = .ok (.iadd, 1) := by decide +kernel
theorem dX12_comes_256 : decode cX12_comes 256 = .ok (.aload_n 0, 1) := by decide +kernel
theorem dX12_comes_257 : decode cX12_comes 257 = .ok (.getfield 30, 3) := by decide +kernel
theorem dX12_comes_260 : decode cX12_comes 260 = .ok (.iconst 5, 1) := by decide +kernel
theorem dX12_comes_261 : decode cX12_comes 261 = .ok (.iload 4, 2) := by decide +kernel
theorem dX12_comes_263 : decode cX12_comes 263 = .ok (.imul, 1) := by decide +kernel
theorem dX12_comes_264 : decode cX12_comes 264 = .ok (.iconst 1, 1) := by decide +kernel
theorem dX12_comes_265 : decode cX12_comes 265 = .ok (.iadd, 1) := by decide +kernel
theorem dX12_comes_266 : decode cX12_comes 266 = .ok (.iaload, 1) := by decide +kernel
theorem dX12_comes_267 : decode cX12_comes 267 = .ok (.iadd, 1) := by decide +kernel
theorem dX12_comes_268 : decode cX12_comes 268 = .ok (.dup2, 1) := by decide +kernel
theorem dX12_comes_269 : decode cX12_comes 269 = .ok (.iaload, 1) := by decide +kernel
theorem dX12_comes_270 : decode cX12_comes 270 = .ok (.iload 7, 2) := by decide +kernel
theorem dX12_comes_272 : decode cX12_comes 272 = .ok (.ifCond .eq 8, 3) := by decide +kernel
theorem dX12_comes_275 : decode cX12_comes 275 = .ok (.iload 6, 2) := by decide +kernel
theorem dX12_comes_277 : decode cX12_comes 277 = .ok (.goto 4, 3) := by decide +kernel
theorem dX12_comes_280 : decode cX12_comes 280 = .ok (.iconst 0, 1) := by decide +kernel
theorem dX12_comes_281 : decode cX12_comes 281 = .ok (.iadd, 1) := by decide +kernel
theorem dX12_comes_282 : decode cX12_comes 282 = .ok (.iastore, 1) := by decide +kernel
theorem dX12_comes_283 : decode cX12_comes 283 = .ok (.iinc 4 1, 3) := by decide +kernel
theorem dX12_comes_286 : decode cX12_comes 286 = .ok (.goto (-209), 3) := by decide +kernel
theorem dX12_comes_289 : decode cX12_comes 289 = .ok (.return_, 1) := by decide +kernel
set_option maxRecDepth 100000 in
theorem ggX12_ends_X12_sells : GoodIn wsX12_ends wsX12_sells := goodIn_r _ [9, 2, 10, 11, 3, 24, 25, 26, 27, 28, 29, 30, 31, 32, 33, 34, 35, 36, 37, 38, 39, 40, 41, 42, 43, 44, 45, 46, 47, 48, 49, 50, 51, 52, 53, 54, 55, 56, 57, 58] rfl (by decide +kernel)
set_option maxRecDepth 100000 in
theorem gX12_ends_X12_sells : GoodIn wsX12_ends (wsV RX12 174 RX12 yX12_sells wsX12_sells) := goodIn_app (goodIn_r ([.methodLink RX12 174 yX12_sells, .instanceMethod yX12_sells, .selects RX12 yX12_sells yX12_sells, .initialized RX12] : List Cond) [5, 6, 7, 8] rfl (by decide +kernel)) ggX12_ends_X12_sells
set_option maxRecDepth 100000 in
theorem ggX12_ends_X12_comes : GoodIn wsX12_ends wsX12_comes := goodIn_r _ [15, 1, 16, 17, 18, 19, 20, 21, 22, 8, 23, 24, 25, 26, 27, 28, 29, 30, 31, 32, 33, 34, 35, 36, 37, 38, 39, 40, 41, 42, 43, 44, 45, 46, 47, 48, 49, 50, 51, 52, 53, 54, 55, 56, 57, 58] rfl (by decide +kernel)
set_option maxRecDepth 100000 in
theorem gX12_ends_X12_comes : GoodIn wsX12_ends (wsV RX12 177 RX12 yX12_comes wsX12_comes) := goodIn_app (goodIn_r ([.methodLink RX12 177 yX12_comes, .instanceMethod yX12_comes, .selects RX12 yX12_comes yX12_comes, .initialized RX12] : List Cond) [12, 13, 14, 8] rfl (by decide +kernel)) ggX12_ends_X12_comes
theorem dX12_ends_0 : decode cX12_ends 0 = .ok (.aload_n 0, 1) := by decide +kernel
theorem dX12_ends_1 : decode cX12_ends 1 = .ok (.invokevirtual 174, 3) := by decide +kernel
theorem dX12_ends_4 : decode cX12_ends 4 = .ok (.aload_n 0, 1) := by decide +kernel
theorem dX12_ends_5 : decode cX12_ends 5 = .ok (.getfield 7, 3) := by decide +kernel
theorem dX12_ends_8 : decode cX12_ends 8 = .ok (.iload_n 1, 1) := by decide +kernel
theorem dX12_ends_9 : decode cX12_ends 9 = .ok (.iconst 4, 1) := by decide +kernel
theorem dX12_ends_10 : decode cX12_ends 10 = .ok (.iadd, 1) := by decide +kernel
theorem dX12_ends_11 : decode cX12_ends 11 = .ok (.iconst 0, 1) := by decide +kernel
theorem dX12_ends_12 : decode cX12_ends 12 = .ok (.iastore, 1) := by decide +kernel
theorem dX12_ends_13 : decode cX12_ends 13 = .ok (.aload_n 0, 1) := by decide +kernel
theorem dX12_ends_14 : decode cX12_ends 14 = .ok (.getfield 165, 3) := by decide +kernel
theorem dX12_ends_17 : decode cX12_ends 17 = .ok (.bipush (-9), 2) := by decide +kernel
theorem dX12_ends_19 : decode cX12_ends 19 = .ok (.if_icmp .ne 18, 3) := by decide +kernel
theorem dX12_ends_22 : decode cX12_ends 22 = .ok (.aload_n 0, 1) := by decide +kernel
theorem dX12_ends_23 : decode cX12_ends 23 = .ok (.getfield 7, 3) := by decide +kernel
theorem dX12_ends_26 : decode cX12_ends 26 = .ok (.iload_n 1, 1) := by decide +kernel
theorem dX12_ends_27 : decode cX12_ends 27 = .ok (.iconst 1, 1) := by decide +kernel
theorem dX12_ends_28 : decode cX12_ends 28 = .ok (.iadd, 1) := by decide +kernel
theorem dX12_ends_29 : decode cX12_ends 29 = .ok (.dup2, 1) := by decide +kernel
theorem dX12_ends_30 : decode cX12_ends 30 = .ok (.iaload, 1) := by decide +kernel
theorem dX12_ends_31 : decode cX12_ends 31 = .ok (.iconst 1, 1) := by decide +kernel
theorem dX12_ends_32 : decode cX12_ends 32 = .ok (.iadd, 1) := by decide +kernel
theorem dX12_ends_33 : decode cX12_ends 33 = .ok (.iastore, 1) := by decide +kernel
theorem dX12_ends_34 : decode cX12_ends 34 = .ok (.bipush (-5), 2) := by decide +kernel
theorem dX12_ends_36 : decode cX12_ends 36 = .ok (.ireturn, 1) := by decide +kernel
theorem dX12_ends_37 : decode cX12_ends 37 = .ok (.aload_n 0, 1) := by decide +kernel
theorem dX12_ends_38 : decode cX12_ends 38 = .ok (.getfield 165, 3) := by decide +kernel
theorem dX12_ends_41 : decode cX12_ends 41 = .ok (.iconst 4, 1) := by decide +kernel
theorem dX12_ends_42 : decode cX12_ends 42 = .ok (.if_icmp .ge 27, 3) := by decide +kernel
theorem dX12_ends_45 : decode cX12_ends 45 = .ok (.aload_n 0, 1) := by decide +kernel
theorem dX12_ends_46 : decode cX12_ends 46 = .ok (.getfield 7, 3) := by decide +kernel
theorem dX12_ends_49 : decode cX12_ends 49 = .ok (.iload_n 1, 1) := by decide +kernel
theorem dX12_ends_50 : decode cX12_ends 50 = .ok (.bipush 6, 2) := by decide +kernel
theorem dX12_ends_52 : decode cX12_ends 52 = .ok (.iadd, 1) := by decide +kernel
theorem dX12_ends_53 : decode cX12_ends 53 = .ok (.aload_n 0, 1) := by decide +kernel
theorem dX12_ends_54 : decode cX12_ends 54 = .ok (.getfield 165, 3) := by decide +kernel
theorem dX12_ends_57 : decode cX12_ends 57 = .ok (.iadd, 1) := by decide +kernel
theorem dX12_ends_58 : decode cX12_ends 58 = .ok (.dup2, 1) := by decide +kernel
theorem dX12_ends_59 : decode cX12_ends 59 = .ok (.iaload, 1) := by decide +kernel
theorem dX12_ends_60 : decode cX12_ends 60 = .ok (.aload_n 0, 1) := by decide +kernel
theorem dX12_ends_61 : decode cX12_ends 61 = .ok (.getfield 171, 3) := by decide +kernel
theorem dX12_ends_64 : decode cX12_ends 64 = .ok (.isub, 1) := by decide +kernel
theorem dX12_ends_65 : decode cX12_ends 65 = .ok (.iastore, 1) := by decide +kernel
theorem dX12_ends_66 : decode cX12_ends 66 = .ok (.goto 18, 3) := by decide +kernel
theorem dX12_ends_69 : decode cX12_ends 69 = .ok (.aload_n 0, 1) := by decide +kernel
theorem dX12_ends_70 : decode cX12_ends 70 = .ok (.getfield 7, 3) := by decide +kernel
theorem dX12_ends_73 : decode cX12_ends 73 = .ok (.iload_n 1, 1) := by decide +kernel
theorem dX12_ends_74 : decode cX12_ends 74 = .ok (.iconst 2, 1) := by decide +kernel
theorem dX12_ends_75 : decode cX12_ends 75 = .ok (.iadd, 1) := by decide +kernel
theorem dX12_ends_76 : decode cX12_ends 76 = .ok (.dup2, 1) := by decide +kernel
theorem dX12_ends_77 : decode cX12_ends 77 = .ok (.iaload, 1) := by decide +kernel
theorem dX12_ends_78 : decode cX12_ends 78 = .ok (.aload_n 0, 1) := by decide +kernel
theorem dX12_ends_79 : decode cX12_ends 79 = .ok (.getfield 171, 3) := by decide +kernel
theorem dX12_ends_82 : decode cX12_ends 82 = .ok (.iadd, 1) := by decide +kernel
theorem dX12_ends_83 : decode cX12_ends 83 = .ok (.iastore, 1) := by decide +kernel
theorem dX12_ends_84 : decode cX12_ends 84 = .ok (.aload_n 0, 1) := by decide +kernel
theorem dX12_ends_85 : decode cX12_ends 85 = .ok (.getfield 60, 3) := by decide +kernel
theorem dX12_ends_88 : decode cX12_ends 88 = .ok (.aload_n 0, 1) := by decide +kernel
theorem dX12_ends_89 : decode cX12_ends 89 = .ok (.getfield 165, 3) := by decide +kernel
theorem dX12_ends_92 : decode cX12_ends 92 = .ok (.iaload, 1) := by decide +kernel
theorem dX12_ends_93 : decode cX12_ends 93 = .ok (.istore_n 2, 1) := by decide +kernel
theorem dX12_ends_94 : decode cX12_ends 94 = .ok (.aload_n 0, 1) := by decide +kernel
theorem dX12_ends_95 : decode cX12_ends 95 = .ok (.iload_n 1, 1) := by decide +kernel
theorem dX12_ends_96 : decode cX12_ends 96 = .ok (.iload_n 2, 1) := by decide +kernel
theorem dX12_ends_97 : decode cX12_ends 97 = .ok (.invokevirtual 177, 3) := by decide +kernel
theorem dX12_ends_100 : decode cX12_ends 100 = .ok (.iload_n 2, 1) := by decide +kernel
theorem dX12_ends_101 : decode cX12_ends 101 = .ok (.ireturn, 1) := by decide +kernel
set_option maxRecDepth 100000 in
theorem ggX12_goes_X12_bidsOf : GoodIn wsX12_goes wsX12_bidsOf := goodIn_r _ [5, 6, 7, 8, 9, 10, 11, 12, 13, 4, 14, 15, 38, 39, 40, 41, 42, 43, 44, 45, 46, 47, 48, 49, 50, 51, 52, 53, 54, 55, 56, 57, 58, 59, 60, 61, 62, 63, 64, 65, 66, 67, 68, 69, 70, 71, 72] rfl (by decide +kernel)
set_option maxRecDepth 100000 in
theorem gX12_goes_X12_bidsOf : GoodIn wsX12_goes (wsV RX12 181 RX12 yX12_bidsOf wsX12_bidsOf) := goodIn_app (goodIn_r ([.methodLink RX12 181 yX12_bidsOf, .instanceMethod yX12_bidsOf, .selects RX12 yX12_bidsOf yX12_bidsOf, .initialized RX12] : List Cond) [1, 2, 3, 4] rfl (by decide +kernel)) ggX12_goes_X12_bidsOf
set_option maxRecDepth 100000 in
theorem ggX12_goes_X12_ends : GoodIn wsX12_goes wsX12_ends := goodIn_r _ [19, 9, 20, 21, 10, 22, 23, 24, 4, 25, 26, 6, 27, 28, 29, 30, 7, 31, 32, 33, 34, 35, 36, 37, 38, 39, 40, 41, 42, 43, 44, 45, 46, 47, 48, 49, 50, 51, 52, 53, 54, 55, 56, 57, 58, 59, 60, 61, 62, 63, 64, 65, 66, 67, 68, 69, 70, 71, 72] rfl (by decide +kernel)
set_option maxRecDepth 100000 in
theorem gX12_goes_X12_ends : GoodIn wsX12_goes (wsV RX12 185 RX12 yX12_ends wsX12_ends) := goodIn_app (goodIn_r ([.methodLink RX12 185 yX12_ends, .instanceMethod yX12_ends, .selects RX12 yX12_ends yX12_ends, .initialized RX12] : List Cond) [16, 17, 18, 4] rfl (by decide +kernel)) ggX12_goes_X12_ends
theorem dX12_goes_0 : decode cX12_goes 0 = .ok (.aload_n 0, 1) := by decide +kernel
theorem dX12_goes_1 : decode cX12_goes 1 = .ok (.iload_n 1, 1) := by decide +kernel
theorem dX12_goes_2 : decode cX12_goes 2 = .ok (.invokevirtual 181, 3) := by decide +kernel
theorem dX12_goes_5 : decode cX12_goes 5 = .ok (.aload_n 0, 1) := by decide +kernel
theorem dX12_goes_6 : decode cX12_goes 6 = .ok (.iload_n 1, 1) := by decide +kernel
theorem dX12_goes_7 : decode cX12_goes 7 = .ok (.invokevirtual 185, 3) := by decide +kernel
theorem dX12_goes_10 : decode cX12_goes 10 = .ok (.ireturn, 1) := by decide +kernel
set_option maxRecDepth 100000 in
theorem ggX12_tries_X12_copy : GoodIn wsX12_tries wsX12_copy := goodIn_r _ [6, 1, 7, 8, 9, 10, 11, 12, 13, 14, 15, 16, 17, 18, 19, 20, 21, 22, 23, 24, 25, 26, 27, 28, 29, 30, 31, 32, 33, 34, 35, 36, 37, 38, 39, 40, 41] rfl (by decide +kernel)
set_option maxRecDepth 100000 in
theorem gX12_tries_X12_copy : GoodIn wsX12_tries (wsV RX12 188 RX12 yX12_copy wsX12_copy) := goodIn_app (goodIn_r ([.methodLink RX12 188 yX12_copy, .instanceMethod yX12_copy, .selects RX12 yX12_copy yX12_copy, .initialized RX12] : List Cond) [2, 3, 4, 5] rfl (by decide +kernel)) ggX12_tries_X12_copy
theorem dX12_tries_0 : decode cX12_tries 0 = .ok (.aload_n 0, 1) := by decide +kernel
theorem dX12_tries_1 : decode cX12_tries 1 = .ok (.iconst 0, 1) := by decide +kernel
theorem dX12_tries_2 : decode cX12_tries 2 = .ok (.bipush 120, 2) := by decide +kernel
theorem dX12_tries_4 : decode cX12_tries 4 = .ok (.invokevirtual 188, 3) := by decide +kernel
theorem dX12_tries_7 : decode cX12_tries 7 = .ok (.aload_n 0, 1) := by decide +kernel
theorem dX12_tries_8 : decode cX12_tries 8 = .ok (.getfield 7, 3) := by decide +kernel
theorem dX12_tries_11 : decode cX12_tries 11 = .ok (.bipush 124, 2) := by decide +kernel
theorem dX12_tries_13 : decode cX12_tries 13 = .ok (.iconst 0, 1) := by decide +kernel
theorem dX12_tries_14 : decode cX12_tries 14 = .ok (.iastore, 1) := by decide +kernel
theorem dX12_tries_15 : decode cX12_tries 15 = .ok (.return_, 1) := by decide +kernel
theorem dX12_never_0 : decode cX12_never 0 = .ok (.iconst 0, 1) := by decide +kernel
theorem dX12_never_1 : decode cX12_never 1 = .ok (.istore_n 1, 1) := by decide +kernel
theorem dX12_never_2 : decode cX12_never 2 = .ok (.iconst 0, 1) := by decide +kernel
theorem dX12_never_3 : decode cX12_never 3 = .ok (.istore_n 2, 1) := by decide +kernel
theorem dX12_never_4 : decode cX12_never 4 = .ok (.iload_n 2, 1) := by decide +kernel
theorem dX12_never_5 : decode cX12_never 5 = .ok (.aload_n 0, 1) := by decide +kernel
theorem dX12_never_6 : decode cX12_never 6 = .ok (.getfield 128, 3) := by decide +kernel
theorem dX12_never_9 : decode cX12_never 9 = .ok (.if_icmp .ge 92, 3) := by decide +kernel
theorem dX12_never_12 : decode cX12_never 12 = .ok (.aload_n 0, 1) := by decide +kernel
theorem dX12_never_13 : decode cX12_never 13 = .ok (.getfield 7, 3) := by decide +kernel
theorem dX12_never_16 : decode cX12_never 16 = .ok (.bipush 10, 2) := by decide +kernel
theorem dX12_never_18 : decode cX12_never 18 = .ok (.iload_n 2, 1) := by decide +kernel
theorem dX12_never_19 : decode cX12_never 19 = .ok (.iadd, 1) := by decide +kernel
theorem dX12_never_20 : decode cX12_never 20 = .ok (.iaload, 1) := by decide +kernel
theorem dX12_never_21 : decode cX12_never 21 = .ok (.ifCond .ne 7, 3) := by decide +kernel
theorem dX12_never_24 : decode cX12_never 24 = .ok (.iconst 1, 1) := by decide +kernel
theorem dX12_never_25 : decode cX12_never 25 = .ok (.goto 4, 3) := by decide +kernel
theorem dX12_never_28 : decode cX12_never 28 = .ok (.iconst 0, 1) := by decide +kernel
theorem dX12_never_29 : decode cX12_never 29 = .ok (.istore_n 3, 1) := by decide +kernel
theorem dX12_never_30 : decode cX12_never 30 = .ok (.iconst 0, 1) := by decide +kernel
theorem dX12_never_31 : decode cX12_never 31 = .ok (.istore 4, 2) := by decide +kernel
theorem dX12_never_33 : decode cX12_never 33 = .ok (.iload 4, 2) := by decide +kernel
theorem dX12_never_35 : decode cX12_never 35 = .ok (.aload_n 0, 1) := by decide +kernel
theorem dX12_never_36 : decode cX12_never 36 = .ok (.getfield 125, 3) := by decide +kernel
theorem dX12_never_39 : decode cX12_never 39 = .ok (.if_icmp .ge 42, 3) := by decide +kernel
theorem dX12_never_42 : decode cX12_never 42 = .ok (.iload_n 3, 1) := by decide +kernel
theorem dX12_never_43 : decode cX12_never 43 = .ok (.ifCond .eq 30, 3) := by decide +kernel
theorem dX12_never_46 : decode cX12_never 46 = .ok (.aload_n 0, 1) := by decide +kernel
theorem dX12_never_47 : decode cX12_never 47 = .ok (.getfield 23, 3) := by decide +kernel
theorem dX12_never_50 : decode cX12_never 50 = .ok (.iconst 5, 1) := by decide +kernel
theorem dX12_never_51 : decode cX12_never 51 = .ok (.iload 4, 2) := by decide +kernel
theorem dX12_never_53 : decode cX12_never 53 = .ok (.imul, 1) := by decide +kernel
theorem dX12_never_54 : decode cX12_never 54 = .ok (.aload_n 0, 1) := by decide +kernel
theorem dX12_never_55 : decode cX12_never 55 = .ok (.getfield 30, 3) := by decide +kernel
theorem dX12_never_58 : decode cX12_never 58 = .ok (.iconst 5, 1) := by decide +kernel
theorem dX12_never_59 : decode cX12_never 59 = .ok (.iload_n 2, 1) := by decide +kernel
theorem dX12_never_60 : decode cX12_never 60 = .ok (.imul, 1) := by decide +kernel
theorem dX12_never_61 : decode cX12_never 61 = .ok (.iconst 4, 1) := by decide +kernel
theorem dX12_never_62 : decode cX12_never 62 = .ok (.iadd, 1) := by decide +kernel
theorem dX12_never_63 : decode cX12_never 63 = .ok (.iaload, 1) := by decide +kernel
theorem dX12_never_64 : decode cX12_never 64 = .ok (.iadd, 1) := by decide +kernel
theorem dX12_never_65 : decode cX12_never 65 = .ok (.iaload, 1) := by decide +kernel
theorem dX12_never_66 : decode cX12_never 66 = .ok (.ifCond .ne 7, 3) := by decide +kernel
theorem dX12_never_69 : decode cX12_never 69 = .ok (.iconst 1, 1) := by decide +kernel
theorem dX12_never_70 : decode cX12_never 70 = .ok (.goto 4, 3) := by decide +kernel
theorem dX12_never_73 : decode cX12_never 73 = .ok (.iconst 0, 1) := by decide +kernel
theorem dX12_never_74 : decode cX12_never 74 = .ok (.istore_n 3, 1) := by decide +kernel
theorem dX12_never_75 : decode cX12_never 75 = .ok (.iinc 4 1, 3) := by decide +kernel
theorem dX12_never_78 : decode cX12_never 78 = .ok (.goto (-45), 3) := by decide +kernel
theorem dX12_never_81 : decode cX12_never 81 = .ok (.iload_n 1, 1) := by decide +kernel
theorem dX12_never_82 : decode cX12_never 82 = .ok (.iload_n 3, 1) := by decide +kernel
theorem dX12_never_83 : decode cX12_never 83 = .ok (.ifCond .eq 9, 3) := by decide +kernel
theorem dX12_never_86 : decode cX12_never 86 = .ok (.iconst 1, 1) := by decide +kernel
theorem dX12_never_87 : decode cX12_never 87 = .ok (.iload_n 2, 1) := by decide +kernel
theorem dX12_never_88 : decode cX12_never 88 = .ok (.ishl, 1) := by decide +kernel
theorem dX12_never_89 : decode cX12_never 89 = .ok (.goto 4, 3) := by decide +kernel
theorem dX12_never_92 : decode cX12_never 92 = .ok (.iconst 0, 1) := by decide +kernel
theorem dX12_never_93 : decode cX12_never 93 = .ok (.ior, 1) := by decide +kernel
theorem dX12_never_94 : decode cX12_never 94 = .ok (.istore_n 1, 1) := by decide +kernel
theorem dX12_never_95 : decode cX12_never 95 = .ok (.iinc 2 1, 3) := by decide +kernel
theorem dX12_never_98 : decode cX12_never 98 = .ok (.goto (-94), 3) := by decide +kernel
theorem dX12_never_101 : decode cX12_never 101 = .ok (.iload_n 1, 1) := by decide +kernel
theorem dX12_never_102 : decode cX12_never 102 = .ok (.ireturn, 1) := by decide +kernel
set_option maxRecDepth 100000 in
theorem ggX12_now_X12_in : GoodIn wsX12_now wsX12_in := goodIn_r _ [7] rfl (by decide +kernel)
set_option maxRecDepth 100000 in
theorem gX12_now_X12_in : GoodIn wsX12_now (va_wsS RX12 68 yX12_in wsX12_in) := goodIn_app (goodIn_r ([.methodLink RX12 68 yX12_in, .static yX12_in, .initialized RX12] : List Cond) [4, 5, 6] rfl (by decide +kernel)) ggX12_now_X12_in
set_option maxRecDepth 100000 in
theorem ggX12_now_X12_never : GoodIn wsX12_now wsX12_never := goodIn_r _ [11, 12, 2, 13, 14, 15, 16, 17, 18, 19, 20, 21, 22, 23, 24, 25, 26, 27, 28, 29, 30, 31, 32, 33, 34, 35, 36, 37, 38, 39, 40, 41, 42, 43, 44, 45, 46, 47, 48, 49, 50] rfl (by decide +kernel)
set_option maxRecDepth 100000 in
theorem gX12_now_X12_never : GoodIn wsX12_now (wsV RX12 193 RX12 yX12_never wsX12_never) := goodIn_app (goodIn_r ([.methodLink RX12 193 yX12_never, .instanceMethod yX12_never, .selects RX12 yX12_never yX12_never, .initialized RX12] : List Cond) [8, 9, 10, 6] rfl (by decide +kernel)) ggX12_now_X12_never
theorem dX12_now_0 : decode cX12_now 0 = .ok (.iload_n 1, 1) := by decide +kernel
theorem dX12_now_1 : decode cX12_now 1 = .ok (.i2l, 1) := by decide +kernel
theorem dX12_now_2 : decode cX12_now 2 = .ok (.lconst 0, 1) := by decide +kernel
theorem dX12_now_3 : decode cX12_now 3 = .ok (.ldc2_w 191, 3) := by decide +kernel
theorem dX12_now_6 : decode cX12_now 6 = .ok (.invokestatic 68, 3) := by decide +kernel
theorem dX12_now_9 : decode cX12_now 9 = .ok (.ifCond .eq 12, 3) := by decide +kernel
theorem dX12_now_12 : decode cX12_now 12 = .ok (.aload_n 0, 1) := by decide +kernel
theorem dX12_now_13 : decode cX12_now 13 = .ok (.getfield 7, 3) := by decide +kernel
theorem dX12_now_16 : decode cX12_now 16 = .ok (.iload_n 1, 1) := by decide +kernel
theorem dX12_now_17 : decode cX12_now 17 = .ok (.iaload, 1) := by decide +kernel
theorem dX12_now_18 : decode cX12_now 18 = .ok (.goto 28, 3) := by decide +kernel
theorem dX12_now_21 : decode cX12_now 21 = .ok (.iload_n 1, 1) := by decide +kernel
theorem dX12_now_22 : decode cX12_now 22 = .ok (.iconst 4, 1) := by decide +kernel
theorem dX12_now_23 : decode cX12_now 23 = .ok (.if_icmp .ne 10, 3) := by decide +kernel
theorem dX12_now_26 : decode cX12_now 26 = .ok (.aload_n 0, 1) := by decide +kernel
theorem dX12_now_27 : decode cX12_now 27 = .ok (.invokevirtual 193, 3) := by decide +kernel
theorem dX12_now_30 : decode cX12_now 30 = .ok (.goto 16, 3) := by decide +kernel
