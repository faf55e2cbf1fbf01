theorem dX6_isOf_9 : decode cX6_isOf 9 = .ok (.iload_n 2, 1) := by decide +kernel
theorem dX6_isOf_10 : decode cX6_isOf 10 = .ok (.iload_n 1, 1) := by decide +kernel
theorem dX6_isOf_11 : decode cX6_isOf 11 = .ok (.if_icmp .ne 5, 3) := by decide +kernel
theorem dX6_isOf_14 : decode cX6_isOf 14 = .ok (.iconst 1, 1) := by decide +kernel
theorem dX6_isOf_15 : decode cX6_isOf 15 = .ok (.ireturn, 1) := by decide +kernel
theorem dX6_isOf_16 : decode cX6_isOf 16 = .ok (.getstatic 285, 3) := by decide +kernel
theorem dX6_isOf_19 : decode cX6_isOf 19 = .ok (.iload_n 2, 1) := by decide +kernel
theorem dX6_isOf_20 : decode cX6_isOf 20 = .ok (.iaload, 1) := by decide +kernel
theorem dX6_isOf_21 : decode cX6_isOf 21 = .ok (.istore_n 2, 1) := by decide +kernel
theorem dX6_isOf_22 : decode cX6_isOf 22 = .ok (.iinc 3 1, 3) := by decide +kernel
theorem dX6_isOf_25 : decode cX6_isOf 25 = .ok (.goto (-21), 3) := by decide +kernel
theorem dX6_isOf_28 : decode cX6_isOf 28 = .ok (.iconst 0, 1) := by decide +kernel
theorem dX6_isOf_29 : decode cX6_isOf 29 = .ok (.ireturn, 1) := by decide +kernel
set_option maxRecDepth 20000 in
theorem ggX6_give_X6_leaveTrace : GoodIn wsX6_give wsX6_leaveTrace := goodIn_r _ [11, 12, 13, 17, 18, 19, 20, 21, 22, 23, 24, 25, 26] (by decide +kernel) (by decide +kernel)
set_option maxRecDepth 20000 in
theorem gX6_give_X6_leaveTrace : GoodIn wsX6_give (wsV RX6 288 RX6 yX6_leaveTrace wsX6_leaveTrace) := goodIn_app (goodIn_of _ (by decide +kernel)) ggX6_give_X6_leaveTrace
set_option maxRecDepth 20000 in
theorem ggX6_give_X6_give : GoodIn wsX6_give wsX6_give := goodIn_r _ [0, 1, 2, 3, 4, 5, 6, 7, 8, 9, 10, 11, 12, 13, 14, 15, 16, 17, 18, 19, 20, 21, 22, 23, 24, 25, 26, 27, 28, 29, 30, 31, 32, 33, 34, 35, 36, 37, 38, 39, 40, 41] (by decide +kernel) (by decide +kernel)
set_option maxRecDepth 20000 in
theorem gX6_give_X6_give : GoodIn wsX6_give (wsV RX6 272 RX6 yX6_give wsX6_give) := goodIn_app (goodIn_of _ (by decide +kernel)) ggX6_give_X6_give
theorem dX6_give_0 : decode cX6_give 0 = .ok (.iload_n 3, 1) := by decide +kernel
theorem dX6_give_1 : decode cX6_give 1 = .ok (.bipush 8, 2) := by decide +kernel
theorem dX6_give_3 : decode cX6_give 3 = .ok (.if_icmp .lt 5, 3) := by decide +kernel
theorem dX6_give_6 : decode cX6_give 6 = .ok (.iconst 0, 1) := by decide +kernel
theorem dX6_give_7 : decode cX6_give 7 = .ok (.ireturn, 1) := by decide +kernel
theorem dX6_give_8 : decode cX6_give 8 = .ok (.aload_n 0, 1) := by decide +kernel
theorem dX6_give_9 : decode cX6_give 9 = .ok (.iload_n 1, 1) := by decide +kernel
theorem dX6_give_10 : decode cX6_give 10 = .ok (.invokevirtual 288, 3) := by decide +kernel
theorem dX6_give_13 : decode cX6_give 13 = .ok (.iload_n 3, 1) := by decide +kernel
theorem dX6_give_14 : decode cX6_give 14 = .ok (.iconst 1, 1) := by decide +kernel
theorem dX6_give_15 : decode cX6_give 15 = .ok (.iadd, 1) := by decide +kernel
theorem dX6_give_16 : decode cX6_give 16 = .ok (.istore 4, 2) := by decide +kernel
theorem dX6_give_18 : decode cX6_give 18 = .ok (.aload_n 0, 1) := by decide +kernel
theorem dX6_give_19 : decode cX6_give 19 = .ok (.getfield 25, 3) := by decide +kernel
theorem dX6_give_22 : decode cX6_give 22 = .ok (.getfield 257, 3) := by decide +kernel
theorem dX6_give_25 : decode cX6_give 25 = .ok (.iload_n 2, 1) := by decide +kernel
theorem dX6_give_26 : decode cX6_give 26 = .ok (.iaload, 1) := by decide +kernel
theorem dX6_give_27 : decode cX6_give 27 = .ok (.istore 5, 2) := by decide +kernel
theorem dX6_give_29 : decode cX6_give 29 = .ok (.iload_n 1, 1) := by decide +kernel
theorem dX6_give_30 : decode cX6_give 30 = .ok (.tableswitch 216 10 24 #[74, 84, 108, 119, 132, 216, 216, 216, 216, 216, 144, 146, 166, 180, 204], 74) := by decide +kernel
theorem dX6_give_104 : decode cX6_give 104 = .ok (.aload_n 0, 1) := by decide +kernel
theorem dX6_give_105 : decode cX6_give 105 = .ok (.getfield 25, 3) := by decide +kernel
theorem dX6_give_108 : decode cX6_give 108 = .ok (.getfield 174, 3) := by decide +kernel
theorem dX6_give_111 : decode cX6_give 111 = .ok (.iload_n 2, 1) := by decide +kernel
theorem dX6_give_112 : decode cX6_give 112 = .ok (.iaload, 1) := by decide +kernel
theorem dX6_give_113 : decode cX6_give 113 = .ok (.ireturn, 1) := by decide +kernel
theorem dX6_give_114 : decode cX6_give 114 = .ok (.aload_n 0, 1) := by decide +kernel
theorem dX6_give_115 : decode cX6_give 115 = .ok (.bipush 10, 2) := by decide +kernel
theorem dX6_give_117 : decode cX6_give 117 = .ok (.iload_n 2, 1) := by decide +kernel
theorem dX6_give_118 : decode cX6_give 118 = .ok (.iload 4, 2) := by decide +kernel
theorem dX6_give_120 : decode cX6_give 120 = .ok (.invokevirtual 272, 3) := by decide +kernel
theorem dX6_give_123 : decode cX6_give 123 = .ok (.aload_n 0, 1) := by decide +kernel
theorem dX6_give_124 : decode cX6_give 124 = .ok (.getstatic 269, 3) := by decide +kernel
theorem dX6_give_127 : decode cX6_give 127 = .ok (.iload 5, 2) := by decide +kernel
theorem dX6_give_129 : decode cX6_give 129 = .ok (.iaload, 1) := by decide +kernel
theorem dX6_give_130 : decode cX6_give 130 = .ok (.iload_n 2, 1) := by decide +kernel
theorem dX6_give_131 : decode cX6_give 131 = .ok (.iload 4, 2) := by decide +kernel
theorem dX6_give_133 : decode cX6_give 133 = .ok (.invokevirtual 272, 3) := by decide +kernel
theorem dX6_give_136 : decode cX6_give 136 = .ok (.iadd, 1) := by decide +kernel
theorem dX6_give_137 : decode cX6_give 137 = .ok (.ireturn, 1) := by decide +kernel
theorem dX6_give_138 : decode cX6_give 138 = .ok (.aload_n 0, 1) := by decide +kernel
theorem dX6_give_139 : decode cX6_give 139 = .ok (.bipush 11, 2) := by decide +kernel
theorem dX6_give_141 : decode cX6_give 141 = .ok (.iload_n 2, 1) := by decide +kernel
theorem dX6_give_142 : decode cX6_give 142 = .ok (.iload 4, 2) := by decide +kernel
theorem dX6_give_144 : decode cX6_give 144 = .ok (.invokevirtual 272, 3) := by decide +kernel
theorem dX6_give_147 : decode cX6_give 147 = .ok (.ineg, 1) := by decide +kernel
theorem dX6_give_148 : decode cX6_give 148 = .ok (.ireturn, 1) := by decide +kernel
theorem dX6_give_149 : decode cX6_give 149 = .ok (.aload_n 0, 1) := by decide +kernel
theorem dX6_give_150 : decode cX6_give 150 = .ok (.bipush 10, 2) := by decide +kernel
theorem dX6_give_152 : decode cX6_give 152 = .ok (.iload_n 2, 1) := by decide +kernel
theorem dX6_give_153 : decode cX6_give 153 = .ok (.iload 4, 2) := by decide +kernel
theorem dX6_give_155 : decode cX6_give 155 = .ok (.invokevirtual 272, 3) := by decide +kernel
theorem dX6_give_158 : decode cX6_give 158 = .ok (.bipush 100, 2) := by decide +kernel
theorem dX6_give_160 : decode cX6_give 160 = .ok (.isub, 1) := by decide +kernel
theorem dX6_give_161 : decode cX6_give 161 = .ok (.ireturn, 1) := by decide +kernel
theorem dX6_give_162 : decode cX6_give 162 = .ok (.iconst 2, 1) := by decide +kernel
theorem dX6_give_163 : decode cX6_give 163 = .ok (.aload_n 0, 1) := by decide +kernel
theorem dX6_give_164 : decode cX6_give 164 = .ok (.bipush 13, 2) := by decide +kernel
theorem dX6_give_166 : decode cX6_give 166 = .ok (.iload_n 2, 1) := by decide +kernel
theorem dX6_give_167 : decode cX6_give 167 = .ok (.iload 4, 2) := by decide +kernel
theorem dX6_give_169 : decode cX6_give 169 = .ok (.invokevirtual 272, 3) := by decide +kernel
theorem dX6_give_172 : decode cX6_give 172 = .ok (.imul, 1) := by decide +kernel
theorem dX6_give_173 : decode cX6_give 173 = .ok (.ireturn, 1) := by decide +kernel
theorem dX6_give_174 : decode cX6_give 174 = .ok (.iload_n 2, 1) := by decide +kernel
theorem dX6_give_175 : decode cX6_give 175 = .ok (.ireturn, 1) := by decide +kernel
theorem dX6_give_176 : decode cX6_give 176 = .ok (.aload_n 0, 1) := by decide +kernel
theorem dX6_give_177 : decode cX6_give 177 = .ok (.bipush 20, 2) := by decide +kernel
theorem dX6_give_179 : decode cX6_give 179 = .ok (.iload_n 2, 1) := by decide +kernel
theorem dX6_give_180 : decode cX6_give 180 = .ok (.iload 4, 2) := by decide +kernel
theorem dX6_give_182 : decode cX6_give 182 = .ok (.invokevirtual 272, 3) := by decide +kernel
theorem dX6_give_185 : decode cX6_give 185 = .ok (.aload_n 0, 1) := by decide +kernel
theorem dX6_give_186 : decode cX6_give 186 = .ok (.getfield 25, 3) := by decide +kernel
theorem dX6_give_189 : decode cX6_give 189 = .ok (.getfield 177, 3) := by decide +kernel
theorem dX6_give_192 : decode cX6_give 192 = .ok (.iload_n 2, 1) := by decide +kernel
theorem dX6_give_193 : decode cX6_give 193 = .ok (.iaload, 1) := by decide +kernel
theorem dX6_give_194 : decode cX6_give 194 = .ok (.iadd, 1) := by decide +kernel
theorem dX6_give_195 : decode cX6_give 195 = .ok (.ireturn, 1) := by decide +kernel
theorem dX6_give_196 : decode cX6_give 196 = .ok (.aload_n 0, 1) := by decide +kernel
theorem dX6_give_197 : decode cX6_give 197 = .ok (.bipush 21, 2) := by decide +kernel
theorem dX6_give_199 : decode cX6_give 199 = .ok (.iload_n 2, 1) := by decide +kernel
theorem dX6_give_200 : decode cX6_give 200 = .ok (.iload 4, 2) := by decide +kernel
theorem dX6_give_202 : decode cX6_give 202 = .ok (.invokevirtual 272, 3) := by decide +kernel
theorem dX6_give_205 : decode cX6_give 205 = .ok (.sipush 1000, 3) := by decide +kernel
theorem dX6_give_208 : decode cX6_give 208 = .ok (.isub, 1) := by decide +kernel
theorem dX6_give_209 : decode cX6_give 209 = .ok (.ireturn, 1) := by decide +kernel
theorem dX6_give_210 : decode cX6_give 210 = .ok (.aload_n 0, 1) := by decide +kernel
theorem dX6_give_211 : decode cX6_give 211 = .ok (.bipush 20, 2) := by decide +kernel
theorem dX6_give_213 : decode cX6_give 213 = .ok (.iload_n 2, 1) := by decide +kernel
theorem dX6_give_214 : decode cX6_give 214 = .ok (.iload 4, 2) := by decide +kernel
theorem dX6_give_216 : decode cX6_give 216 = .ok (.invokevirtual 272, 3) := by decide +kernel
theorem dX6_give_219 : decode cX6_give 219 = .ok (.aload_n 0, 1) := by decide +kernel
theorem dX6_give_220 : decode cX6_give 220 = .ok (.getstatic 266, 3) := by decide +kernel
theorem dX6_give_223 : decode cX6_give 223 = .ok (.iload 5, 2) := by decide +kernel
theorem dX6_give_225 : decode cX6_give 225 = .ok (.iaload, 1) := by decide +kernel
theorem dX6_give_226 : decode cX6_give 226 = .ok (.iload_n 2, 1) := by decide +kernel
theorem dX6_give_227 : decode cX6_give 227 = .ok (.iload 4, 2) := by decide +kernel
theorem dX6_give_229 : decode cX6_give 229 = .ok (.invokevirtual 272, 3) := by decide +kernel
theorem dX6_give_232 : decode cX6_give 232 = .ok (.isub, 1) := by decide +kernel
theorem dX6_give_233 : decode cX6_give 233 = .ok (.ireturn, 1) := by decide +kernel
theorem dX6_give_234 : decode cX6_give 234 = .ok (.iconst 2, 1) := by decide +kernel
theorem dX6_give_235 : decode cX6_give 235 = .ok (.aload_n 0, 1) := by decide +kernel
theorem dX6_give_236 : decode cX6_give 236 = .ok (.bipush 21, 2) := by decide +kernel
theorem dX6_give_238 : decode cX6_give 238 = .ok (.iload_n 2, 1) := by decide +kernel
theorem dX6_give_239 : decode cX6_give 239 = .ok (.iload 4, 2) := by decide +kernel
theorem dX6_give_241 : decode cX6_give 241 = .ok (.invokevirtual 272, 3) := by decide +kernel
theorem dX6_give_244 : decode cX6_give 244 = .ok (.imul, 1) := by decide +kernel
theorem dX6_give_245 : decode cX6_give 245 = .ok (.ireturn, 1) := by decide +kernel
theorem dX6_give_246 : decode cX6_give 246 = .ok (.iconst 0, 1) := by decide +kernel
theorem dX6_give_247 : decode cX6_give 247 = .ok (.ireturn, 1) := by decide +kernel
theorem dX6_leaveTrace_0 : decode cX6_leaveTrace 0 = .ok (.aload_n 0, 1) := by decide +kernel
theorem dX6_leaveTrace_1 : decode cX6_leaveTrace 1 = .ok (.getfield 263, 3) := by decide +kernel
theorem dX6_leaveTrace_4 : decode cX6_leaveTrace 4 = .ok (.bipush 16, 2) := by decide +kernel
theorem dX6_leaveTrace_6 : decode cX6_leaveTrace 6 = .ok (.if_icmp .ge 23, 3) := by decide +kernel
theorem dX6_leaveTrace_9 : decode cX6_leaveTrace 9 = .ok (.aload_n 0, 1) := by decide +kernel
theorem dX6_leaveTrace_10 : decode cX6_leaveTrace 10 = .ok (.getfield 54, 3) := by decide +kernel
theorem dX6_leaveTrace_13 : decode cX6_leaveTrace 13 = .ok (.aload_n 0, 1) := by decide +kernel
theorem dX6_leaveTrace_14 : decode cX6_leaveTrace 14 = .ok (.getfield 263, 3) := by decide +kernel
theorem dX6_leaveTrace_17 : decode cX6_leaveTrace 17 = .ok (.iload_n 1, 1) := by decide +kernel
theorem dX6_leaveTrace_18 : decode cX6_leaveTrace 18 = .ok (.iastore, 1) := by decide +kernel
theorem dX6_leaveTrace_19 : decode cX6_leaveTrace 19 = .ok (.aload_n 0, 1) := by decide +kernel
theorem dX6_leaveTrace_20 : decode cX6_leaveTrace 20 = .ok (.dup, 1) := by decide +kernel
theorem dX6_leaveTrace_21 : decode cX6_leaveTrace 21 = .ok (.getfield 263, 3) := by decide +kernel
theorem dX6_leaveTrace_24 : decode cX6_leaveTrace 24 = .ok (.iconst 1, 1) := by decide +kernel
theorem dX6_leaveTrace_25 : decode cX6_leaveTrace 25 = .ok (.iadd, 1) := by decide +kernel
theorem dX6_leaveTrace_26 : decode cX6_leaveTrace 26 = .ok (.putfield 263, 3) := by decide +kernel
theorem dX6_leaveTrace_29 : decode cX6_leaveTrace 29 = .ok (.return_, 1) := by decide +kernel
theorem dX7_init_0 : decode cX7_init 0 = .ok (.aload_n 0, 1) := by decide +kernel
theorem dX7_init_1 : decode cX7_init 1 = .ok (.invokespecial 1, 3) := by decide +kernel
theorem dX7_init_4 : decode cX7_init 4 = .ok (.aload_n 0, 1) := by decide +kernel
theorem dX7_init_5 : decode cX7_init 5 = .ok (.bipush 8, 2) := by decide +kernel
theorem dX7_init_7 : decode cX7_init 7 = .ok (.newarray .int, 2) := by decide +kernel
theorem dX7_init_9 : decode cX7_init 9 = .ok (.putfield 7, 3) := by decide +kernel
theorem dX7_init_12 : decode cX7_init 12 = .ok (.aload_n 0, 1) := by decide +kernel
theorem dX7_init_13 : decode cX7_init 13 = .ok (.bipush 8, 2) := by decide +kernel
theorem dX7_init_15 : decode cX7_init 15 = .ok (.newarray .int, 2) := by decide +kernel
theorem dX7_init_17 : decode cX7_init 17 = .ok (.putfield 13, 3) := by decide +kernel
theorem dX7_init_20 : decode cX7_init 20 = .ok (.aload_n 0, 1) := by decide +kernel
theorem dX7_init_21 : decode cX7_init 21 = .ok (.sipush 320, 3) := by decide +kernel
theorem dX7_init_24 : decode cX7_init 24 = .ok (.newarray .int, 2) := by decide +kernel
theorem dX7_init_26 : decode cX7_init 26 = .ok (.putfield 16, 3) := by decide +kernel
theorem dX7_init_29 : decode cX7_init 29 = .ok (.aload_n 0, 1) := by decide +kernel
theorem dX7_init_30 : decode cX7_init 30 = .ok (.bipush 40, 2) := by decide +kernel
theorem dX7_init_32 : decode cX7_init 32 = .ok (.newarray .int, 2) := by decide +kernel
theorem dX7_init_34 : decode cX7_init 34 = .ok (.putfield 19, 3) := by decide +kernel
theorem dX7_init_37 : decode cX7_init 37 = .ok (.aload_n 0, 1) := by decide +kernel
theorem dX7_init_38 : decode cX7_init 38 = .ok (.bipush 110, 2) := by decide +kernel
theorem dX7_init_40 : decode cX7_init 40 = .ok (.newarray .int, 2) := by decide +kernel
theorem dX7_init_42 : decode cX7_init 42 = .ok (.putfield 22, 3) := by decide +kernel
theorem dX7_init_45 : decode cX7_init 45 = .ok (.aload_n 0, 1) := by decide +kernel
theorem dX7_init_46 : decode cX7_init 46 = .ok (.bipush 55, 2) := by decide +kernel
theorem dX7_init_48 : decode cX7_init 48 = .ok (.newarray .int, 2) := by decide +kernel
theorem dX7_init_50 : decode cX7_init 50 = .ok (.putfield 25, 3) := by decide +kernel
theorem dX7_init_53 : decode cX7_init 53 = .ok (.aload_n 0, 1) := by decide +kernel
theorem dX7_init_54 : decode cX7_init 54 = .ok (.bipush 55, 2) := by decide +kernel
theorem dX7_init_56 : decode cX7_init 56 = .ok (.newarray .int, 2) := by decide +kernel
theorem dX7_init_58 : decode cX7_init 58 = .ok (.putfield 28, 3) := by decide +kernel
theorem dX7_init_61 : decode cX7_init 61 = .ok (.aload_n 0, 1) := by decide +kernel
theorem dX7_init_62 : decode cX7_init 62 = .ok (.bipush 55, 2) := by decide +kernel
theorem dX7_init_64 : decode cX7_init 64 = .ok (.newarray .int, 2) := by decide +kernel
theorem dX7_init_66 : decode cX7_init 66 = .ok (.putfield 31, 3) := by decide +kernel
theorem dX7_init_69 : decode cX7_init 69 = .ok (.aload_n 0, 1) := by decide +kernel
theorem dX7_init_70 : decode cX7_init 70 = .ok (.sipush 1320, 3) := by decide +kernel
theorem dX7_init_73 : decode cX7_init 73 = .ok (.newarray .int, 2) := by decide +kernel
theorem dX7_init_75 : decode cX7_init 75 = .ok (.putfield 34, 3) := by decide +kernel
theorem dX7_init_78 : decode cX7_init 78 = .ok (.aload_n 0, 1) := by decide +kernel
theorem dX7_init_79 : decode cX7_init 79 = .ok (.bipush 110, 2) := by decide +kernel
theorem dX7_init_81 : decode cX7_init 81 = .ok (.newarray .int, 2) := by decide +kernel
theorem dX7_init_83 : decode cX7_init 83 = .ok (.putfield 37, 3) := by decide +kernel
theorem dX7_init_86 : decode cX7_init 86 = .ok (.aload_n 0, 1) := by decide +kernel
theorem dX7_init_87 : decode cX7_init 87 = .ok (.iconst 2, 1) := by decide +kernel
theorem dX7_init_88 : decode cX7_init 88 = .ok (.newarray .boolean, 2) := by decide +kernel
theorem dX7_init_90 : decode cX7_init 90 = .ok (.putfield 40, 3) := by decide +kernel
theorem dX7_init_93 : decode cX7_init 93 = .ok (.aload_n 0, 1) := by decide +kernel
theorem dX7_init_94 : decode cX7_init 94 = .ok (.bipush 7, 2) := by decide +kernel
theorem dX7_init_96 : decode cX7_init 96 = .ok (.newarray .int, 2) := by decide +kernel
theorem dX7_init_98 : decode cX7_init 98 = .ok (.putfield 44, 3) := by decide +kernel
theorem dX7_init_101 : decode cX7_init 101 = .ok (.aload_n 0, 1) := by decide +kernel
theorem dX7_init_102 : decode cX7_init 102 = .ok (.bipush 7, 2) := by decide +kernel
theorem dX7_init_104 : decode cX7_init 104 = .ok (.newarray .int, 2) := by decide +kernel
theorem dX7_init_106 : decode cX7_init 106 = .ok (.putfield 47, 3) := by decide +kernel
theorem dX7_init_109 : decode cX7_init 109 = .ok (.aload_n 0, 1) := by decide +kernel
theorem dX7_init_110 : decode cX7_init 110 = .ok (.bipush 16, 2) := by decide +kernel
theorem dX7_init_112 : decode cX7_init 112 = .ok (.newarray .int, 2) := by decide +kernel
theorem dX7_init_114 : decode cX7_init 114 = .ok (.putfield 50, 3) := by decide +kernel
theorem dX7_init_117 : decode cX7_init 117 = .ok (.iconst 0, 1) := by decide +kernel
theorem dX7_init_118 : decode cX7_init 118 = .ok (.istore_n 1, 1) := by decide +kernel
theorem dX7_init_119 : decode cX7_init 119 = .ok (.iload_n 1, 1) := by decide +kernel
theorem dX7_init_120 : decode cX7_init 120 = .ok (.bipush 8, 2) := by decide +kernel
theorem dX7_init_122 : decode cX7_init 122 = .ok (.if_icmp .ge 17, 3) := by decide +kernel
theorem dX7_init_125 : decode cX7_init 125 = .ok (.aload_n 0, 1) := by decide +kernel
theorem dX7_init_126 : decode cX7_init 126 = .ok (.getfield 7, 3) := by decide +kernel
theorem dX7_init_129 : decode cX7_init 129 = .ok (.iload_n 1, 1) := by decide +kernel
theorem dX7_init_130 : decode cX7_init 130 = .ok (.ldc 53, 2) := by decide +kernel
theorem dX7_init_132 : decode cX7_init 132 = .ok (.iastore, 1) := by decide +kernel
theorem dX7_init_133 : decode cX7_init 133 = .ok (.iinc 1 1, 3) := by decide +kernel
theorem dX7_init_136 : decode cX7_init 136 = .ok (.goto (-17), 3) := by decide +kernel
theorem dX7_init_139 : decode cX7_init 139 = .ok (.return_, 1) := by decide +kernel
theorem dX7_in_0 : decode cX7_in 0 = .ok (.iload_n 0, 1) := by decide +kernel
theorem dX7_in_1 : decode cX7_in 1 = .ok (.iload_n 1, 1) := by decide +kernel
theorem dX7_in_2 : decode cX7_in 2 = .ok (.if_icmp .lt 12, 3) := by decide +kernel
theorem dX7_in_5 : decode cX7_in 5 = .ok (.iload_n 0, 1) := by decide +kernel
theorem dX7_in_6 : decode cX7_in 6 = .ok (.iload_n 2, 1) := by decide +kernel
theorem dX7_in_7 : decode cX7_in 7 = .ok (.if_icmp .gt 7, 3) := by decide +kernel
theorem dX7_in_10 : decode cX7_in 10 = .ok (.iconst 1, 1) := by decide +kernel
theorem dX7_in_11 : decode cX7_in 11 = .ok (.goto 4, 3) := by decide +kernel
theorem dX7_in_14 : decode cX7_in 14 = .ok (.iconst 0, 1) := by decide +kernel
theorem dX7_in_15 : decode cX7_in 15 = .ok (.ireturn, 1) := by decide +kernel
theorem dX7_has_0 : decode cX7_has 0 = .ok (.iload_n 0, 1) := by decide +kernel
theorem dX7_has_1 : decode cX7_has 1 = .ok (.iload_n 1, 1) := by decide +kernel
theorem dX7_has_2 : decode cX7_has 2 = .ok (.ishr, 1) := by decide +kernel
theorem dX7_has_3 : decode cX7_has 3 = .ok (.iconst 1, 1) := by decide +kernel
theorem dX7_has_4 : decode cX7_has 4 = .ok (.iand, 1) := by decide +kernel
theorem dX7_has_5 : decode cX7_has 5 = .ok (.iconst 1, 1) := by decide +kernel
theorem dX7_has_6 : decode cX7_has 6 = .ok (.if_icmp .ne 7, 3) := by decide +kernel
theorem dX7_has_9 : decode cX7_has 9 = .ok (.iconst 1, 1) := by decide +kernel
theorem dX7_has_10 : decode cX7_has 10 = .ok (.goto 4, 3) := by decide +kernel
theorem dX7_has_13 : decode cX7_has 13 = .ok (.iconst 0, 1) := by decide +kernel
theorem dX7_has_14 : decode cX7_has 14 = .ok (.ireturn, 1) := by decide +kernel
theorem dX7_ones_0 : decode cX7_ones 0 = .ok (.iconst 0, 1) := by decide +kernel
theorem dX7_ones_1 : decode cX7_ones 1 = .ok (.istore_n 1, 1) := by decide +kernel
theorem dX7_ones_2 : decode cX7_ones 2 = .ok (.iconst 0, 1) := by decide +kernel
theorem dX7_ones_3 : decode cX7_ones 3 = .ok (.istore_n 2, 1) := by decide +kernel
theorem dX7_ones_4 : decode cX7_ones 4 = .ok (.iload_n 2, 1) := by decide +kernel
theorem dX7_ones_5 : decode cX7_ones 5 = .ok (.bipush 7, 2) := by decide +kernel
theorem dX7_ones_7 : decode cX7_ones 7 = .ok (.if_icmp .ge 17, 3) := by decide +kernel
theorem dX7_ones_10 : decode cX7_ones 10 = .ok (.iload_n 1, 1) := by decide +kernel
theorem dX7_ones_11 : decode cX7_ones 11 = .ok (.iload_n 0, 1) := by decide +kernel
theorem dX7_ones_12 : decode cX7_ones 12 = .ok (.iload_n 2, 1) := by decide +kernel
theorem dX7_ones_13 : decode cX7_ones 13 = .ok (.ishr, 1) := by decide +kernel
theorem dX7_ones_14 : decode cX7_ones 14 = .ok (.iconst 1, 1) := by decide +kernel
theorem dX7_ones_15 : decode cX7_ones 15 = .ok (.iand, 1) := by decide +kernel
theorem dX7_ones_16 : decode cX7_ones 16 = .ok (.iadd, 1) := by decide +kernel
theorem dX7_ones_17 : decode cX7_ones 17 = .ok (.istore_n 1, 1) := by decide +kernel
theorem dX7_ones_18 : decode cX7_ones 18 = .ok (.iinc 2 1, 3) := by decide +kernel
theorem dX7_ones_21 : decode cX7_ones 21 = .ok (.goto (-17), 3) := by decide +kernel
theorem dX7_ones_24 : decode cX7_ones 24 = .ok (.iload_n 1, 1) := by decide +kernel
theorem dX7_ones_25 : decode cX7_ones 25 = .ok (.ireturn, 1) := by decide +kernel
theorem dX7_lesser_0 : decode cX7_lesser 0 = .ok (.iload_n 0, 1) := by decide +kernel
theorem dX7_lesser_1 : decode cX7_lesser 1 = .ok (.iload_n 1, 1) := by decide +kernel
theorem dX7_lesser_2 : decode cX7_lesser 2 = .ok (.if_icmp .ge 7, 3) := by decide +kernel
theorem dX7_lesser_5 : decode cX7_lesser 5 = .ok (.iload_n 0, 1) := by decide +kernel
theorem dX7_lesser_6 : decode cX7_lesser 6 = .ok (.goto 4, 3) := by decide +kernel
theorem dX7_lesser_9 : decode cX7_lesser 9 = .ok (.iload_n 1, 1) := by decide +kernel
theorem dX7_lesser_10 : decode cX7_lesser 10 = .ok (.ireturn, 1) := by decide +kernel
theorem dX7_greater_0 : decode cX7_greater 0 = .ok (.iload_n 0, 1) := by decide +kernel
theorem dX7_greater_1 : decode cX7_greater 1 = .ok (.iload_n 1, 1) := by decide +kernel
theorem dX7_greater_2 : decode cX7_greater 2 = .ok (.if_icmp .le 7, 3) := by decide +kernel
theorem dX7_greater_5 : decode cX7_greater 5 = .ok (.iload_n 0, 1) := by decide +kernel
theorem dX7_greater_6 : decode cX7_greater 6 = .ok (.goto 4, 3) := by decide +kernel
theorem dX7_greater_9 : decode cX7_greater 9 = .ok (.iload_n 1, 1) := by decide +kernel
theorem dX7_greater_10 : decode cX7_greater 10 = .ok (.ireturn, 1) := by decide +kernel
theorem dX7_found_0 : decode cX7_found 0 = .ok (.aload_n 0, 1) := by decide +kernel
theorem dX7_found_1 : decode cX7_found 1 = .ok (.iload_n 1, 1) := by decide +kernel
theorem dX7_found_2 : decode cX7_found 2 = .ok (.putfield 54, 3) := by decide +kernel
theorem dX7_found_5 : decode cX7_found 5 = .ok (.ldc 58, 2) := by decide +kernel
theorem dX7_found_7 : decode cX7_found 7 = .ok (.iload_n 1, 1) := by decide +kernel
theorem dX7_found_8 : decode cX7_found 8 = .ok (.isub, 1) := by decide +kernel
theorem dX7_found_9 : decode cX7_found 9 = .ok (.ireturn, 1) := by decide +kernel
theorem dX7_well_0 : decode cX7_well 0 = .ok (.aload_n 0, 1) := by decide +kernel
theorem dX7_well_1 : decode cX7_well 1 = .ok (.iconst 0, 1) := by decide +kernel
theorem dX7_well_2 : decode cX7_well 2 = .ok (.putfield 54, 3) := by decide +kernel
theorem dX7_well_5 : decode cX7_well 5 = .ok (.iload_n 1, 1) := by decide +kernel
theorem dX7_well_6 : decode cX7_well 6 = .ok (.ireturn, 1) := by decide +kernel
theorem dX7_copies_0 : decode cX7_copies 0 = .ok (.iconst 0, 1) := by decide +kernel
theorem dX7_copies_1 : decode cX7_copies 1 = .ok (.istore 4, 2) := by decide +kernel
theorem dX7_copies_3 : decode cX7_copies 3 = .ok (.iload 4, 2) := by decide +kernel
theorem dX7_copies_5 : decode cX7_copies 5 = .ok (.bipush 55, 2) := by decide +kernel
theorem dX7_copies_7 : decode cX7_copies 7 = .ok (.if_icmp .ge 21, 3) := by decide +kernel
theorem dX7_copies_10 : decode cX7_copies 10 = .ok (.aload_n 2, 1) := by decide +kernel
theorem dX7_copies_11 : decode cX7_copies 11 = .ok (.iload_n 3, 1) := by decide +kernel
theorem dX7_copies_12 : decode cX7_copies 12 = .ok (.iload 4, 2) := by decide +kernel
theorem dX7_copies_14 : decode cX7_copies 14 = .ok (.iadd, 1) := by decide +kernel
theorem dX7_copies_15 : decode cX7_copies 15 = .ok (.aload_n 0, 1) := by decide +kernel
theorem dX7_copies_16 : decode cX7_copies 16 = .ok (.iload_n 1, 1) := by decide +kernel
theorem dX7_copies_17 : decode cX7_copies 17 = .ok (.iload 4, 2) := by decide +kernel
theorem dX7_copies_19 : decode cX7_copies 19 = .ok (.iadd, 1) := by decide +kernel
theorem dX7_copies_20 : decode cX7_copies 20 = .ok (.iaload, 1) := by decide +kernel
theorem dX7_copies_21 : decode cX7_copies 21 = .ok (.iastore, 1) := by decide +kernel
theorem dX7_copies_22 : decode cX7_copies 22 = .ok (.iinc 4 1, 3) := by decide +kernel
theorem dX7_copies_25 : decode cX7_copies 25 = .ok (.goto (-22), 3) := by decide +kernel
theorem dX7_copies_28 : decode cX7_copies 28 = .ok (.return_, 1) := by decide +kernel
set_option maxRecDepth 20000 in
theorem ggX7_isRow_X7_in : GoodIn wsX7_isRow wsX7_in := goodIn_r _ [4] (by decide +kernel) (by decide +kernel)
set_option maxRecDepth 20000 in
theorem gX7_isRow_X7_in : GoodIn wsX7_isRow (va_wsS RX7 59 yX7_in wsX7_in) := goodIn_app (goodIn_of _ (by decide +kernel)) ggX7_isRow_X7_in
theorem dX7_isRow_0 : decode cX7_isRow 0 = .ok (.iload_n 0, 1) := by decide +kernel
theorem dX7_isRow_1 : decode cX7_isRow 1 = .ok (.iconst 0, 1) := by decide +kernel
theorem dX7_isRow_2 : decode cX7_isRow 2 = .ok (.bipush 7, 2) := by decide +kernel
theorem dX7_isRow_4 : decode cX7_isRow 4 = .ok (.invokestatic 59, 3) := by decide +kernel
theorem dX7_isRow_7 : decode cX7_isRow 7 = .ok (.ireturn, 1) := by decide +kernel
theorem dX7_isMissing_0 : decode cX7_isMissing 0 = .ok (.aload_n 0, 1) := by decide +kernel
theorem dX7_isMissing_1 : decode cX7_isMissing 1 = .ok (.getfield 7, 3) := by decide +kernel
theorem dX7_isMissing_4 : decode cX7_isMissing 4 = .ok (.iload_n 1, 1) := by decide +kernel
theorem dX7_isMissing_5 : decode cX7_isMissing 5 = .ok (.iaload, 1) := by decide +kernel
theorem dX7_isMissing_6 : decode cX7_isMissing 6 = .ok (.ldc 53, 2) := by decide +kernel
theorem dX7_isMissing_8 : decode cX7_isMissing 8 = .ok (.if_icmp .ne 7, 3) := by decide +kernel
theorem dX7_isMissing_11 : decode cX7_isMissing 11 = .ok (.iconst 1, 1) := by decide +kernel
theorem dX7_isMissing_12 : decode cX7_isMissing 12 = .ok (.goto 4, 3) := by decide +kernel
theorem dX7_isMissing_15 : decode cX7_isMissing 15 = .ok (.iconst 0, 1) := by decide +kernel
theorem dX7_isMissing_16 : decode cX7_isMissing 16 = .ok (.ireturn, 1) := by decide +kernel
theorem dX7_cut_0 : decode cX7_cut 0 = .ok (.iload_n 0, 1) := by decide +kernel
theorem dX7_cut_1 : decode cX7_cut 1 = .ok (.ifCond .ne 13, 3) := by decide +kernel
theorem dX7_cut_4 : decode cX7_cut 4 = .ok (.iload_n 1, 1) := by decide +kernel
theorem dX7_cut_5 : decode cX7_cut 5 = .ok (.bipush 24, 2) := by decide +kernel
theorem dX7_cut_7 : decode cX7_cut 7 = .ok (.ishl, 1) := by decide +kernel
theorem dX7_cut_8 : decode cX7_cut 8 = .ok (.bipush 24, 2) := by decide +kernel
theorem dX7_cut_10 : decode cX7_cut 10 = .ok (.ishr, 1) := by decide +kernel
theorem dX7_cut_11 : decode cX7_cut 11 = .ok (.goto 19, 3) := by decide +kernel
theorem dX7_cut_14 : decode cX7_cut 14 = .ok (.iload_n 0, 1) := by decide +kernel
theorem dX7_cut_15 : decode cX7_cut 15 = .ok (.iconst 1, 1) := by decide +kernel
theorem dX7_cut_16 : decode cX7_cut 16 = .ok (.if_icmp .ne 13, 3) := by decide +kernel
theorem dX7_cut_19 : decode cX7_cut 19 = .ok (.iload_n 1, 1) := by decide +kernel
theorem dX7_cut_20 : decode cX7_cut 20 = .ok (.bipush 16, 2) := by decide +kernel
theorem dX7_cut_22 : decode cX7_cut 22 = .ok (.ishl, 1) := by decide +kernel
theorem dX7_cut_23 : decode cX7_cut 23 = .ok (.bipush 16, 2) := by decide +kernel
theorem dX7_cut_25 : decode cX7_cut 25 = .ok (.ishr, 1) := by decide +kernel
theorem dX7_cut_26 : decode cX7_cut 26 = .ok (.goto 4, 3) := by decide +kernel
theorem dX7_cut_29 : decode cX7_cut 29 = .ok (.iload_n 1, 1) := by decide +kernel
theorem dX7_cut_30 : decode cX7_cut 30 = .ok (.ireturn, 1) := by decide +kernel
set_option maxRecDepth 20000 in
theorem ggX7_row_X7_isRow : GoodIn wsX7_row wsX7_isRow := goodIn_r _ [8, 9, 10, 7, 11] (by decide +kernel) (by decide +kernel)
set_option maxRecDepth 20000 in
theorem gX7_row_X7_isRow : GoodIn wsX7_row (va_wsS RX7 63 yX7_isRow wsX7_isRow) := goodIn_app (goodIn_of _ (by decide +kernel)) ggX7_row_X7_isRow
set_option maxRecDepth 20000 in
theorem ggX7_row_X7_in : GoodIn wsX7_row wsX7_in := goodIn_r _ [11] (by decide +kernel) (by decide +kernel)
set_option maxRecDepth 20000 in
theorem gX7_row_X7_in : GoodIn wsX7_row (va_wsS RX7 59 yX7_in wsX7_in) := goodIn_app (goodIn_of _ (by decide +kernel)) ggX7_row_X7_in
set_option maxRecDepth 20000 in
theorem ggX7_row_X7_found : GoodIn wsX7_row wsX7_found := goodIn_r _ [15, 16, 17, 22, 23, 24, 25, 26, 27, 28, 29, 30, 31, 32, 33, 34, 35, 36, 37, 38, 39, 40, 41, 42, 43, 44, 45] (by decide +kernel) (by decide +kernel)
set_option maxRecDepth 20000 in
theorem gX7_row_X7_found : GoodIn wsX7_row (wsV RX7 68 RX7 yX7_found wsX7_found) := goodIn_app (goodIn_of _ (by decide +kernel)) ggX7_row_X7_found
set_option maxRecDepth 20000 in
theorem ggX7_row_X7_well : GoodIn wsX7_row wsX7_well := goodIn_r _ [21, 16, 22, 23, 24, 25, 26, 27, 28, 29, 30, 31, 32, 33, 34, 35, 36, 37, 38, 39, 40, 41, 42, 43, 44, 45] (by decide +kernel) (by decide +kernel)
set_option maxRecDepth 20000 in
theorem gX7_row_X7_well : GoodIn wsX7_row (wsV RX7 72 RX7 yX7_well wsX7_well) := goodIn_app (goodIn_of _ (by decide +kernel)) ggX7_row_X7_well
theorem dX7_row_0 : decode cX7_row 0 = .ok (.iload_n 1, 1) := by decide +kernel
theorem dX7_row_1 : decode cX7_row 1 = .ok (.invokestatic 63, 3) := by decide +kernel
theorem dX7_row_4 : decode cX7_row 4 = .ok (.ifCond .eq 18, 3) := by decide +kernel
theorem dX7_row_7 : decode cX7_row 7 = .ok (.iload_n 2, 1) := by decide +kernel
theorem dX7_row_8 : decode cX7_row 8 = .ok (.iconst 0, 1) := by decide +kernel
theorem dX7_row_9 : decode cX7_row 9 = .ok (.iconst 2, 1) := by decide +kernel
theorem dX7_row_10 : decode cX7_row 10 = .ok (.invokestatic 59, 3) := by decide +kernel
theorem dX7_row_13 : decode cX7_row 13 = .ok (.ifCond .eq 9, 3) := by decide +kernel
theorem dX7_row_16 : decode cX7_row 16 = .ok (.iload_n 3, 1) := by decide +kernel
theorem dX7_row_17 : decode cX7_row 17 = .ok (.bipush 40, 2) := by decide +kernel
theorem dX7_row_19 : decode cX7_row 19 = .ok (.if_icmp .le 6, 3) := by decide +kernel
theorem dX7_row_22 : decode cX7_row 22 = .ok (.ldc 67, 2) := by decide +kernel
theorem dX7_row_24 : decode cX7_row 24 = .ok (.ireturn, 1) := by decide +kernel
theorem dX7_row_25 : decode cX7_row 25 = .ok (.iload_n 3, 1) := by decide +kernel
theorem dX7_row_26 : decode cX7_row 26 = .ok (.ifCond .ge 9, 3) := by decide +kernel
theorem dX7_row_29 : decode cX7_row 29 = .ok (.aload_n 0, 1) := by decide +kernel
theorem dX7_row_30 : decode cX7_row 30 = .ok (.iconst 4, 1) := by decide +kernel
theorem dX7_row_31 : decode cX7_row 31 = .ok (.invokevirtual 68, 3) := by decide +kernel
theorem dX7_row_34 : decode cX7_row 34 = .ok (.ireturn, 1) := by decide +kernel
theorem dX7_row_35 : decode cX7_row 35 = .ok (.aload_n 0, 1) := by decide +kernel
theorem dX7_row_36 : decode cX7_row 36 = .ok (.getfield 7, 3) := by decide +kernel
theorem dX7_row_39 : decode cX7_row 39 = .ok (.iload_n 1, 1) := by decide +kernel
theorem dX7_row_40 : decode cX7_row 40 = .ok (.iload_n 2, 1) := by decide +kernel
theorem dX7_row_41 : decode cX7_row 41 = .ok (.iastore, 1) := by decide +kernel
theorem dX7_row_42 : decode cX7_row 42 = .ok (.aload_n 0, 1) := by decide +kernel
theorem dX7_row_43 : decode cX7_row 43 = .ok (.getfield 13, 3) := by decide +kernel
theorem dX7_row_46 : decode cX7_row 46 = .ok (.iload_n 1, 1) := by decide +kernel
theorem dX7_row_47 : decode cX7_row 47 = .ok (.iload_n 3, 1) := by decide +kernel
theorem dX7_row_48 : decode cX7_row 48 = .ok (.iastore, 1) := by decide +kernel
theorem dX7_row_49 : decode cX7_row 49 = .ok (.iconst 0, 1) := by decide +kernel
theorem dX7_row_50 : decode cX7_row 50 = .ok (.istore 4, 2) := by decide +kernel
theorem dX7_row_52 : decode cX7_row 52 = .ok (.iload 4, 2) := by decide +kernel
theorem dX7_row_54 : decode cX7_row 54 = .ok (.bipush 40, 2) := by decide +kernel
theorem dX7_row_56 : decode cX7_row 56 = .ok (.if_icmp .ge 22, 3) := by decide +kernel
theorem dX7_row_59 : decode cX7_row 59 = .ok (.aload_n 0, 1) := by decide +kernel
theorem dX7_row_60 : decode cX7_row 60 = .ok (.getfield 16, 3) := by decide +kernel
theorem dX7_row_63 : decode cX7_row 63 = .ok (.bipush 40, 2) := by decide +kernel
theorem dX7_row_65 : decode cX7_row 65 = .ok (.iload_n 1, 1) := by decide +kernel
theorem dX7_row_66 : decode cX7_row 66 = .ok (.imul, 1) := by decide +kernel
theorem dX7_row_67 : decode cX7_row 67 = .ok (.iload 4, 2) := by decide +kernel
theorem dX7_row_69 : decode cX7_row 69 = .ok (.iadd, 1) := by decide +kernel
theorem dX7_row_70 : decode cX7_row 70 = .ok (.iconst 0, 1) := by decide +kernel
theorem dX7_row_71 : decode cX7_row 71 = .ok (.iastore, 1) := by decide +kernel
theorem dX7_row_72 : decode cX7_row 72 = .ok (.iinc 4 1, 3) := by decide +kernel
theorem dX7_row_75 : decode cX7_row 75 = .ok (.goto (-23), 3) := by decide +kernel
theorem dX7_row_78 : decode cX7_row 78 = .ok (.aload_n 0, 1) := by decide +kernel
theorem dX7_row_79 : decode cX7_row 79 = .ok (.iload_n 3, 1) := by decide +kernel
theorem dX7_row_80 : decode cX7_row 80 = .ok (.invokevirtual 72, 3) := by decide +kernel
theorem dX7_row_83 : decode cX7_row 83 = .ok (.ireturn, 1) := by decide +kernel
set_option maxRecDepth 20000 in
theorem ggX7_set_X7_isRow : GoodIn wsX7_set wsX7_isRow := goodIn_r _ [8, 9, 10, 7, 11] (by decide +kernel) (by decide +kernel)
set_option maxRecDepth 20000 in
theorem gX7_set_X7_isRow : GoodIn wsX7_set (va_wsS RX7 63 yX7_isRow wsX7_isRow) := goodIn_app (goodIn_of _ (by decide +kernel)) ggX7_set_X7_isRow
set_option maxRecDepth 20000 in
theorem ggX7_set_X7_isMissing : GoodIn wsX7_set wsX7_isMissing := goodIn_r _ [15, 4, 16, 30, 31, 32, 33, 34, 35, 36, 37, 38, 39, 40, 41, 42, 43, 44, 45, 46, 47, 48, 49, 50, 51, 52, 53] (by decide +kernel) (by decide +kernel)
set_option maxRecDepth 20000 in
theorem gX7_set_X7_isMissing : GoodIn wsX7_set (wsV RX7 75 RX7 yX7_isMissing wsX7_isMissing) := goodIn_app (goodIn_of _ (by decide +kernel)) ggX7_set_X7_isMissing
set_option maxRecDepth 20000 in
theorem ggX7_set_X7_found : GoodIn wsX7_set wsX7_found := goodIn_r _ [20, 21, 22, 30, 31, 32, 33, 34, 35, 36, 37, 38, 39, 40, 41, 42, 43, 44, 45, 46, 47, 48, 49, 50, 51, 52, 53] (by decide +kernel) (by decide +kernel)
set_option maxRecDepth 20000 in
theorem gX7_set_X7_found : GoodIn wsX7_set (wsV RX7 68 RX7 yX7_found wsX7_found) := goodIn_app (goodIn_of _ (by decide +kernel)) ggX7_set_X7_found
set_option maxRecDepth 20000 in
theorem ggX7_set_X7_in : GoodIn wsX7_set wsX7_in := goodIn_r _ [11] (by decide +kernel) (by decide +kernel)
set_option maxRecDepth 20000 in
theorem gX7_set_X7_in : GoodIn wsX7_set (va_wsS RX7 59 yX7_in wsX7_in) := goodIn_app (goodIn_of _ (by decide +kernel)) ggX7_set_X7_in
set_option maxRecDepth 20000 in
theorem ggX7_set_X7_cut : GoodIn wsX7_set wsX7_cut := goodIn_r _ [25] (by decide +kernel) (by decide +kernel)
set_option maxRecDepth 20000 in
theorem gX7_set_X7_cut : GoodIn wsX7_set (va_wsS RX7 78 yX7_cut wsX7_cut) := goodIn_app (goodIn_of _ (by decide +kernel)) ggX7_set_X7_cut
set_option maxRecDepth 20000 in
theorem ggX7_set_X7_well : GoodIn wsX7_set wsX7_well := goodIn_r _ [29, 21, 30, 31, 32, 33, 34, 35, 36, 37, 38, 39, 40, 41, 42, 43, 44, 45, 46, 47, 48, 49, 50, 51, 52, 53] (by decide +kernel) (by decide +kernel)
set_option maxRecDepth 20000 in
theorem gX7_set_X7_well : GoodIn wsX7_set (wsV RX7 72 RX7 yX7_well wsX7_well) := goodIn_app (goodIn_of _ (by decide +kernel)) ggX7_set_X7_well
theorem dX7_set_0 : decode cX7_set 0 = .ok (.iload_n 1, 1) := by decide +kernel
theorem dX7_set_1 : decode cX7_set 1 = .ok (.invokestatic 63, 3) := by decide +kernel
theorem dX7_set_4 : decode cX7_set 4 = .ok (.ifCond .ne 6, 3) := by decide +kernel
theorem dX7_set_7 : decode cX7_set 7 = .ok (.ldc 67, 2) := by decide +kernel
theorem dX7_set_9 : decode cX7_set 9 = .ok (.ireturn, 1) := by decide +kernel
theorem dX7_set_10 : decode cX7_set 10 = .ok (.aload_n 0, 1) := by decide +kernel
theorem dX7_set_11 : decode cX7_set 11 = .ok (.iload_n 1, 1) := by decide +kernel
theorem dX7_set_12 : decode cX7_set 12 = .ok (.invokevirtual 75, 3) := by decide +kernel
theorem dX7_set_15 : decode cX7_set 15 = .ok (.ifCond .eq 9, 3) := by decide +kernel
theorem dX7_set_18 : decode cX7_set 18 = .ok (.aload_n 0, 1) := by decide +kernel
theorem dX7_set_19 : decode cX7_set 19 = .ok (.iconst 1, 1) := by decide +kernel
theorem dX7_set_20 : decode cX7_set 20 = .ok (.invokevirtual 68, 3) := by decide +kernel
theorem dX7_set_23 : decode cX7_set 23 = .ok (.ireturn, 1) := by decide +kernel
theorem dX7_set_24 : decode cX7_set 24 = .ok (.iload_n 2, 1) := by decide +kernel
theorem dX7_set_25 : decode cX7_set 25 = .ok (.iconst 0, 1) := by decide +kernel
theorem dX7_set_26 : decode cX7_set 26 = .ok (.aload_n 0, 1) := by decide +kernel
theorem dX7_set_27 : decode cX7_set 27 = .ok (.getfield 13, 3) := by decide +kernel
theorem dX7_set_30 : decode cX7_set 30 = .ok (.iload_n 1, 1) := by decide +kernel
theorem dX7_set_31 : decode cX7_set 31 = .ok (.iaload, 1) := by decide +kernel
theorem dX7_set_32 : decode cX7_set 32 = .ok (.iconst 1, 1) := by decide +kernel
theorem dX7_set_33 : decode cX7_set 33 = .ok (.isub, 1) := by decide +kernel
theorem dX7_set_34 : decode cX7_set 34 = .ok (.invokestatic 59, 3) := by decide +kernel
theorem dX7_set_37 : decode cX7_set 37 = .ok (.ifCond .ne 9, 3) := by decide +kernel
theorem dX7_set_40 : decode cX7_set 40 = .ok (.aload_n 0, 1) := by decide +kernel
theorem dX7_set_41 : decode cX7_set 41 = .ok (.iconst 2, 1) := by decide +kernel
theorem dX7_set_42 : decode cX7_set 42 = .ok (.invokevirtual 68, 3) := by decide +kernel
theorem dX7_set_45 : decode cX7_set 45 = .ok (.ireturn, 1) := by decide +kernel
theorem dX7_set_46 : decode cX7_set 46 = .ok (.aload_n 0, 1) := by decide +kernel
theorem dX7_set_47 : decode cX7_set 47 = .ok (.getfield 16, 3) := by decide +kernel
theorem dX7_set_50 : decode cX7_set 50 = .ok (.bipush 40, 2) := by decide +kernel
theorem dX7_set_52 : decode cX7_set 52 = .ok (.iload_n 1, 1) := by decide +kernel
theorem dX7_set_53 : decode cX7_set 53 = .ok (.imul, 1) := by decide +kernel
theorem dX7_set_54 : decode cX7_set 54 = .ok (.iload_n 2, 1) := by decide +kernel
theorem dX7_set_55 : decode cX7_set 55 = .ok (.iadd, 1) := by decide +kernel
theorem dX7_set_56 : decode cX7_set 56 = .ok (.aload_n 0, 1) := by decide +kernel
theorem dX7_set_57 : decode cX7_set 57 = .ok (.getfield 7, 3) := by decide +kernel
theorem dX7_set_60 : decode cX7_set 60 = .ok (.iload_n 1, 1) := by decide +kernel
theorem dX7_set_61 : decode cX7_set 61 = .ok (.iaload, 1) := by decide +kernel
theorem dX7_set_62 : decode cX7_set 62 = .ok (.iload_n 3, 1) := by decide +kernel
theorem dX7_set_63 : decode cX7_set 63 = .ok (.invokestatic 78, 3) := by decide +kernel
theorem dX7_set_66 : decode cX7_set 66 = .ok (.iastore, 1) := by decide +kernel
theorem dX7_set_67 : decode cX7_set 67 = .ok (.aload_n 0, 1) := by decide +kernel
theorem dX7_set_68 : decode cX7_set 68 = .ok (.aload_n 0, 1) := by decide +kernel
theorem dX7_set_69 : decode cX7_set 69 = .ok (.getfield 16, 3) := by decide +kernel
theorem dX7_set_72 : decode cX7_set 72 = .ok (.bipush 40, 2) := by decide +kernel
theorem dX7_set_74 : decode cX7_set 74 = .ok (.iload_n 1, 1) := by decide +kernel
theorem dX7_set_75 : decode cX7_set 75 = .ok (.imul, 1) := by decide +kernel
theorem dX7_set_76 : decode cX7_set 76 = .ok (.iload_n 2, 1) := by decide +kernel
theorem dX7_set_77 : decode cX7_set 77 = .ok (.iadd, 1) := by decide +kernel
theorem dX7_set_78 : decode cX7_set 78 = .ok (.iaload, 1) := by decide +kernel
theorem dX7_set_79 : decode cX7_set 79 = .ok (.invokevirtual 72, 3) := by decide +kernel
theorem dX7_set_82 : decode cX7_set 82 = .ok (.ireturn, 1) := by decide +kernel
theorem dX7_isPart_0 : decode cX7_isPart 0 = .ok (.iload_n 2, 1) := by decide +kernel
theorem dX7_isPart_1 : decode cX7_isPart 1 = .ok (.ifCond .lt 33, 3) := by decide +kernel
theorem dX7_isPart_4 : decode cX7_isPart 4 = .ok (.iload_n 3, 1) := by decide +kernel
theorem dX7_isPart_5 : decode cX7_isPart 5 = .ok (.ifCond .lt 29, 3) := by decide +kernel
theorem dX7_isPart_8 : decode cX7_isPart 8 = .ok (.iload_n 2, 1) := by decide +kernel
theorem dX7_isPart_9 : decode cX7_isPart 9 = .ok (.aload_n 0, 1) := by decide +kernel
theorem dX7_isPart_10 : decode cX7_isPart 10 = .ok (.getfield 13, 3) := by decide +kernel
theorem dX7_isPart_13 : decode cX7_isPart 13 = .ok (.iload_n 1, 1) := by decide +kernel
theorem dX7_isPart_14 : decode cX7_isPart 14 = .ok (.iaload, 1) := by decide +kernel
theorem dX7_isPart_15 : decode cX7_isPart 15 = .ok (.if_icmp .gt 19, 3) := by decide +kernel
theorem dX7_isPart_18 : decode cX7_isPart 18 = .ok (.iload_n 3, 1) := by decide +kernel
theorem dX7_isPart_19 : decode cX7_isPart 19 = .ok (.aload_n 0, 1) := by decide +kernel
theorem dX7_isPart_20 : decode cX7_isPart 20 = .ok (.getfield 13, 3) := by decide +kernel
theorem dX7_isPart_23 : decode cX7_isPart 23 = .ok (.iload_n 1, 1) := by decide +kernel
theorem dX7_isPart_24 : decode cX7_isPart 24 = .ok (.iaload, 1) := by decide +kernel
theorem dX7_isPart_25 : decode cX7_isPart 25 = .ok (.iload_n 2, 1) := by decide +kernel
theorem dX7_isPart_26 : decode cX7_isPart 26 = .ok (.isub, 1) := by decide +kernel
theorem dX7_isPart_27 : decode cX7_isPart 27 = .ok (.if_icmp .gt 7, 3) := by decide +kernel
theorem dX7_isPart_30 : decode cX7_isPart 30 = .ok (.iconst 1, 1) := by decide +kernel
theorem dX7_isPart_31 : decode cX7_isPart 31 = .ok (.goto 4, 3) := by decide +kernel
theorem dX7_isPart_34 : decode cX7_isPart 34 = .ok (.iconst 0, 1) := by decide +kernel
theorem dX7_isPart_35 : decode cX7_isPart 35 = .ok (.ireturn, 1) := by decide +kernel
set_option maxRecDepth 20000 in
theorem ggX7_copy_X7_isRow : GoodIn wsX7_copy wsX7_isRow := goodIn_r _ [8, 9, 10, 7, 11] (by decide +kernel) (by decide +kernel)
set_option maxRecDepth 20000 in
theorem gX7_copy_X7_isRow : GoodIn wsX7_copy (va_wsS RX7 63 yX7_isRow wsX7_isRow) := goodIn_app (goodIn_of _ (by decide +kernel)) ggX7_copy_X7_isRow
set_option maxRecDepth 20000 in
theorem ggX7_copy_X7_isMissing : GoodIn wsX7_copy wsX7_isMissing := goodIn_r _ [15, 2, 16, 32, 33, 34, 35, 36, 37, 38, 39, 40, 41, 42, 43, 44, 45, 46, 47, 48, 49, 50, 51, 52, 53, 54, 55] (by decide +kernel) (by decide +kernel)
set_option maxRecDepth 20000 in
theorem gX7_copy_X7_isMissing : GoodIn wsX7_copy (wsV RX7 75 RX7 yX7_isMissing wsX7_isMissing) := goodIn_app (goodIn_of _ (by decide +kernel)) ggX7_copy_X7_isMissing
set_option maxRecDepth 20000 in
theorem ggX7_copy_X7_found : GoodIn wsX7_copy wsX7_found := goodIn_r _ [20, 21, 22, 32, 33, 34, 35, 36, 37, 38, 39, 40, 41, 42, 43, 44, 45, 46, 47, 48, 49, 50, 51, 52, 53, 54, 55] (by decide +kernel) (by decide +kernel)
set_option maxRecDepth 20000 in
theorem gX7_copy_X7_found : GoodIn wsX7_copy (wsV RX7 68 RX7 yX7_found wsX7_found) := goodIn_app (goodIn_of _ (by decide +kernel)) ggX7_copy_X7_found
set_option maxRecDepth 20000 in
theorem ggX7_copy_X7_isPart : GoodIn wsX7_copy wsX7_isPart := goodIn_r _ [26, 27, 32, 33, 34, 35, 36, 37, 38, 39, 40, 41, 42, 43, 44, 45, 46, 47, 48, 49, 50, 51, 52, 53, 54, 55] (by decide +kernel) (by decide +kernel)
set_option maxRecDepth 20000 in
theorem gX7_copy_X7_isPart : GoodIn wsX7_copy (wsV RX7 82 RX7 yX7_isPart wsX7_isPart) := goodIn_app (goodIn_of _ (by decide +kernel)) ggX7_copy_X7_isPart
set_option maxRecDepth 20000 in
theorem ggX7_copy_X7_well : GoodIn wsX7_copy wsX7_well := goodIn_r _ [31, 21, 32, 33, 34, 35, 36, 37, 38, 39, 40, 41, 42, 43, 44, 45, 46, 47, 48, 49, 50, 51, 52, 53, 54, 55] (by decide +kernel) (by decide +kernel)
set_option maxRecDepth 20000 in
theorem gX7_copy_X7_well : GoodIn wsX7_copy (wsV RX7 72 RX7 yX7_well wsX7_well) := goodIn_app (goodIn_of _ (by decide +kernel)) ggX7_copy_X7_well
theorem dX7_copy_0 : decode cX7_copy 0 = .ok (.iload_n 1, 1) := by decide +kernel
theorem dX7_copy_1 : decode cX7_copy 1 = .ok (.invokestatic 63, 3) := by decide +kernel
theorem dX7_copy_4 : decode cX7_copy 4 = .ok (.ifCond .eq 10, 3) := by decide +kernel
theorem dX7_copy_7 : decode cX7_copy 7 = .ok (.iload_n 3, 1) := by decide +kernel
theorem dX7_copy_8 : decode cX7_copy 8 = .ok (.invokestatic 63, 3) := by decide +kernel
theorem dX7_copy_11 : decode cX7_copy 11 = .ok (.ifCond .ne 6, 3) := by decide +kernel
theorem dX7_copy_14 : decode cX7_copy 14 = .ok (.ldc 67, 2) := by decide +kernel
theorem dX7_copy_16 : decode cX7_copy 16 = .ok (.ireturn, 1) := by decide +kernel
theorem dX7_copy_17 : decode cX7_copy 17 = .ok (.aload_n 0, 1) := by decide +kernel
theorem dX7_copy_18 : decode cX7_copy 18 = .ok (.iload_n 1, 1) := by decide +kernel
theorem dX7_copy_19 : decode cX7_copy 19 = .ok (.invokevirtual 75, 3) := by decide +kernel
theorem dX7_copy_22 : decode cX7_copy 22 = .ok (.ifCond .ne 11, 3) := by decide +kernel
theorem dX7_copy_25 : decode cX7_copy 25 = .ok (.aload_n 0, 1) := by decide +kernel
theorem dX7_copy_26 : decode cX7_copy 26 = .ok (.iload_n 3, 1) := by decide +kernel
theorem dX7_copy_27 : decode cX7_copy 27 = .ok (.invokevirtual 75, 3) := by decide +kernel
theorem dX7_copy_30 : decode cX7_copy 30 = .ok (.ifCond .eq 9, 3) := by decide +kernel
theorem dX7_copy_33 : decode cX7_copy 33 = .ok (.aload_n 0, 1) := by decide +kernel
theorem dX7_copy_34 : decode cX7_copy 34 = .ok (.iconst 1, 1) := by decide +kernel
theorem dX7_copy_35 : decode cX7_copy 35 = .ok (.invokevirtual 68, 3) := by decide +kernel
theorem dX7_copy_38 : decode cX7_copy 38 = .ok (.ireturn, 1) := by decide +kernel
theorem dX7_copy_39 : decode cX7_copy 39 = .ok (.aload_n 0, 1) := by decide +kernel
theorem dX7_copy_40 : decode cX7_copy 40 = .ok (.getfield 7, 3) := by decide +kernel
theorem dX7_copy_43 : decode cX7_copy 43 = .ok (.iload_n 1, 1) := by decide +kernel
theorem dX7_copy_44 : decode cX7_copy 44 = .ok (.iaload, 1) := by decide +kernel
theorem dX7_copy_45 : decode cX7_copy 45 = .ok (.aload_n 0, 1) := by decide +kernel
theorem dX7_copy_46 : decode cX7_copy 46 = .ok (.getfield 7, 3) := by decide +kernel
theorem dX7_copy_49 : decode cX7_copy 49 = .ok (.iload_n 3, 1) := by decide +kernel
theorem dX7_copy_50 : decode cX7_copy 50 = .ok (.iaload, 1) := by decide +kernel
theorem dX7_copy_51 : decode cX7_copy 51 = .ok (.if_icmp .eq 9, 3) := by decide +kernel
theorem dX7_copy_54 : decode cX7_copy 54 = .ok (.aload_n 0, 1) := by decide +kernel
theorem dX7_copy_55 : decode cX7_copy 55 = .ok (.iconst 5, 1) := by decide +kernel
theorem dX7_copy_56 : decode cX7_copy 56 = .ok (.invokevirtual 68, 3) := by decide +kernel
theorem dX7_copy_59 : decode cX7_copy 59 = .ok (.ireturn, 1) := by decide +kernel
theorem dX7_copy_60 : decode cX7_copy 60 = .ok (.aload_n 0, 1) := by decide +kernel
theorem dX7_copy_61 : decode cX7_copy 61 = .ok (.iload_n 1, 1) := by decide +kernel
theorem dX7_copy_62 : decode cX7_copy 62 = .ok (.iload_n 2, 1) := by decide +kernel
theorem dX7_copy_63 : decode cX7_copy 63 = .ok (.iload 5, 2) := by decide +kernel
theorem dX7_copy_65 : decode cX7_copy 65 = .ok (.invokevirtual 82, 3) := by decide +kernel
theorem dX7_copy_68 : decode cX7_copy 68 = .ok (.ifCond .eq 15, 3) := by decide +kernel
theorem dX7_copy_71 : decode cX7_copy 71 = .ok (.aload_n 0, 1) := by decide +kernel
theorem dX7_copy_72 : decode cX7_copy 72 = .ok (.iload_n 3, 1) := by decide +kernel
theorem dX7_copy_73 : decode cX7_copy 73 = .ok (.iload 4, 2) := by decide +kernel
theorem dX7_copy_75 : decode cX7_copy 75 = .ok (.iload 5, 2) := by decide +kernel
theorem dX7_copy_77 : decode cX7_copy 77 = .ok (.invokevirtual 82, 3) := by decide +kernel
theorem dX7_copy_80 : decode cX7_copy 80 = .ok (.ifCond .ne 9, 3) := by decide +kernel
theorem dX7_copy_83 : decode cX7_copy 83 = .ok (.aload_n 0, 1) := by decide +kernel
theorem dX7_copy_84 : decode cX7_copy 84 = .ok (.iconst 2, 1) := by decide +kernel
theorem dX7_copy_85 : decode cX7_copy 85 = .ok (.invokevirtual 68, 3) := by decide +kernel
theorem dX7_copy_88 : decode cX7_copy 88 = .ok (.ireturn, 1) := by decide +kernel
theorem dX7_copy_89 : decode cX7_copy 89 = .ok (.iconst 0, 1) := by decide +kernel
theorem dX7_copy_90 : decode cX7_copy 90 = .ok (.istore 6, 2) := by decide +kernel
theorem dX7_copy_92 : decode cX7_copy 92 = .ok (.iload 6, 2) := by decide +kernel
theorem dX7_copy_94 : decode cX7_copy 94 = .ok (.iload 5, 2) := by decide +kernel
theorem dX7_copy_96 : decode cX7_copy 96 = .ok (.if_icmp .ge 30, 3) := by decide +kernel
theorem dX7_copy_99 : decode cX7_copy 99 = .ok (.aload_n 0, 1) := by decide +kernel
theorem dX7_copy_100 : decode cX7_copy 100 = .ok (.getfield 19, 3) := by decide +kernel
theorem dX7_copy_103 : decode cX7_copy 103 = .ok (.iload 6, 2) := by decide +kernel
theorem dX7_copy_105 : decode cX7_copy 105 = .ok (.aload_n 0, 1) := by decide +kernel
theorem dX7_copy_106 : decode cX7_copy 106 = .ok (.getfield 16, 3) := by decide +kernel
theorem dX7_copy_109 : decode cX7_copy 109 = .ok (.bipush 40, 2) := by decide +kernel
theorem dX7_copy_111 : decode cX7_copy 111 = .ok (.iload_n 1, 1) := by decide +kernel
theorem dX7_copy_112 : decode cX7_copy 112 = .ok (.imul, 1) := by decide +kernel
theorem dX7_copy_113 : decode cX7_copy 113 = .ok (.iload_n 2, 1) := by decide +kernel
theorem dX7_copy_114 : decode cX7_copy 114 = .ok (.iadd, 1) := by decide +kernel
theorem dX7_copy_115 : decode cX7_copy 115 = .ok (.iload 6, 2) := by decide +kernel
theorem dX7_copy_117 : decode cX7_copy 117 = .ok (.iadd, 1) := by decide +kernel
theorem dX7_copy_118 : decode cX7_copy 118 = .ok (.iaload, 1) := by decide +kernel
theorem dX7_copy_119 : decode cX7_copy 119 = .ok (.iastore, 1) := by decide +kernel
theorem dX7_copy_120 : decode cX7_copy 120 = .ok (.iinc 6 1, 3) := by decide +kernel
theorem dX7_copy_123 : decode cX7_copy 123 = .ok (.goto (-31), 3) := by decide +kernel
theorem dX7_copy_126 : decode cX7_copy 126 = .ok (.iconst 0, 1) := by decide +kernel
theorem dX7_copy_127 : decode cX7_copy 127 = .ok (.istore 6, 2) := by decide +kernel
theorem dX7_copy_129 : decode cX7_copy 129 = .ok (.iload 6, 2) := by decide +kernel
theorem dX7_copy_131 : decode cX7_copy 131 = .ok (.iload 5, 2) := by decide +kernel
theorem dX7_copy_133 : decode cX7_copy 133 = .ok (.if_icmp .ge 31, 3) := by decide +kernel
theorem dX7_copy_136 : decode cX7_copy 136 = .ok (.aload_n 0, 1) := by decide +kernel
theorem dX7_copy_137 : decode cX7_copy 137 = .ok (.getfield 16, 3) := by decide +kernel
theorem dX7_copy_140 : decode cX7_copy 140 = .ok (.bipush 40, 2) := by decide +kernel
theorem dX7_copy_142 : decode cX7_copy 142 = .ok (.iload_n 3, 1) := by decide +kernel
theorem dX7_copy_143 : decode cX7_copy 143 = .ok (.imul, 1) := by decide +kernel
theorem dX7_copy_144 : decode cX7_copy 144 = .ok (.iload 4, 2) := by decide +kernel
theorem dX7_copy_146 : decode cX7_copy 146 = .ok (.iadd, 1) := by decide +kernel
theorem dX7_copy_147 : decode cX7_copy 147 = .ok (.iload 6, 2) := by decide +kernel
theorem dX7_copy_149 : decode cX7_copy 149 = .ok (.iadd, 1) := by decide +kernel
theorem dX7_copy_150 : decode cX7_copy 150 = .ok (.aload_n 0, 1) := by decide +kernel
theorem dX7_copy_151 : decode cX7_copy 151 = .ok (.getfield 19, 3) := by decide +kernel
theorem dX7_copy_154 : decode cX7_copy 154 = .ok (.iload 6, 2) := by decide +kernel
theorem dX7_copy_156 : decode cX7_copy 156 = .ok (.iaload, 1) := by decide +kernel
theorem dX7_copy_157 : decode cX7_copy 157 = .ok (.iastore, 1) := by decide +kernel
theorem dX7_copy_158 : decode cX7_copy 158 = .ok (.iinc 6 1, 3) := by decide +kernel
theorem dX7_copy_161 : decode cX7_copy 161 = .ok (.goto (-32), 3) := by decide +kernel
theorem dX7_copy_164 : decode cX7_copy 164 = .ok (.aload_n 0, 1) := by decide +kernel
theorem dX7_copy_165 : decode cX7_copy 165 = .ok (.iload 5, 2) := by decide +kernel
theorem dX7_copy_167 : decode cX7_copy 167 = .ok (.invokevirtual 72, 3) := by decide +kernel
theorem dX7_copy_170 : decode cX7_copy 170 = .ok (.ireturn, 1) := by decide +kernel
set_option maxRecDepth 20000 in
theorem ggX7_drop_X7_isRow : GoodIn wsX7_drop wsX7_isRow := goodIn_r _ [8, 9, 10, 7, 11] (by decide +kernel) (by decide +kernel)
set_option maxRecDepth 20000 in
theorem gX7_drop_X7_isRow : GoodIn wsX7_drop (va_wsS RX7 63 yX7_isRow wsX7_isRow) := goodIn_app (goodIn_of _ (by decide +kernel)) ggX7_drop_X7_isRow
set_option maxRecDepth 20000 in
theorem ggX7_drop_X7_isMissing : GoodIn wsX7_drop wsX7_isMissing := goodIn_r _ [15, 2, 3, 26, 27, 28, 29, 30, 31, 32, 33, 34, 35, 36, 37, 38, 39, 40, 41, 42, 43, 44, 45, 46, 47, 48, 49] (by decide +kernel) (by decide +kernel)
set_option maxRecDepth 20000 in
theorem gX7_drop_X7_isMissing : GoodIn wsX7_drop (wsV RX7 75 RX7 yX7_isMissing wsX7_isMissing) := goodIn_app (goodIn_of _ (by decide +kernel)) ggX7_drop_X7_isMissing
set_option maxRecDepth 20000 in
theorem ggX7_drop_X7_found : GoodIn wsX7_drop wsX7_found := goodIn_r _ [19, 20, 21, 26, 27, 28, 29, 30, 31, 32, 33, 34, 35, 36, 37, 38, 39, 40, 41, 42, 43, 44, 45, 46, 47, 48, 49] (by decide +kernel) (by decide +kernel)
set_option maxRecDepth 20000 in
theorem gX7_drop_X7_found : GoodIn wsX7_drop (wsV RX7 68 RX7 yX7_found wsX7_found) := goodIn_app (goodIn_of _ (by decide +kernel)) ggX7_drop_X7_found
set_option maxRecDepth 20000 in
theorem ggX7_drop_X7_well : GoodIn wsX7_drop wsX7_well := goodIn_r _ [25, 20, 26, 27, 28, 29, 30, 31, 32, 33, 34, 35, 36, 37, 38, 39, 40, 41, 42, 43, 44, 45, 46, 47, 48, 49] (by decide +kernel) (by decide +kernel)
set_option maxRecDepth 20000 in
theorem gX7_drop_X7_well : GoodIn wsX7_drop (wsV RX7 72 RX7 yX7_well wsX7_well) := goodIn_app (goodIn_of _ (by decide +kernel)) ggX7_drop_X7_well
theorem dX7_drop_0 : decode cX7_drop 0 = .ok (.iload_n 1, 1) := by decide +kernel
theorem dX7_drop_1 : decode cX7_drop 1 = .ok (.invokestatic 63, 3) := by decide +kernel
theorem dX7_drop_4 : decode cX7_drop 4 = .ok (.ifCond .ne 6, 3) := by decide +kernel
theorem dX7_drop_7 : decode cX7_drop 7 = .ok (.ldc 67, 2) := by decide +kernel
theorem dX7_drop_9 : decode cX7_drop 9 = .ok (.ireturn, 1) := by decide +kernel
theorem dX7_drop_10 : decode cX7_drop 10 = .ok (.aload_n 0, 1) := by decide +kernel
theorem dX7_drop_11 : decode cX7_drop 11 = .ok (.iload_n 1, 1) := by decide +kernel
theorem dX7_drop_12 : decode cX7_drop 12 = .ok (.invokevirtual 75, 3) := by decide +kernel
theorem dX7_drop_15 : decode cX7_drop 15 = .ok (.ifCond .eq 9, 3) := by decide +kernel
theorem dX7_drop_18 : decode cX7_drop 18 = .ok (.aload_n 0, 1) := by decide +kernel
theorem dX7_drop_19 : decode cX7_drop 19 = .ok (.iconst 1, 1) := by decide +kernel
theorem dX7_drop_20 : decode cX7_drop 20 = .ok (.invokevirtual 68, 3) := by decide +kernel
theorem dX7_drop_23 : decode cX7_drop 23 = .ok (.ireturn, 1) := by decide +kernel
theorem dX7_drop_24 : decode cX7_drop 24 = .ok (.aload_n 0, 1) := by decide +kernel
theorem dX7_drop_25 : decode cX7_drop 25 = .ok (.getfield 7, 3) := by decide +kernel
theorem dX7_drop_28 : decode cX7_drop 28 = .ok (.iload_n 1, 1) := by decide +kernel
theorem dX7_drop_29 : decode cX7_drop 29 = .ok (.ldc 53, 2) := by decide +kernel
theorem dX7_drop_31 : decode cX7_drop 31 = .ok (.iastore, 1) := by decide +kernel
theorem dX7_drop_32 : decode cX7_drop 32 = .ok (.aload_n 0, 1) := by decide +kernel
theorem dX7_drop_33 : decode cX7_drop 33 = .ok (.aload_n 0, 1) := by decide +kernel
theorem dX7_drop_34 : decode cX7_drop 34 = .ok (.getfield 13, 3) := by decide +kernel
theorem dX7_drop_37 : decode cX7_drop 37 = .ok (.iload_n 1, 1) := by decide +kernel
theorem dX7_drop_38 : decode cX7_drop 38 = .ok (.iaload, 1) := by decide +kernel
theorem dX7_drop_39 : decode cX7_drop 39 = .ok (.invokevirtual 72, 3) := by decide +kernel
theorem dX7_drop_42 : decode cX7_drop 42 = .ok (.ireturn, 1) := by decide +kernel
set_option maxRecDepth 20000 in
theorem ggX7_feed_X7_in : GoodIn wsX7_feed wsX7_in := goodIn_r _ [8] (by decide +kernel) (by decide +kernel)
set_option maxRecDepth 20000 in
theorem gX7_feed_X7_in : GoodIn wsX7_feed (va_wsS RX7 59 yX7_in wsX7_in) := goodIn_app (goodIn_of _ (by decide +kernel)) ggX7_feed_X7_in
theorem dX7_feed_0 : decode cX7_feed 0 = .ok (.iload_n 1, 1) := by decide +kernel
theorem dX7_feed_1 : decode cX7_feed 1 = .ok (.iconst 0, 1) := by decide +kernel
theorem dX7_feed_2 : decode cX7_feed 2 = .ok (.sipush 255, 3) := by decide +kernel
theorem dX7_feed_5 : decode cX7_feed 5 = .ok (.invokestatic 59, 3) := by decide +kernel
theorem dX7_feed_8 : decode cX7_feed 8 = .ok (.ifCond .ne 6, 3) := by decide +kernel
theorem dX7_feed_11 : decode cX7_feed 11 = .ok (.ldc 67, 2) := by decide +kernel
theorem dX7_feed_13 : decode cX7_feed 13 = .ok (.ireturn, 1) := by decide +kernel
theorem dX7_feed_14 : decode cX7_feed 14 = .ok (.aload_n 0, 1) := by decide +kernel
theorem dX7_feed_15 : decode cX7_feed 15 = .ok (.getfield 85, 3) := by decide +kernel
theorem dX7_feed_18 : decode cX7_feed 18 = .ok (.bipush 110, 2) := by decide +kernel
theorem dX7_feed_20 : decode cX7_feed 20 = .ok (.if_icmp .ne 6, 3) := by decide +kernel
theorem dX7_feed_23 : decode cX7_feed 23 = .ok (.ldc 88, 2) := by decide +kernel
theorem dX7_feed_25 : decode cX7_feed 25 = .ok (.ireturn, 1) := by decide +kernel
theorem dX7_feed_26 : decode cX7_feed 26 = .ok (.aload_n 0, 1) := by decide +kernel
theorem dX7_feed_27 : decode cX7_feed 27 = .ok (.getfield 22, 3) := by decide +kernel
theorem dX7_feed_30 : decode cX7_feed 30 = .ok (.aload_n 0, 1) := by decide +kernel
theorem dX7_feed_31 : decode cX7_feed 31 = .ok (.getfield 85, 3) := by decide +kernel
theorem dX7_feed_34 : decode cX7_feed 34 = .ok (.iload_n 1, 1) := by decide +kernel
theorem dX7_feed_35 : decode cX7_feed 35 = .ok (.iastore, 1) := by decide +kernel
theorem dX7_feed_36 : decode cX7_feed 36 = .ok (.aload_n 0, 1) := by decide +kernel
theorem dX7_feed_37 : decode cX7_feed 37 = .ok (.dup, 1) := by decide +kernel
theorem dX7_feed_38 : decode cX7_feed 38 = .ok (.getfield 85, 3) := by decide +kernel
theorem dX7_feed_41 : decode cX7_feed 41 = .ok (.iconst 1, 1) := by decide +kernel
theorem dX7_feed_42 : decode cX7_feed 42 = .ok (.iadd, 1) := by decide +kernel
theorem dX7_feed_43 : decode cX7_feed 43 = .ok (.putfield 85, 3) := by decide +kernel
theorem dX7_feed_46 : decode cX7_feed 46 = .ok (.aload_n 0, 1) := by decide +kernel
theorem dX7_feed_47 : decode cX7_feed 47 = .ok (.getfield 85, 3) := by decide +kernel
theorem dX7_feed_50 : decode cX7_feed 50 = .ok (.ireturn, 1) := by decide +kernel
theorem dX7_byteAt_0 : decode cX7_byteAt 0 = .ok (.iload_n 1, 1) := by decide +kernel
theorem dX7_byteAt_1 : decode cX7_byteAt 1 = .ok (.aload_n 0, 1) := by decide +kernel
theorem dX7_byteAt_2 : decode cX7_byteAt 2 = .ok (.getfield 85, 3) := by decide +kernel
theorem dX7_byteAt_5 : decode cX7_byteAt 5 = .ok (.if_icmp .ge 12, 3) := by decide +kernel
theorem dX7_byteAt_8 : decode cX7_byteAt 8 = .ok (.aload_n 0, 1) := by decide +kernel
theorem dX7_byteAt_9 : decode cX7_byteAt 9 = .ok (.getfield 22, 3) := by decide +kernel
theorem dX7_byteAt_12 : decode cX7_byteAt 12 = .ok (.iload_n 1, 1) := by decide +kernel
theorem dX7_byteAt_13 : decode cX7_byteAt 13 = .ok (.iaload, 1) := by decide +kernel
theorem dX7_byteAt_14 : decode cX7_byteAt 14 = .ok (.goto 4, 3) := by decide +kernel
theorem dX7_byteAt_17 : decode cX7_byteAt 17 = .ok (.iconst (-1), 1) := by decide +kernel
theorem dX7_byteAt_18 : decode cX7_byteAt 18 = .ok (.ireturn, 1) := by decide +kernel
set_option maxRecDepth 20000 in
theorem ggX7_advances_X7_byteAt : GoodIn wsX7_advances wsX7_byteAt := goodIn_r _ [9, 10, 11, 15, 16, 17, 18, 19, 20, 21, 22, 23, 24, 25, 26, 27, 28, 29, 30, 31, 32, 33, 34, 35, 36, 37, 38] (by decide +kernel) (by decide +kernel)
set_option maxRecDepth 20000 in
theorem gX7_advances_X7_byteAt : GoodIn wsX7_advances (wsV RX7 95 RX7 yX7_byteAt wsX7_byteAt) := goodIn_app (goodIn_of _ (by decide +kernel)) ggX7_advances_X7_byteAt
set_option maxRecDepth 20000 in
theorem ggX7_advances_X7_in : GoodIn wsX7_advances wsX7_in := goodIn_r _ [14] (by decide +kernel) (by decide +kernel)
set_option maxRecDepth 20000 in
theorem gX7_advances_X7_in : GoodIn wsX7_advances (va_wsS RX7 59 yX7_in wsX7_in) := goodIn_app (goodIn_of _ (by decide +kernel)) ggX7_advances_X7_in
theorem dX7_advances_0 : decode cX7_advances 0 = .ok (.aload_n 0, 1) := by decide +kernel
theorem dX7_advances_1 : decode cX7_advances 1 = .ok (.aload_n 0, 1) := by decide +kernel
theorem dX7_advances_2 : decode cX7_advances 2 = .ok (.getfield 89, 3) := by decide +kernel
theorem dX7_advances_5 : decode cX7_advances 5 = .ok (.putfield 92, 3) := by decide +kernel
theorem dX7_advances_8 : decode cX7_advances 8 = .ok (.aload_n 0, 1) := by decide +kernel
theorem dX7_advances_9 : decode cX7_advances 9 = .ok (.aload_n 0, 1) := by decide +kernel
theorem dX7_advances_10 : decode cX7_advances 10 = .ok (.getfield 89, 3) := by decide +kernel
theorem dX7_advances_13 : decode cX7_advances 13 = .ok (.invokevirtual 95, 3) := by decide +kernel
theorem dX7_advances_16 : decode cX7_advances 16 = .ok (.istore_n 1, 1) := by decide +kernel
theorem dX7_advances_17 : decode cX7_advances 17 = .ok (.aload_n 0, 1) := by decide +kernel
theorem dX7_advances_18 : decode cX7_advances 18 = .ok (.iload_n 1, 1) := by decide +kernel
theorem dX7_advances_19 : decode cX7_advances 19 = .ok (.putfield 98, 3) := by decide +kernel
theorem dX7_advances_22 : decode cX7_advances 22 = .ok (.iload_n 1, 1) := by decide +kernel
theorem dX7_advances_23 : decode cX7_advances 23 = .ok (.bipush 48, 2) := by decide +kernel
theorem dX7_advances_25 : decode cX7_advances 25 = .ok (.bipush 57, 2) := by decide +kernel
theorem dX7_advances_27 : decode cX7_advances 27 = .ok (.invokestatic 59, 3) := by decide +kernel
theorem dX7_advances_30 : decode cX7_advances 30 = .ok (.ifCond .eq 105, 3) := by decide +kernel
theorem dX7_advances_33 : decode cX7_advances 33 = .ok (.aload_n 0, 1) := by decide +kernel
theorem dX7_advances_34 : decode cX7_advances 34 = .ok (.iconst 0, 1) := by decide +kernel
theorem dX7_advances_35 : decode cX7_advances 35 = .ok (.putfield 98, 3) := by decide +kernel
theorem dX7_advances_38 : decode cX7_advances 38 = .ok (.aload_n 0, 1) := by decide +kernel
theorem dX7_advances_39 : decode cX7_advances 39 = .ok (.aload_n 0, 1) := by decide +kernel
theorem dX7_advances_40 : decode cX7_advances 40 = .ok (.getfield 89, 3) := by decide +kernel
theorem dX7_advances_43 : decode cX7_advances 43 = .ok (.invokevirtual 95, 3) := by decide +kernel
theorem dX7_advances_46 : decode cX7_advances 46 = .ok (.bipush 48, 2) := by decide +kernel
theorem dX7_advances_48 : decode cX7_advances 48 = .ok (.bipush 57, 2) := by decide +kernel
theorem dX7_advances_50 : decode cX7_advances 50 = .ok (.invokestatic 59, 3) := by decide +kernel
theorem dX7_advances_53 : decode cX7_advances 53 = .ok (.ifCond .eq 59, 3) := by decide +kernel
theorem dX7_advances_56 : decode cX7_advances 56 = .ok (.aload_n 0, 1) := by decide +kernel
theorem dX7_advances_57 : decode cX7_advances 57 = .ok (.aload_n 0, 1) := by decide +kernel
theorem dX7_advances_58 : decode cX7_advances 58 = .ok (.getfield 89, 3) := by decide +kernel
theorem dX7_advances_61 : decode cX7_advances 61 = .ok (.aload_n 0, 1) := by decide +kernel
theorem dX7_advances_62 : decode cX7_advances 62 = .ok (.getfield 92, 3) := by decide +kernel
theorem dX7_advances_65 : decode cX7_advances 65 = .ok (.isub, 1) := by decide +kernel
theorem dX7_advances_66 : decode cX7_advances 66 = .ok (.iconst 2, 1) := by decide +kernel
theorem dX7_advances_67 : decode cX7_advances 67 = .ok (.if_icmp .ge 25, 3) := by decide +kernel
theorem dX7_advances_70 : decode cX7_advances 70 = .ok (.bipush 10, 2) := by decide +kernel
theorem dX7_advances_72 : decode cX7_advances 72 = .ok (.aload_n 0, 1) := by decide +kernel
theorem dX7_advances_73 : decode cX7_advances 73 = .ok (.getfield 98, 3) := by decide +kernel
theorem dX7_advances_76 : decode cX7_advances 76 = .ok (.imul, 1) := by decide +kernel
theorem dX7_advances_77 : decode cX7_advances 77 = .ok (.aload_n 0, 1) := by decide +kernel
theorem dX7_advances_78 : decode cX7_advances 78 = .ok (.aload_n 0, 1) := by decide +kernel
theorem dX7_advances_79 : decode cX7_advances 79 = .ok (.getfield 89, 3) := by decide +kernel
theorem dX7_advances_82 : decode cX7_advances 82 = .ok (.invokevirtual 95, 3) := by decide +kernel
theorem dX7_advances_85 : decode cX7_advances 85 = .ok (.iadd, 1) := by decide +kernel
theorem dX7_advances_86 : decode cX7_advances 86 = .ok (.bipush 48, 2) := by decide +kernel
theorem dX7_advances_88 : decode cX7_advances 88 = .ok (.isub, 1) := by decide +kernel
theorem dX7_advances_89 : decode cX7_advances 89 = .ok (.goto 7, 3) := by decide +kernel
theorem dX7_advances_92 : decode cX7_advances 92 = .ok (.aload_n 0, 1) := by decide +kernel
theorem dX7_advances_93 : decode cX7_advances 93 = .ok (.getfield 98, 3) := by decide +kernel
theorem dX7_advances_96 : decode cX7_advances 96 = .ok (.putfield 98, 3) := by decide +kernel
theorem dX7_advances_99 : decode cX7_advances 99 = .ok (.aload_n 0, 1) := by decide +kernel
theorem dX7_advances_100 : decode cX7_advances 100 = .ok (.dup, 1) := by decide +kernel
theorem dX7_advances_101 : decode cX7_advances 101 = .ok (.getfield 89, 3) := by decide +kernel
theorem dX7_advances_104 : decode cX7_advances 104 = .ok (.iconst 1, 1) := by decide +kernel
theorem dX7_advances_105 : decode cX7_advances 105 = .ok (.iadd, 1) := by decide +kernel
theorem dX7_advances_106 : decode cX7_advances 106 = .ok (.putfield 89, 3) := by decide +kernel
theorem dX7_advances_109 : decode cX7_advances 109 = .ok (.goto (-71), 3) := by decide +kernel
theorem dX7_advances_112 : decode cX7_advances 112 = .ok (.aload_n 0, 1) := by decide +kernel
theorem dX7_advances_113 : decode cX7_advances 113 = .ok (.aload_n 0, 1) := by decide +kernel
theorem dX7_advances_114 : decode cX7_advances 114 = .ok (.getfield 89, 3) := by decide +kernel
theorem dX7_advances_117 : decode cX7_advances 117 = .ok (.aload_n 0, 1) := by decide +kernel
theorem dX7_advances_118 : decode cX7_advances 118 = .ok (.getfield 92, 3) := by decide +kernel
theorem dX7_advances_121 : decode cX7_advances 121 = .ok (.isub, 1) := by decide +kernel
theorem dX7_advances_122 : decode cX7_advances 122 = .ok (.iconst 3, 1) := by decide +kernel
theorem dX7_advances_123 : decode cX7_advances 123 = .ok (.if_icmp .ge 7, 3) := by decide +kernel
theorem dX7_advances_126 : decode cX7_advances 126 = .ok (.iconst 2, 1) := by decide +kernel
theorem dX7_advances_127 : decode cX7_advances 127 = .ok (.goto 4, 3) := by decide +kernel
theorem dX7_advances_130 : decode cX7_advances 130 = .ok (.iconst 5, 1) := by decide +kernel
theorem dX7_advances_131 : decode cX7_advances 131 = .ok (.putfield 101, 3) := by decide +kernel
theorem dX7_advances_134 : decode cX7_advances 134 = .ok (.return_, 1) := by decide +kernel
theorem dX7_advances_135 : decode cX7_advances 135 = .ok (.aload_n 0, 1) := by decide +kernel
theorem dX7_advances_136 : decode cX7_advances 136 = .ok (.iload_n 1, 1) := by decide +kernel
theorem dX7_advances_137 : decode cX7_advances 137 = .ok (.ifCond .ge 7, 3) := by decide +kernel
theorem dX7_advances_140 : decode cX7_advances 140 = .ok (.iconst 0, 1) := by decide +kernel
theorem dX7_advances_141 : decode cX7_advances 141 = .ok (.goto 39, 3) := by decide +kernel
theorem dX7_advances_144 : decode cX7_advances 144 = .ok (.iload_n 1, 1) := by decide +kernel
theorem dX7_advances_145 : decode cX7_advances 145 = .ok (.bipush 97, 2) := by decide +kernel
theorem dX7_advances_147 : decode cX7_advances 147 = .ok (.bipush 122, 2) := by decide +kernel
theorem dX7_advances_149 : decode cX7_advances 149 = .ok (.invokestatic 59, 3) := by decide +kernel
theorem dX7_advances_152 : decode cX7_advances 152 = .ok (.ifCond .eq 7, 3) := by decide +kernel
theorem dX7_advances_155 : decode cX7_advances 155 = .ok (.iconst 1, 1) := by decide +kernel
theorem dX7_advances_156 : decode cX7_advances 156 = .ok (.goto 24, 3) := by decide +kernel
theorem dX7_advances_159 : decode cX7_advances 159 = .ok (.iload_n 1, 1) := by decide +kernel
theorem dX7_advances_160 : decode cX7_advances 160 = .ok (.bipush 44, 2) := by decide +kernel
theorem dX7_advances_162 : decode cX7_advances 162 = .ok (.if_icmp .ne 7, 3) := by decide +kernel
theorem dX7_advances_165 : decode cX7_advances 165 = .ok (.iconst 3, 1) := by decide +kernel
theorem dX7_advances_166 : decode cX7_advances 166 = .ok (.goto 14, 3) := by decide +kernel
theorem dX7_advances_169 : decode cX7_advances 169 = .ok (.iload_n 1, 1) := by decide +kernel
theorem dX7_advances_170 : decode cX7_advances 170 = .ok (.bipush 59, 2) := by decide +kernel
theorem dX7_advances_172 : decode cX7_advances 172 = .ok (.if_icmp .ne 7, 3) := by decide +kernel
theorem dX7_advances_175 : decode cX7_advances 175 = .ok (.iconst 4, 1) := by decide +kernel
theorem dX7_advances_176 : decode cX7_advances 176 = .ok (.goto 4, 3) := by decide +kernel
theorem dX7_advances_179 : decode cX7_advances 179 = .ok (.iconst 5, 1) := by decide +kernel
theorem dX7_advances_180 : decode cX7_advances 180 = .ok (.putfield 101, 3) := by decide +kernel
theorem dX7_advances_183 : decode cX7_advances 183 = .ok (.aload_n 0, 1) := by decide +kernel
theorem dX7_advances_184 : decode cX7_advances 184 = .ok (.dup, 1) := by decide +kernel
theorem dX7_advances_185 : decode cX7_advances 185 = .ok (.getfield 89, 3) := by decide +kernel
theorem dX7_advances_188 : decode cX7_advances 188 = .ok (.aload_n 0, 1) := by decide +kernel
theorem dX7_advances_189 : decode cX7_advances 189 = .ok (.getfield 101, 3) := by decide +kernel
theorem dX7_advances_192 : decode cX7_advances 192 = .ok (.ifCond .ne 7, 3) := by decide +kernel
theorem dX7_advances_195 : decode cX7_advances 195 = .ok (.iconst 0, 1) := by decide +kernel
theorem dX7_advances_196 : decode cX7_advances 196 = .ok (.goto 4, 3) := by decide +kernel
theorem dX7_advances_199 : decode cX7_advances 199 = .ok (.iconst 1, 1) := by decide +kernel
theorem dX7_advances_200 : decode cX7_advances 200 = .ok (.iadd, 1) := by decide +kernel
theorem dX7_advances_201 : decode cX7_advances 201 = .ok (.putfield 89, 3) := by decide +kernel
theorem dX7_advances_204 : decode cX7_advances 204 = .ok (.return_, 1) := by decide +kernel
theorem dX7_isWell_0 : decode cX7_isWell 0 = .ok (.aload_n 0, 1) := by decide +kernel
theorem dX7_isWell_1 : decode cX7_isWell 1 = .ok (.getfield 104, 3) := by decide +kernel
theorem dX7_isWell_4 : decode cX7_isWell 4 = .ok (.ifCond .ge 7, 3) := by decide +kernel
theorem dX7_isWell_7 : decode cX7_isWell 7 = .ok (.iconst 1, 1) := by decide +kernel
theorem dX7_isWell_8 : decode cX7_isWell 8 = .ok (.goto 4, 3) := by decide +kernel
theorem dX7_isWell_11 : decode cX7_isWell 11 = .ok (.iconst 0, 1) := by decide +kernel
theorem dX7_isWell_12 : decode cX7_isWell 12 = .ok (.ireturn, 1) := by decide +kernel
set_option maxRecDepth 20000 in
theorem ggX7_takes_X7_isWell : GoodIn wsX7_takes wsX7_isWell := goodIn_r _ [9, 2, 25, 26, 27, 28, 29, 30, 31, 32, 33, 34, 35, 36, 37, 38, 39, 40, 41, 42, 43, 44, 45, 46, 47, 48] (by decide +kernel) (by decide +kernel)
set_option maxRecDepth 20000 in
theorem gX7_takes_X7_isWell : GoodIn wsX7_takes (wsV RX7 107 RX7 yX7_isWell wsX7_isWell) := goodIn_app (goodIn_of _ (by decide +kernel)) ggX7_takes_X7_isWell
set_option maxRecDepth 20000 in
theorem ggX7_takes_X7_advances : GoodIn wsX7_takes wsX7_advances := goodIn_r _ [13, 14, 1, 4, 15, 16, 17, 18, 8, 19, 20, 21, 22, 23, 24, 25, 26, 27, 28, 29, 30, 31, 32, 33, 34, 35, 36, 37, 38, 39, 40, 41, 42, 43, 44, 45, 46, 47, 48] (by decide +kernel) (by decide +kernel)
set_option maxRecDepth 20000 in
theorem gX7_takes_X7_advances : GoodIn wsX7_takes (wsV RX7 114 RX7 yX7_advances wsX7_advances) := goodIn_app (goodIn_of _ (by decide +kernel)) ggX7_takes_X7_advances
theorem dX7_takes_0 : decode cX7_takes 0 = .ok (.aload_n 0, 1) := by decide +kernel
theorem dX7_takes_1 : decode cX7_takes 1 = .ok (.invokevirtual 107, 3) := by decide +kernel
theorem dX7_takes_4 : decode cX7_takes 4 = .ok (.ifCond .ne 5, 3) := by decide +kernel
theorem dX7_takes_7 : decode cX7_takes 7 = .ok (.iconst 0, 1) := by decide +kernel
theorem dX7_takes_8 : decode cX7_takes 8 = .ok (.ireturn, 1) := by decide +kernel
theorem dX7_takes_9 : decode cX7_takes 9 = .ok (.iload_n 1, 1) := by decide +kernel
theorem dX7_takes_10 : decode cX7_takes 10 = .ok (.ifCond .ne 18, 3) := by decide +kernel
theorem dX7_takes_13 : decode cX7_takes 13 = .ok (.aload_n 0, 1) := by decide +kernel
theorem dX7_takes_14 : decode cX7_takes 14 = .ok (.aload_n 0, 1) := by decide +kernel
theorem dX7_takes_15 : decode cX7_takes 15 = .ok (.getfield 92, 3) := by decide +kernel
theorem dX7_takes_18 : decode cX7_takes 18 = .ok (.putfield 104, 3) := by decide +kernel
theorem dX7_takes_21 : decode cX7_takes 21 = .ok (.aload_n 0, 1) := by decide +kernel
theorem dX7_takes_22 : decode cX7_takes 22 = .ok (.iload_n 2, 1) := by decide +kernel
theorem dX7_takes_23 : decode cX7_takes 23 = .ok (.putfield 111, 3) := by decide +kernel
theorem dX7_takes_26 : decode cX7_takes 26 = .ok (.iconst 0, 1) := by decide +kernel
theorem dX7_takes_27 : decode cX7_takes 27 = .ok (.ireturn, 1) := by decide +kernel
theorem dX7_takes_28 : decode cX7_takes 28 = .ok (.aload_n 0, 1) := by decide +kernel
theorem dX7_takes_29 : decode cX7_takes 29 = .ok (.getfield 98, 3) := by decide +kernel
theorem dX7_takes_32 : decode cX7_takes 32 = .ok (.istore_n 3, 1) := by decide +kernel
theorem dX7_takes_33 : decode cX7_takes 33 = .ok (.aload_n 0, 1) := by decide +kernel
theorem dX7_takes_34 : decode cX7_takes 34 = .ok (.invokevirtual 114, 3) := by decide +kernel
theorem dX7_takes_37 : decode cX7_takes 37 = .ok (.iload_n 3, 1) := by decide +kernel
theorem dX7_takes_38 : decode cX7_takes 38 = .ok (.ireturn, 1) := by decide +kernel
set_option maxRecDepth 20000 in
theorem ggX7_figure_X7_isWell : GoodIn wsX7_figure wsX7_isWell := goodIn_r _ [7, 8, 29, 30, 31, 32, 33, 34, 35, 36, 37, 38, 39, 40, 41, 42, 43, 44, 45, 46, 47, 48, 49, 50, 51, 52] (by decide +kernel) (by decide +kernel)
set_option maxRecDepth 20000 in
theorem gX7_figure_X7_isWell : GoodIn wsX7_figure (wsV RX7 107 RX7 yX7_isWell wsX7_isWell) := goodIn_app (goodIn_of _ (by decide +kernel)) ggX7_figure_X7_isWell
set_option maxRecDepth 20000 in
theorem ggX7_figure_X7_takes : GoodIn wsX7_figure wsX7_takes := goodIn_r _ [12, 13, 8, 14, 2, 3, 4, 5, 6, 7, 15, 16, 17, 18, 19, 1, 20, 21, 22, 23, 24, 25, 26, 27, 28, 29, 30, 31, 32, 33, 34, 35, 36, 37, 38, 39, 40, 41, 42, 43, 44, 45, 46, 47, 48, 49, 50, 51, 52] (by decide +kernel) (by decide +kernel)
set_option maxRecDepth 20000 in
theorem gX7_figure_X7_takes : GoodIn wsX7_figure (wsV RX7 117 RX7 yX7_takes wsX7_takes) := goodIn_app (goodIn_of _ (by decide +kernel)) ggX7_figure_X7_takes
set_option maxRecDepth 20000 in
theorem ggX7_figure_X7_in : GoodIn wsX7_figure wsX7_in := goodIn_r _ [28] (by decide +kernel) (by decide +kernel)
set_option maxRecDepth 20000 in
theorem gX7_figure_X7_in : GoodIn wsX7_figure (va_wsS RX7 59 yX7_in wsX7_in) := goodIn_app (goodIn_of _ (by decide +kernel)) ggX7_figure_X7_in
theorem dX7_figure_0 : decode cX7_figure 0 = .ok (.aload_n 0, 1) := by decide +kernel
theorem dX7_figure_1 : decode cX7_figure 1 = .ok (.invokevirtual 107, 3) := by decide +kernel
theorem dX7_figure_4 : decode cX7_figure 4 = .ok (.ifCond .eq 18, 3) := by decide +kernel
theorem dX7_figure_7 : decode cX7_figure 7 = .ok (.aload_n 0, 1) := by decide +kernel
theorem dX7_figure_8 : decode cX7_figure 8 = .ok (.getfield 101, 3) := by decide +kernel
theorem dX7_figure_11 : decode cX7_figure 11 = .ok (.iconst 2, 1) := by decide +kernel
theorem dX7_figure_12 : decode cX7_figure 12 = .ok (.if_icmp .eq 10, 3) := by decide +kernel
theorem dX7_figure_15 : decode cX7_figure 15 = .ok (.aload_n 0, 1) := by decide +kernel
theorem dX7_figure_16 : decode cX7_figure 16 = .ok (.iconst 0, 1) := by decide +kernel
theorem dX7_figure_17 : decode cX7_figure 17 = .ok (.iconst 1, 1) := by decide +kernel
theorem dX7_figure_18 : decode cX7_figure 18 = .ok (.invokevirtual 117, 3) := by decide +kernel
theorem dX7_figure_21 : decode cX7_figure 21 = .ok (.ireturn, 1) := by decide +kernel
theorem dX7_figure_22 : decode cX7_figure 22 = .ok (.aload_n 0, 1) := by decide +kernel
theorem dX7_figure_23 : decode cX7_figure 23 = .ok (.aload_n 0, 1) := by decide +kernel
theorem dX7_figure_24 : decode cX7_figure 24 = .ok (.getfield 98, 3) := by decide +kernel
theorem dX7_figure_27 : decode cX7_figure 27 = .ok (.iload_n 1, 1) := by decide +kernel
theorem dX7_figure_28 : decode cX7_figure 28 = .ok (.iload_n 2, 1) := by decide +kernel
theorem dX7_figure_29 : decode cX7_figure 29 = .ok (.invokestatic 59, 3) := by decide +kernel
theorem dX7_figure_32 : decode cX7_figure 32 = .ok (.iconst 2, 1) := by decide +kernel
theorem dX7_figure_33 : decode cX7_figure 33 = .ok (.invokevirtual 117, 3) := by decide +kernel
theorem dX7_figure_36 : decode cX7_figure 36 = .ok (.ireturn, 1) := by decide +kernel
theorem dX7_kindOf_0 : decode cX7_kindOf 0 = .ok (.iload_n 0, 1) := by decide +kernel
theorem dX7_kindOf_1 : decode cX7_kindOf 1 = .ok (.bipush 97, 2) := by decide +kernel
theorem dX7_kindOf_3 : decode cX7_kindOf 3 = .ok (.if_icmp .ne 7, 3) := by decide +kernel
theorem dX7_kindOf_6 : decode cX7_kindOf 6 = .ok (.iconst 1, 1) := by decide +kernel
theorem dX7_kindOf_7 : decode cX7_kindOf 7 = .ok (.goto 44, 3) := by decide +kernel
theorem dX7_kindOf_10 : decode cX7_kindOf 10 = .ok (.iload_n 0, 1) := by decide +kernel
theorem dX7_kindOf_11 : decode cX7_kindOf 11 = .ok (.bipush 114, 2) := by decide +kernel
theorem dX7_kindOf_13 : decode cX7_kindOf 13 = .ok (.if_icmp .ne 7, 3) := by decide +kernel
theorem dX7_kindOf_16 : decode cX7_kindOf 16 = .ok (.iconst 2, 1) := by decide +kernel
theorem dX7_kindOf_17 : decode cX7_kindOf 17 = .ok (.goto 34, 3) := by decide +kernel
theorem dX7_kindOf_20 : decode cX7_kindOf 20 = .ok (.iload_n 0, 1) := by decide +kernel
theorem dX7_kindOf_21 : decode cX7_kindOf 21 = .ok (.bipush 99, 2) := by decide +kernel
theorem dX7_kindOf_23 : decode cX7_kindOf 23 = .ok (.if_icmp .ne 7, 3) := by decide +kernel
theorem dX7_kindOf_26 : decode cX7_kindOf 26 = .ok (.iconst 3, 1) := by decide +kernel
theorem dX7_kindOf_27 : decode cX7_kindOf 27 = .ok (.goto 24, 3) := by decide +kernel
theorem dX7_kindOf_30 : decode cX7_kindOf 30 = .ok (.iload_n 0, 1) := by decide +kernel
theorem dX7_kindOf_31 : decode cX7_kindOf 31 = .ok (.bipush 109, 2) := by decide +kernel
theorem dX7_kindOf_33 : decode cX7_kindOf 33 = .ok (.if_icmp .ne 7, 3) := by decide +kernel
theorem dX7_kindOf_36 : decode cX7_kindOf 36 = .ok (.iconst 4, 1) := by decide +kernel
theorem dX7_kindOf_37 : decode cX7_kindOf 37 = .ok (.goto 14, 3) := by decide +kernel
theorem dX7_kindOf_40 : decode cX7_kindOf 40 = .ok (.iload_n 0, 1) := by decide +kernel
theorem dX7_kindOf_41 : decode cX7_kindOf 41 = .ok (.bipush 111, 2) := by decide +kernel
theorem dX7_kindOf_43 : decode cX7_kindOf 43 = .ok (.if_icmp .ne 7, 3) := by decide +kernel
theorem dX7_kindOf_46 : decode cX7_kindOf 46 = .ok (.iconst 5, 1) := by decide +kernel
theorem dX7_kindOf_47 : decode cX7_kindOf 47 = .ok (.goto 4, 3) := by decide +kernel
theorem dX7_kindOf_50 : decode cX7_kindOf 50 = .ok (.iconst 0, 1) := by decide +kernel
theorem dX7_kindOf_51 : decode cX7_kindOf 51 = .ok (.ireturn, 1) := by decide +kernel
set_option maxRecDepth 20000 in
theorem ggX7_follows_X7_takes : GoodIn wsX7_follows wsX7_takes := goodIn_r _ [6, 7, 8, 9, 10, 11, 12, 13, 5, 14, 15, 16, 17, 18, 19, 1, 20, 21, 22, 23, 24, 25, 26, 27, 28, 33, 34, 35, 36, 37, 38, 39, 40, 41, 42, 43, 44, 45, 46, 47, 48, 49, 50, 51, 52, 53, 54, 55, 56] (by decide +kernel) (by decide +kernel)
set_option maxRecDepth 20000 in
theorem gX7_follows_X7_takes : GoodIn wsX7_follows (wsV RX7 117 RX7 yX7_takes wsX7_takes) := goodIn_app (goodIn_of _ (by decide +kernel)) ggX7_follows_X7_takes
set_option maxRecDepth 20000 in
theorem ggX7_follows_X7_figure : GoodIn wsX7_follows wsX7_figure := goodIn_r _ [32, 1, 10, 11, 12, 13, 5, 14, 8, 2, 3, 4, 6, 7, 9, 15, 16, 17, 18, 19, 20, 21, 22, 23, 24, 25, 26, 27, 28, 33, 34, 35, 36, 37, 38, 39, 40, 41, 42, 43, 44, 45, 46, 47, 48, 49, 50, 51, 52, 53, 54, 55, 56] (by decide +kernel) (by decide +kernel)
set_option maxRecDepth 20000 in
theorem gX7_follows_X7_figure : GoodIn wsX7_follows (wsV RX7 121 RX7 yX7_figure wsX7_figure) := goodIn_app (goodIn_of _ (by decide +kernel)) ggX7_follows_X7_figure
theorem dX7_follows_0 : decode cX7_follows 0 = .ok (.aload_n 0, 1) := by decide +kernel
theorem dX7_follows_1 : decode cX7_follows 1 = .ok (.aload_n 0, 1) := by decide +kernel
theorem dX7_follows_2 : decode cX7_follows 2 = .ok (.getfield 101, 3) := by decide +kernel
theorem dX7_follows_5 : decode cX7_follows 5 = .ok (.iconst 3, 1) := by decide +kernel
theorem dX7_follows_6 : decode cX7_follows 6 = .ok (.if_icmp .ne 7, 3) := by decide +kernel
theorem dX7_follows_9 : decode cX7_follows 9 = .ok (.iconst 1, 1) := by decide +kernel
theorem dX7_follows_10 : decode cX7_follows 10 = .ok (.goto 4, 3) := by decide +kernel
theorem dX7_follows_13 : decode cX7_follows 13 = .ok (.iconst 0, 1) := by decide +kernel
theorem dX7_follows_14 : decode cX7_follows 14 = .ok (.iconst 1, 1) := by decide +kernel
theorem dX7_follows_15 : decode cX7_follows 15 = .ok (.invokevirtual 117, 3) := by decide +kernel
theorem dX7_follows_18 : decode cX7_follows 18 = .ok (.pop, 1) := by decide +kernel
theorem dX7_follows_19 : decode cX7_follows 19 = .ok (.aload_n 0, 1) := by decide +kernel
theorem dX7_follows_20 : decode cX7_follows 20 = .ok (.iload_n 1, 1) := by decide +kernel
theorem dX7_follows_21 : decode cX7_follows 21 = .ok (.iload_n 2, 1) := by decide +kernel
theorem dX7_follows_22 : decode cX7_follows 22 = .ok (.invokevirtual 121, 3) := by decide +kernel
theorem dX7_follows_25 : decode cX7_follows 25 = .ok (.ireturn, 1) := by decide +kernel
set_option maxRecDepth 20000 in
theorem ggX7_readsGuest_X7_kindOf : GoodIn wsX7_readsGuest wsX7_kindOf := goodIn_r _ [7] (by decide +kernel) (by decide +kernel)
set_option maxRecDepth 20000 in
theorem gX7_readsGuest_X7_kindOf : GoodIn wsX7_readsGuest (va_wsS RX7 124 yX7_kindOf wsX7_kindOf) := goodIn_app (goodIn_of _ (by decide +kernel)) ggX7_readsGuest_X7_kindOf
set_option maxRecDepth 20000 in
theorem ggX7_readsGuest_X7_takes : GoodIn wsX7_readsGuest wsX7_takes := goodIn_r _ [11, 12, 13, 14, 1, 15, 16, 17, 6, 18, 19, 20, 21, 22, 23, 3, 24, 25, 26, 27, 28, 29, 30, 31, 32, 41, 42, 43, 44, 45, 46, 47, 48, 49, 50, 51, 52, 53, 54, 55, 56, 57, 58, 59, 60, 61, 62, 63, 64] (by decide +kernel) (by decide +kernel)
set_option maxRecDepth 20000 in
theorem gX7_readsGuest_X7_takes : GoodIn wsX7_readsGuest (wsV RX7 117 RX7 yX7_takes wsX7_takes) := goodIn_app (goodIn_of _ (by decide +kernel)) ggX7_readsGuest_X7_takes
set_option maxRecDepth 20000 in
theorem ggX7_readsGuest_X7_figure : GoodIn wsX7_readsGuest wsX7_figure := goodIn_r _ [36, 3, 1, 15, 16, 17, 6, 18, 13, 8, 9, 10, 11, 12, 14, 19, 20, 21, 22, 23, 24, 25, 26, 27, 28, 29, 30, 31, 32, 41, 42, 43, 44, 45, 46, 47, 48, 49, 50, 51, 52, 53, 54, 55, 56, 57, 58, 59, 60, 61, 62, 63, 64] (by decide +kernel) (by decide +kernel)
set_option maxRecDepth 20000 in
theorem gX7_readsGuest_X7_figure : GoodIn wsX7_readsGuest (wsV RX7 121 RX7 yX7_figure wsX7_figure) := goodIn_app (goodIn_of _ (by decide +kernel)) ggX7_readsGuest_X7_figure
set_option maxRecDepth 20000 in
theorem ggX7_readsGuest_X7_follows : GoodIn wsX7_readsGuest wsX7_follows := goodIn_r _ [40, 3, 8, 9, 10, 6, 11, 12, 13, 14, 1, 15, 16, 17, 18, 19, 20, 21, 22, 23, 24, 25, 26, 27, 28, 29, 30, 31, 32, 33, 34, 35, 36, 41, 42, 43, 44, 45, 46, 47, 48, 49, 50, 51, 52, 53, 54, 55, 56, 57, 58, 59, 60, 61, 62, 63, 64] (by decide +kernel) (by decide +kernel)
set_option maxRecDepth 20000 in
theorem gX7_readsGuest_X7_follows : GoodIn wsX7_readsGuest (wsV RX7 127 RX7 yX7_follows wsX7_follows) := goodIn_app (goodIn_of _ (by decide +kernel)) ggX7_readsGuest_X7_follows
set_option maxRecDepth 20000 in
theorem ggX7_readsGuest_X7_isWell : GoodIn wsX7_readsGuest wsX7_isWell := goodIn_r _ [18, 13, 41, 42, 43, 44, 45, 46, 47, 48, 49, 50, 51, 52, 53, 54, 55, 56, 57, 58, 59, 60, 61, 62, 63, 64] (by decide +kernel) (by decide +kernel)
set_option maxRecDepth 20000 in
theorem gX7_readsGuest_X7_isWell : GoodIn wsX7_readsGuest (wsV RX7 107 RX7 yX7_isWell wsX7_isWell) := goodIn_app (goodIn_of _ (by decide +kernel)) ggX7_readsGuest_X7_isWell
theorem dX7_readsGuest_0 : decode cX7_readsGuest 0 = .ok (.aload_n 0, 1) := by decide +kernel
theorem dX7_readsGuest_1 : decode cX7_readsGuest 1 = .ok (.getfield 98, 3) := by decide +kernel
theorem dX7_readsGuest_4 : decode cX7_readsGuest 4 = .ok (.invokestatic 124, 3) := by decide +kernel
theorem dX7_readsGuest_7 : decode cX7_readsGuest 7 = .ok (.istore_n 1, 1) := by decide +kernel
theorem dX7_readsGuest_8 : decode cX7_readsGuest 8 = .ok (.aload_n 0, 1) := by decide +kernel
theorem dX7_readsGuest_9 : decode cX7_readsGuest 9 = .ok (.aload_n 0, 1) := by decide +kernel
theorem dX7_readsGuest_10 : decode cX7_readsGuest 10 = .ok (.getfield 28, 3) := by decide +kernel
theorem dX7_readsGuest_13 : decode cX7_readsGuest 13 = .ok (.iconst 2, 1) := by decide +kernel
theorem dX7_readsGuest_14 : decode cX7_readsGuest 14 = .ok (.iaload, 1) := by decide +kernel
theorem dX7_readsGuest_15 : decode cX7_readsGuest 15 = .ok (.bipush 7, 2) := by decide +kernel
theorem dX7_readsGuest_17 : decode cX7_readsGuest 17 = .ok (.if_icmp .ge 7, 3) := by decide +kernel
theorem dX7_readsGuest_20 : decode cX7_readsGuest 20 = .ok (.iconst 1, 1) := by decide +kernel
theorem dX7_readsGuest_21 : decode cX7_readsGuest 21 = .ok (.goto 4, 3) := by decide +kernel
theorem dX7_readsGuest_24 : decode cX7_readsGuest 24 = .ok (.iconst 0, 1) := by decide +kernel
theorem dX7_readsGuest_25 : decode cX7_readsGuest 25 = .ok (.iconst 3, 1) := by decide +kernel
theorem dX7_readsGuest_26 : decode cX7_readsGuest 26 = .ok (.invokevirtual 117, 3) := by decide +kernel
theorem dX7_readsGuest_29 : decode cX7_readsGuest 29 = .ok (.pop, 1) := by decide +kernel
theorem dX7_readsGuest_30 : decode cX7_readsGuest 30 = .ok (.bipush 6, 2) := by decide +kernel
theorem dX7_readsGuest_32 : decode cX7_readsGuest 32 = .ok (.bipush 7, 2) := by decide +kernel
theorem dX7_readsGuest_34 : decode cX7_readsGuest 34 = .ok (.aload_n 0, 1) := by decide +kernel
theorem dX7_readsGuest_35 : decode cX7_readsGuest 35 = .ok (.getfield 28, 3) := by decide +kernel
theorem dX7_readsGuest_38 : decode cX7_readsGuest 38 = .ok (.iconst 2, 1) := by decide +kernel
theorem dX7_readsGuest_39 : decode cX7_readsGuest 39 = .ok (.iaload, 1) := by decide +kernel
theorem dX7_readsGuest_40 : decode cX7_readsGuest 40 = .ok (.bipush 7, 2) := by decide +kernel
theorem dX7_readsGuest_42 : decode cX7_readsGuest 42 = .ok (.if_icmp .ge 12, 3) := by decide +kernel
theorem dX7_readsGuest_45 : decode cX7_readsGuest 45 = .ok (.aload_n 0, 1) := by decide +kernel
theorem dX7_readsGuest_46 : decode cX7_readsGuest 46 = .ok (.getfield 28, 3) := by decide +kernel
theorem dX7_readsGuest_49 : decode cX7_readsGuest 49 = .ok (.iconst 2, 1) := by decide +kernel
theorem dX7_readsGuest_50 : decode cX7_readsGuest 50 = .ok (.iaload, 1) := by decide +kernel
theorem dX7_readsGuest_51 : decode cX7_readsGuest 51 = .ok (.goto 4, 3) := by decide +kernel
theorem dX7_readsGuest_54 : decode cX7_readsGuest 54 = .ok (.iconst 0, 1) := by decide +kernel
theorem dX7_readsGuest_55 : decode cX7_readsGuest 55 = .ok (.imul, 1) := by decide +kernel
theorem dX7_readsGuest_56 : decode cX7_readsGuest 56 = .ok (.iadd, 1) := by decide +kernel
theorem dX7_readsGuest_57 : decode cX7_readsGuest 57 = .ok (.istore_n 2, 1) := by decide +kernel
theorem dX7_readsGuest_58 : decode cX7_readsGuest 58 = .ok (.aload_n 0, 1) := by decide +kernel
theorem dX7_readsGuest_59 : decode cX7_readsGuest 59 = .ok (.iconst 0, 1) := by decide +kernel
theorem dX7_readsGuest_60 : decode cX7_readsGuest 60 = .ok (.bipush 9, 2) := by decide +kernel
theorem dX7_readsGuest_62 : decode cX7_readsGuest 62 = .ok (.invokevirtual 121, 3) := by decide +kernel
theorem dX7_readsGuest_65 : decode cX7_readsGuest 65 = .ok (.istore_n 3, 1) := by decide +kernel
theorem dX7_readsGuest_66 : decode cX7_readsGuest 66 = .ok (.aload_n 0, 1) := by decide +kernel
theorem dX7_readsGuest_67 : decode cX7_readsGuest 67 = .ok (.iconst 0, 1) := by decide +kernel
theorem dX7_readsGuest_68 : decode cX7_readsGuest 68 = .ok (.bipush 99, 2) := by decide +kernel
theorem dX7_readsGuest_70 : decode cX7_readsGuest 70 = .ok (.invokevirtual 127, 3) := by decide +kernel
theorem dX7_readsGuest_73 : decode cX7_readsGuest 73 = .ok (.istore 4, 2) := by decide +kernel
theorem dX7_readsGuest_75 : decode cX7_readsGuest 75 = .ok (.aload_n 0, 1) := by decide +kernel
theorem dX7_readsGuest_76 : decode cX7_readsGuest 76 = .ok (.iconst 0, 1) := by decide +kernel
theorem dX7_readsGuest_77 : decode cX7_readsGuest 77 = .ok (.bipush 9, 2) := by decide +kernel
theorem dX7_readsGuest_79 : decode cX7_readsGuest 79 = .ok (.invokevirtual 127, 3) := by decide +kernel
theorem dX7_readsGuest_82 : decode cX7_readsGuest 82 = .ok (.istore 5, 2) := by decide +kernel
theorem dX7_readsGuest_84 : decode cX7_readsGuest 84 = .ok (.aload_n 0, 1) := by decide +kernel
theorem dX7_readsGuest_85 : decode cX7_readsGuest 85 = .ok (.aload_n 0, 1) := by decide +kernel
theorem dX7_readsGuest_86 : decode cX7_readsGuest 86 = .ok (.getfield 101, 3) := by decide +kernel
theorem dX7_readsGuest_89 : decode cX7_readsGuest 89 = .ok (.iconst 4, 1) := by decide +kernel
theorem dX7_readsGuest_90 : decode cX7_readsGuest 90 = .ok (.if_icmp .ne 7, 3) := by decide +kernel
theorem dX7_readsGuest_93 : decode cX7_readsGuest 93 = .ok (.iconst 1, 1) := by decide +kernel
theorem dX7_readsGuest_94 : decode cX7_readsGuest 94 = .ok (.goto 4, 3) := by decide +kernel
theorem dX7_readsGuest_97 : decode cX7_readsGuest 97 = .ok (.iconst 0, 1) := by decide +kernel
theorem dX7_readsGuest_98 : decode cX7_readsGuest 98 = .ok (.iconst 1, 1) := by decide +kernel
theorem dX7_readsGuest_99 : decode cX7_readsGuest 99 = .ok (.invokevirtual 117, 3) := by decide +kernel
theorem dX7_readsGuest_102 : decode cX7_readsGuest 102 = .ok (.pop, 1) := by decide +kernel
theorem dX7_readsGuest_103 : decode cX7_readsGuest 103 = .ok (.aload_n 0, 1) := by decide +kernel
theorem dX7_readsGuest_104 : decode cX7_readsGuest 104 = .ok (.invokevirtual 107, 3) := by decide +kernel
theorem dX7_readsGuest_107 : decode cX7_readsGuest 107 = .ok (.ifCond .eq 72, 3) := by decide +kernel
theorem dX7_readsGuest_110 : decode cX7_readsGuest 110 = .ok (.aload_n 0, 1) := by decide +kernel
theorem dX7_readsGuest_111 : decode cX7_readsGuest 111 = .ok (.getfield 28, 3) := by decide +kernel
theorem dX7_readsGuest_114 : decode cX7_readsGuest 114 = .ok (.iload_n 2, 1) := by decide +kernel
theorem dX7_readsGuest_115 : decode cX7_readsGuest 115 = .ok (.iload_n 1, 1) := by decide +kernel
theorem dX7_readsGuest_116 : decode cX7_readsGuest 116 = .ok (.iastore, 1) := by decide +kernel
theorem dX7_readsGuest_117 : decode cX7_readsGuest 117 = .ok (.aload_n 0, 1) := by decide +kernel
theorem dX7_readsGuest_118 : decode cX7_readsGuest 118 = .ok (.getfield 28, 3) := by decide +kernel
theorem dX7_readsGuest_121 : decode cX7_readsGuest 121 = .ok (.iload_n 2, 1) := by decide +kernel
theorem dX7_readsGuest_122 : decode cX7_readsGuest 122 = .ok (.iconst 1, 1) := by decide +kernel
theorem dX7_readsGuest_123 : decode cX7_readsGuest 123 = .ok (.iadd, 1) := by decide +kernel
theorem dX7_readsGuest_124 : decode cX7_readsGuest 124 = .ok (.iload_n 3, 1) := by decide +kernel
theorem dX7_readsGuest_125 : decode cX7_readsGuest 125 = .ok (.iastore, 1) := by decide +kernel
theorem dX7_readsGuest_126 : decode cX7_readsGuest 126 = .ok (.aload_n 0, 1) := by decide +kernel
theorem dX7_readsGuest_127 : decode cX7_readsGuest 127 = .ok (.getfield 28, 3) := by decide +kernel
theorem dX7_readsGuest_130 : decode cX7_readsGuest 130 = .ok (.iload_n 2, 1) := by decide +kernel
theorem dX7_readsGuest_131 : decode cX7_readsGuest 131 = .ok (.iconst 2, 1) := by decide +kernel
theorem dX7_readsGuest_132 : decode cX7_readsGuest 132 = .ok (.iadd, 1) := by decide +kernel
theorem dX7_readsGuest_133 : decode cX7_readsGuest 133 = .ok (.iload 4, 2) := by decide +kernel
theorem dX7_readsGuest_135 : decode cX7_readsGuest 135 = .ok (.iastore, 1) := by decide +kernel
theorem dX7_readsGuest_136 : decode cX7_readsGuest 136 = .ok (.aload_n 0, 1) := by decide +kernel
theorem dX7_readsGuest_137 : decode cX7_readsGuest 137 = .ok (.getfield 28, 3) := by decide +kernel
theorem dX7_readsGuest_140 : decode cX7_readsGuest 140 = .ok (.iload_n 2, 1) := by decide +kernel
theorem dX7_readsGuest_141 : decode cX7_readsGuest 141 = .ok (.iconst 3, 1) := by decide +kernel
theorem dX7_readsGuest_142 : decode cX7_readsGuest 142 = .ok (.iadd, 1) := by decide +kernel
theorem dX7_readsGuest_143 : decode cX7_readsGuest 143 = .ok (.iload 5, 2) := by decide +kernel
theorem dX7_readsGuest_145 : decode cX7_readsGuest 145 = .ok (.iastore, 1) := by decide +kernel
theorem dX7_readsGuest_146 : decode cX7_readsGuest 146 = .ok (.aload_n 0, 1) := by decide +kernel
theorem dX7_readsGuest_147 : decode cX7_readsGuest 147 = .ok (.getfield 28, 3) := by decide +kernel
theorem dX7_readsGuest_150 : decode cX7_readsGuest 150 = .ok (.iload_n 2, 1) := by decide +kernel
theorem dX7_readsGuest_151 : decode cX7_readsGuest 151 = .ok (.iconst 4, 1) := by decide +kernel
theorem dX7_readsGuest_152 : decode cX7_readsGuest 152 = .ok (.iadd, 1) := by decide +kernel
theorem dX7_readsGuest_153 : decode cX7_readsGuest 153 = .ok (.aload_n 0, 1) := by decide +kernel
theorem dX7_readsGuest_154 : decode cX7_readsGuest 154 = .ok (.getfield 28, 3) := by decide +kernel
theorem dX7_readsGuest_157 : decode cX7_readsGuest 157 = .ok (.iconst 2, 1) := by decide +kernel
theorem dX7_readsGuest_158 : decode cX7_readsGuest 158 = .ok (.iaload, 1) := by decide +kernel
theorem dX7_readsGuest_159 : decode cX7_readsGuest 159 = .ok (.iastore, 1) := by decide +kernel
theorem dX7_readsGuest_160 : decode cX7_readsGuest 160 = .ok (.aload_n 0, 1) := by decide +kernel
theorem dX7_readsGuest_161 : decode cX7_readsGuest 161 = .ok (.getfield 28, 3) := by decide +kernel
theorem dX7_readsGuest_164 : decode cX7_readsGuest 164 = .ok (.iload_n 2, 1) := by decide +kernel
theorem dX7_readsGuest_165 : decode cX7_readsGuest 165 = .ok (.iconst 5, 1) := by decide +kernel
theorem dX7_readsGuest_166 : decode cX7_readsGuest 166 = .ok (.iadd, 1) := by decide +kernel
theorem dX7_readsGuest_167 : decode cX7_readsGuest 167 = .ok (.iconst 1, 1) := by decide +kernel
theorem dX7_readsGuest_168 : decode cX7_readsGuest 168 = .ok (.iastore, 1) := by decide +kernel
theorem dX7_readsGuest_169 : decode cX7_readsGuest 169 = .ok (.aload_n 0, 1) := by decide +kernel
theorem dX7_readsGuest_170 : decode cX7_readsGuest 170 = .ok (.getfield 28, 3) := by decide +kernel
theorem dX7_readsGuest_173 : decode cX7_readsGuest 173 = .ok (.iconst 2, 1) := by decide +kernel
theorem dX7_readsGuest_174 : decode cX7_readsGuest 174 = .ok (.dup2, 1) := by decide +kernel
theorem dX7_readsGuest_175 : decode cX7_readsGuest 175 = .ok (.iaload, 1) := by decide +kernel
theorem dX7_readsGuest_176 : decode cX7_readsGuest 176 = .ok (.iconst 1, 1) := by decide +kernel
theorem dX7_readsGuest_177 : decode cX7_readsGuest 177 = .ok (.iadd, 1) := by decide +kernel
theorem dX7_readsGuest_178 : decode cX7_readsGuest 178 = .ok (.iastore, 1) := by decide +kernel
theorem dX7_readsGuest_179 : decode cX7_readsGuest 179 = .ok (.return_, 1) := by decide +kernel
set_option maxRecDepth 20000 in
theorem ggX7_must_X7_isWell : GoodIn wsX7_must wsX7_isWell := goodIn_r _ [5, 6, 29, 30, 31, 32, 33, 34, 35, 36, 37, 38, 39, 40, 41, 42, 43, 44, 45, 46, 47, 48, 49, 50, 51, 52] (by decide +kernel) (by decide +kernel)
set_option maxRecDepth 20000 in
theorem gX7_must_X7_isWell : GoodIn wsX7_must (wsV RX7 107 RX7 yX7_isWell wsX7_isWell) := goodIn_app (goodIn_of _ (by decide +kernel)) ggX7_must_X7_isWell
set_option maxRecDepth 20000 in
theorem ggX7_must_X7_takes : GoodIn wsX7_must wsX7_takes := goodIn_r _ [10, 11, 6, 12, 13, 1, 2, 3, 4, 5, 14, 15, 16, 17, 18, 19, 20, 21, 22, 23, 24, 25, 26, 27, 28, 29, 30, 31, 32, 33, 34, 35, 36, 37, 38, 39, 40, 41, 42, 43, 44, 45, 46, 47, 48, 49, 50, 51, 52] (by decide +kernel) (by decide +kernel)
set_option maxRecDepth 20000 in
theorem gX7_must_X7_takes : GoodIn wsX7_must (wsV RX7 117 RX7 yX7_takes wsX7_takes) := goodIn_app (goodIn_of _ (by decide +kernel)) ggX7_must_X7_takes
theorem dX7_must_0 : decode cX7_must 0 = .ok (.aload_n 0, 1) := by decide +kernel
theorem dX7_must_1 : decode cX7_must 1 = .ok (.invokevirtual 107, 3) := by decide +kernel
theorem dX7_must_4 : decode cX7_must 4 = .ok (.ifCond .eq 14, 3) := by decide +kernel
theorem dX7_must_7 : decode cX7_must 7 = .ok (.iload_n 1, 1) := by decide +kernel
theorem dX7_must_8 : decode cX7_must 8 = .ok (.ifCond .ne 10, 3) := by decide +kernel
theorem dX7_must_11 : decode cX7_must 11 = .ok (.aload_n 0, 1) := by decide +kernel
theorem dX7_must_12 : decode cX7_must 12 = .ok (.iconst 0, 1) := by decide +kernel
theorem dX7_must_13 : decode cX7_must 13 = .ok (.iconst 1, 1) := by decide +kernel
theorem dX7_must_14 : decode cX7_must 14 = .ok (.invokevirtual 117, 3) := by decide +kernel
theorem dX7_must_17 : decode cX7_must 17 = .ok (.pop, 1) := by decide +kernel
theorem dX7_must_18 : decode cX7_must 18 = .ok (.return_, 1) := by decide +kernel
set_option maxRecDepth 20000 in
theorem ggX7_wedding_X7_advances : GoodIn wsX7_wedding wsX7_advances := goodIn_r _ [14, 2, 15, 5, 4, 16, 17, 18, 13, 19, 6, 20, 21, 22, 23, 55, 56, 57, 58, 59, 60, 61, 62, 63, 64, 65, 66, 67, 68, 69, 70, 71, 72, 73, 74, 75, 76, 77, 78] (by decide +kernel) (by decide +kernel)
set_option maxRecDepth 20000 in
theorem gX7_wedding_X7_advances : GoodIn wsX7_wedding (wsV RX7 114 RX7 yX7_advances wsX7_advances) := goodIn_app (goodIn_of _ (by decide +kernel)) ggX7_wedding_X7_advances
set_option maxRecDepth 20000 in
theorem ggX7_wedding_X7_takes : GoodIn wsX7_wedding wsX7_takes := goodIn_r _ [27, 15, 3, 28, 5, 29, 30, 31, 13, 32, 10, 11, 12, 14, 2, 4, 16, 17, 18, 19, 6, 20, 21, 22, 23, 55, 56, 57, 58, 59, 60, 61, 62, 63, 64, 65, 66, 67, 68, 69, 70, 71, 72, 73, 74, 75, 76, 77, 78] (by decide +kernel) (by decide +kernel)
set_option maxRecDepth 20000 in
theorem gX7_wedding_X7_takes : GoodIn wsX7_wedding (wsV RX7 117 RX7 yX7_takes wsX7_takes) := goodIn_app (goodIn_of _ (by decide +kernel)) ggX7_wedding_X7_takes
set_option maxRecDepth 20000 in
theorem ggX7_wedding_X7_figure : GoodIn wsX7_wedding wsX7_figure := goodIn_r _ [36, 4, 5, 29, 30, 31, 13, 32, 3, 24, 25, 26, 27, 15, 28, 10, 11, 12, 14, 2, 16, 17, 18, 19, 6, 20, 21, 22, 23, 55, 56, 57, 58, 59, 60, 61, 62, 63, 64, 65, 66, 67, 68, 69, 70, 71, 72, 73, 74, 75, 76, 77, 78] (by decide +kernel) (by decide +kernel)
set_option maxRecDepth 20000 in
theorem gX7_wedding_X7_figure : GoodIn wsX7_wedding (wsV RX7 121 RX7 yX7_figure wsX7_figure) := goodIn_app (goodIn_of _ (by decide +kernel)) ggX7_wedding_X7_figure
set_option maxRecDepth 20000 in
theorem ggX7_wedding_X7_follows : GoodIn wsX7_wedding wsX7_follows := goodIn_r _ [40, 4, 24, 25, 26, 13, 27, 15, 3, 28, 5, 29, 30, 31, 32, 10, 11, 12, 14, 2, 16, 17, 18, 19, 6, 20, 21, 22, 23, 33, 34, 35, 36, 55, 56, 57, 58, 59, 60, 61, 62, 63, 64, 65, 66, 67, 68, 69, 70, 71, 72, 73, 74, 75, 76, 77, 78] (by decide +kernel) (by decide +kernel)
set_option maxRecDepth 20000 in
theorem gX7_wedding_X7_follows : GoodIn wsX7_wedding (wsV RX7 127 RX7 yX7_follows wsX7_follows) := goodIn_app (goodIn_of _ (by decide +kernel)) ggX7_wedding_X7_follows
set_option maxRecDepth 20000 in
theorem ggX7_wedding_X7_kindOf : GoodIn wsX7_wedding wsX7_kindOf := goodIn_r _ [43] (by decide +kernel) (by decide +kernel)
set_option maxRecDepth 20000 in
theorem gX7_wedding_X7_kindOf : GoodIn wsX7_wedding (va_wsS RX7 124 yX7_kindOf wsX7_kindOf) := goodIn_app (goodIn_of _ (by decide +kernel)) ggX7_wedding_X7_kindOf
set_option maxRecDepth 20000 in
theorem ggX7_wedding_X7_must : GoodIn wsX7_wedding wsX7_must := goodIn_r _ [47, 29, 30, 31, 13, 32, 3, 24, 25, 26, 27, 15, 28, 5, 10, 11, 12, 14, 2, 4, 16, 17, 18, 19, 6, 20, 21, 22, 23, 55, 56, 57, 58, 59, 60, 61, 62, 63, 64, 65, 66, 67, 68, 69, 70, 71, 72, 73, 74, 75, 76, 77, 78] (by decide +kernel) (by decide +kernel)
set_option maxRecDepth 20000 in
theorem gX7_wedding_X7_must : GoodIn wsX7_wedding (wsV RX7 130 RX7 yX7_must wsX7_must) := goodIn_app (goodIn_of _ (by decide +kernel)) ggX7_wedding_X7_must
set_option maxRecDepth 20000 in
theorem ggX7_wedding_X7_isWell : GoodIn wsX7_wedding wsX7_isWell := goodIn_r _ [32, 3, 55, 56, 57, 58, 59, 60, 61, 62, 63, 64, 65, 66, 67, 68, 69, 70, 71, 72, 73, 74, 75, 76, 77, 78] (by decide +kernel) (by decide +kernel)
set_option maxRecDepth 20000 in
theorem gX7_wedding_X7_isWell : GoodIn wsX7_wedding (wsV RX7 107 RX7 yX7_isWell wsX7_isWell) := goodIn_app (goodIn_of _ (by decide +kernel)) ggX7_wedding_X7_isWell
set_option maxRecDepth 20000 in
theorem ggX7_wedding_X7_readsGuest : GoodIn wsX7_wedding wsX7_readsGuest := goodIn_r _ [51, 5, 1, 4, 41, 42, 13, 43, 24, 25, 26, 27, 15, 3, 28, 29, 30, 31, 32, 10, 11, 12, 14, 2, 16, 17, 18, 19, 6, 20, 21, 22, 23, 33, 34, 35, 36, 37, 38, 39, 40, 55, 56, 57, 58, 59, 60, 61, 62, 63, 64, 65, 66, 67, 68, 69, 70, 71, 72, 73, 74, 75, 76, 77, 78] (by decide +kernel) (by decide +kernel)
set_option maxRecDepth 20000 in
theorem gX7_wedding_X7_readsGuest : GoodIn wsX7_wedding (wsV RX7 134 RX7 yX7_readsGuest wsX7_readsGuest) := goodIn_app (goodIn_of _ (by decide +kernel)) ggX7_wedding_X7_readsGuest
set_option maxRecDepth 20000 in
theorem ggX7_wedding_X7_copies : GoodIn wsX7_wedding wsX7_copies := goodIn_r _ [54] (by decide +kernel) (by decide +kernel)
set_option maxRecDepth 20000 in
theorem gX7_wedding_X7_copies : GoodIn wsX7_wedding (va_wsS RX7 138 yX7_copies wsX7_copies) := goodIn_app (goodIn_of _ (by decide +kernel)) ggX7_wedding_X7_copies
theorem dX7_wedding_0 : decode cX7_wedding 0 = .ok (.iconst 0, 1) := by decide +kernel
theorem dX7_wedding_1 : decode cX7_wedding 1 = .ok (.istore_n 1, 1) := by decide +kernel
theorem dX7_wedding_2 : decode cX7_wedding 2 = .ok (.iload_n 1, 1) := by decide +kernel
theorem dX7_wedding_3 : decode cX7_wedding 3 = .ok (.bipush 55, 2) := by decide +kernel
theorem dX7_wedding_5 : decode cX7_wedding 5 = .ok (.if_icmp .ge 16, 3) := by decide +kernel
theorem dX7_wedding_8 : decode cX7_wedding 8 = .ok (.aload_n 0, 1) := by decide +kernel
theorem dX7_wedding_9 : decode cX7_wedding 9 = .ok (.getfield 28, 3) := by decide +kernel
theorem dX7_wedding_12 : decode cX7_wedding 12 = .ok (.iload_n 1, 1) := by decide +kernel
theorem dX7_wedding_13 : decode cX7_wedding 13 = .ok (.iconst 0, 1) := by decide +kernel
theorem dX7_wedding_14 : decode cX7_wedding 14 = .ok (.iastore, 1) := by decide +kernel
theorem dX7_wedding_15 : decode cX7_wedding 15 = .ok (.iinc 1 1, 3) := by decide +kernel
theorem dX7_wedding_18 : decode cX7_wedding 18 = .ok (.goto (-16), 3) := by decide +kernel
theorem dX7_wedding_21 : decode cX7_wedding 21 = .ok (.aload_n 0, 1) := by decide +kernel
theorem dX7_wedding_22 : decode cX7_wedding 22 = .ok (.iconst 0, 1) := by decide +kernel
theorem dX7_wedding_23 : decode cX7_wedding 23 = .ok (.putfield 89, 3) := by decide +kernel
theorem dX7_wedding_26 : decode cX7_wedding 26 = .ok (.aload_n 0, 1) := by decide +kernel
theorem dX7_wedding_27 : decode cX7_wedding 27 = .ok (.iconst (-1), 1) := by decide +kernel
theorem dX7_wedding_28 : decode cX7_wedding 28 = .ok (.putfield 104, 3) := by decide +kernel
theorem dX7_wedding_31 : decode cX7_wedding 31 = .ok (.aload_n 0, 1) := by decide +kernel
theorem dX7_wedding_32 : decode cX7_wedding 32 = .ok (.invokevirtual 114, 3) := by decide +kernel
theorem dX7_wedding_35 : decode cX7_wedding 35 = .ok (.aload_n 0, 1) := by decide +kernel
theorem dX7_wedding_36 : decode cX7_wedding 36 = .ok (.aload_n 0, 1) := by decide +kernel
theorem dX7_wedding_37 : decode cX7_wedding 37 = .ok (.getfield 101, 3) := by decide +kernel
theorem dX7_wedding_40 : decode cX7_wedding 40 = .ok (.iconst 1, 1) := by decide +kernel
theorem dX7_wedding_41 : decode cX7_wedding 41 = .ok (.if_icmp .ne 16, 3) := by decide +kernel
theorem dX7_wedding_44 : decode cX7_wedding 44 = .ok (.aload_n 0, 1) := by decide +kernel
theorem dX7_wedding_45 : decode cX7_wedding 45 = .ok (.getfield 98, 3) := by decide +kernel
theorem dX7_wedding_48 : decode cX7_wedding 48 = .ok (.bipush 119, 2) := by decide +kernel
theorem dX7_wedding_50 : decode cX7_wedding 50 = .ok (.if_icmp .ne 7, 3) := by decide +kernel
theorem dX7_wedding_53 : decode cX7_wedding 53 = .ok (.iconst 1, 1) := by decide +kernel
theorem dX7_wedding_54 : decode cX7_wedding 54 = .ok (.goto 4, 3) := by decide +kernel
theorem dX7_wedding_57 : decode cX7_wedding 57 = .ok (.iconst 0, 1) := by decide +kernel
theorem dX7_wedding_58 : decode cX7_wedding 58 = .ok (.iconst 1, 1) := by decide +kernel
theorem dX7_wedding_59 : decode cX7_wedding 59 = .ok (.invokevirtual 117, 3) := by decide +kernel
theorem dX7_wedding_62 : decode cX7_wedding 62 = .ok (.pop, 1) := by decide +kernel
theorem dX7_wedding_63 : decode cX7_wedding 63 = .ok (.aload_n 0, 1) := by decide +kernel
theorem dX7_wedding_64 : decode cX7_wedding 64 = .ok (.getfield 28, 3) := by decide +kernel
theorem dX7_wedding_67 : decode cX7_wedding 67 = .ok (.iconst 0, 1) := by decide +kernel
theorem dX7_wedding_68 : decode cX7_wedding 68 = .ok (.aload_n 0, 1) := by decide +kernel
theorem dX7_wedding_69 : decode cX7_wedding 69 = .ok (.iconst 1, 1) := by decide +kernel
theorem dX7_wedding_70 : decode cX7_wedding 70 = .ok (.bipush 99, 2) := by decide +kernel
theorem dX7_wedding_72 : decode cX7_wedding 72 = .ok (.invokevirtual 121, 3) := by decide +kernel
theorem dX7_wedding_75 : decode cX7_wedding 75 = .ok (.iastore, 1) := by decide +kernel
theorem dX7_wedding_76 : decode cX7_wedding 76 = .ok (.aload_n 0, 1) := by decide +kernel
theorem dX7_wedding_77 : decode cX7_wedding 77 = .ok (.getfield 28, 3) := by decide +kernel
theorem dX7_wedding_80 : decode cX7_wedding 80 = .ok (.iconst 1, 1) := by decide +kernel
theorem dX7_wedding_81 : decode cX7_wedding 81 = .ok (.aload_n 0, 1) := by decide +kernel
theorem dX7_wedding_82 : decode cX7_wedding 82 = .ok (.iconst 0, 1) := by decide +kernel
theorem dX7_wedding_83 : decode cX7_wedding 83 = .ok (.bipush 15, 2) := by decide +kernel
theorem dX7_wedding_85 : decode cX7_wedding 85 = .ok (.invokevirtual 127, 3) := by decide +kernel
theorem dX7_wedding_88 : decode cX7_wedding 88 = .ok (.iastore, 1) := by decide +kernel
theorem dX7_wedding_89 : decode cX7_wedding 89 = .ok (.aload_n 0, 1) := by decide +kernel
theorem dX7_wedding_90 : decode cX7_wedding 90 = .ok (.aload_n 0, 1) := by decide +kernel
theorem dX7_wedding_91 : decode cX7_wedding 91 = .ok (.getfield 101, 3) := by decide +kernel
theorem dX7_wedding_94 : decode cX7_wedding 94 = .ok (.iconst 4, 1) := by decide +kernel
theorem dX7_wedding_95 : decode cX7_wedding 95 = .ok (.if_icmp .ne 7, 3) := by decide +kernel
theorem dX7_wedding_98 : decode cX7_wedding 98 = .ok (.iconst 1, 1) := by decide +kernel
theorem dX7_wedding_99 : decode cX7_wedding 99 = .ok (.goto 4, 3) := by decide +kernel
theorem dX7_wedding_102 : decode cX7_wedding 102 = .ok (.iconst 0, 1) := by decide +kernel
theorem dX7_wedding_103 : decode cX7_wedding 103 = .ok (.iconst 1, 1) := by decide +kernel
theorem dX7_wedding_104 : decode cX7_wedding 104 = .ok (.invokevirtual 117, 3) := by decide +kernel
theorem dX7_wedding_107 : decode cX7_wedding 107 = .ok (.pop, 1) := by decide +kernel
theorem dX7_wedding_108 : decode cX7_wedding 108 = .ok (.aload_n 0, 1) := by decide +kernel
theorem dX7_wedding_109 : decode cX7_wedding 109 = .ok (.aload_n 0, 1) := by decide +kernel
theorem dX7_wedding_110 : decode cX7_wedding 110 = .ok (.getfield 101, 3) := by decide +kernel
theorem dX7_wedding_113 : decode cX7_wedding 113 = .ok (.iconst 1, 1) := by decide +kernel
theorem dX7_wedding_114 : decode cX7_wedding 114 = .ok (.if_icmp .ne 17, 3) := by decide +kernel
theorem dX7_wedding_117 : decode cX7_wedding 117 = .ok (.aload_n 0, 1) := by decide +kernel
theorem dX7_wedding_118 : decode cX7_wedding 118 = .ok (.getfield 98, 3) := by decide +kernel
theorem dX7_wedding_121 : decode cX7_wedding 121 = .ok (.invokestatic 124, 3) := by decide +kernel
theorem dX7_wedding_124 : decode cX7_wedding 124 = .ok (.ifCond .le 7, 3) := by decide +kernel
theorem dX7_wedding_127 : decode cX7_wedding 127 = .ok (.iconst 1, 1) := by decide +kernel
theorem dX7_wedding_128 : decode cX7_wedding 128 = .ok (.goto 4, 3) := by decide +kernel
theorem dX7_wedding_131 : decode cX7_wedding 131 = .ok (.iconst 0, 1) := by decide +kernel
theorem dX7_wedding_132 : decode cX7_wedding 132 = .ok (.invokevirtual 130, 3) := by decide +kernel
theorem dX7_wedding_135 : decode cX7_wedding 135 = .ok (.aload_n 0, 1) := by decide +kernel
theorem dX7_wedding_136 : decode cX7_wedding 136 = .ok (.invokevirtual 107, 3) := by decide +kernel
theorem dX7_wedding_139 : decode cX7_wedding 139 = .ok (.ifCond .eq 28, 3) := by decide +kernel
theorem dX7_wedding_142 : decode cX7_wedding 142 = .ok (.aload_n 0, 1) := by decide +kernel
theorem dX7_wedding_143 : decode cX7_wedding 143 = .ok (.getfield 101, 3) := by decide +kernel
theorem dX7_wedding_146 : decode cX7_wedding 146 = .ok (.iconst 1, 1) := by decide +kernel
theorem dX7_wedding_147 : decode cX7_wedding 147 = .ok (.if_icmp .ne 20, 3) := by decide +kernel
theorem dX7_wedding_150 : decode cX7_wedding 150 = .ok (.aload_n 0, 1) := by decide +kernel
theorem dX7_wedding_151 : decode cX7_wedding 151 = .ok (.getfield 98, 3) := by decide +kernel
theorem dX7_wedding_154 : decode cX7_wedding 154 = .ok (.invokestatic 124, 3) := by decide +kernel
theorem dX7_wedding_157 : decode cX7_wedding 157 = .ok (.ifCond .le 10, 3) := by decide +kernel
theorem dX7_wedding_160 : decode cX7_wedding 160 = .ok (.aload_n 0, 1) := by decide +kernel
theorem dX7_wedding_161 : decode cX7_wedding 161 = .ok (.invokevirtual 134, 3) := by decide +kernel
theorem dX7_wedding_164 : decode cX7_wedding 164 = .ok (.goto (-29), 3) := by decide +kernel
theorem dX7_wedding_167 : decode cX7_wedding 167 = .ok (.aload_n 0, 1) := by decide +kernel
theorem dX7_wedding_168 : decode cX7_wedding 168 = .ok (.aload_n 0, 1) := by decide +kernel
theorem dX7_wedding_169 : decode cX7_wedding 169 = .ok (.getfield 101, 3) := by decide +kernel
theorem dX7_wedding_172 : decode cX7_wedding 172 = .ok (.ifCond .ne 7, 3) := by decide +kernel
theorem dX7_wedding_175 : decode cX7_wedding 175 = .ok (.iconst 1, 1) := by decide +kernel
theorem dX7_wedding_176 : decode cX7_wedding 176 = .ok (.goto 4, 3) := by decide +kernel
theorem dX7_wedding_179 : decode cX7_wedding 179 = .ok (.iconst 0, 1) := by decide +kernel
theorem dX7_wedding_180 : decode cX7_wedding 180 = .ok (.invokevirtual 130, 3) := by decide +kernel
theorem dX7_wedding_183 : decode cX7_wedding 183 = .ok (.aload_n 0, 1) := by decide +kernel
theorem dX7_wedding_184 : decode cX7_wedding 184 = .ok (.iconst 0, 1) := by decide +kernel
theorem dX7_wedding_185 : decode cX7_wedding 185 = .ok (.putfield 85, 3) := by decide +kernel
theorem dX7_wedding_188 : decode cX7_wedding 188 = .ok (.aload_n 0, 1) := by decide +kernel
theorem dX7_wedding_189 : decode cX7_wedding 189 = .ok (.invokevirtual 107, 3) := by decide +kernel
theorem dX7_wedding_192 : decode cX7_wedding 192 = .ok (.ifCond .ne 11, 3) := by decide +kernel
theorem dX7_wedding_195 : decode cX7_wedding 195 = .ok (.ldc 137, 2) := by decide +kernel
theorem dX7_wedding_197 : decode cX7_wedding 197 = .ok (.aload_n 0, 1) := by decide +kernel
theorem dX7_wedding_198 : decode cX7_wedding 198 = .ok (.getfield 104, 3) := by decide +kernel
theorem dX7_wedding_201 : decode cX7_wedding 201 = .ok (.isub, 1) := by decide +kernel
theorem dX7_wedding_202 : decode cX7_wedding 202 = .ok (.ireturn, 1) := by decide +kernel
theorem dX7_wedding_203 : decode cX7_wedding 203 = .ok (.aload_n 0, 1) := by decide +kernel
theorem dX7_wedding_204 : decode cX7_wedding 204 = .ok (.getfield 28, 3) := by decide +kernel
theorem dX7_wedding_207 : decode cX7_wedding 207 = .ok (.iconst 0, 1) := by decide +kernel
theorem dX7_wedding_208 : decode cX7_wedding 208 = .ok (.aload_n 0, 1) := by decide +kernel
theorem dX7_wedding_209 : decode cX7_wedding 209 = .ok (.getfield 25, 3) := by decide +kernel
theorem dX7_wedding_212 : decode cX7_wedding 212 = .ok (.iconst 0, 1) := by decide +kernel
theorem dX7_wedding_213 : decode cX7_wedding 213 = .ok (.invokestatic 138, 3) := by decide +kernel
theorem dX7_wedding_216 : decode cX7_wedding 216 = .ok (.aload_n 0, 1) := by decide +kernel
theorem dX7_wedding_217 : decode cX7_wedding 217 = .ok (.iconst 0, 1) := by decide +kernel
theorem dX7_wedding_218 : decode cX7_wedding 218 = .ok (.putfield 142, 3) := by decide +kernel
theorem dX7_wedding_221 : decode cX7_wedding 221 = .ok (.aload_n 0, 1) := by decide +kernel
theorem dX7_wedding_222 : decode cX7_wedding 222 = .ok (.getfield 25, 3) := by decide +kernel
theorem dX7_wedding_225 : decode cX7_wedding 225 = .ok (.iconst 2, 1) := by decide +kernel
theorem dX7_wedding_226 : decode cX7_wedding 226 = .ok (.iaload, 1) := by decide +kernel
theorem dX7_wedding_227 : decode cX7_wedding 227 = .ok (.ireturn, 1) := by decide +kernel
theorem dX7_fault_0 : decode cX7_fault 0 = .ok (.aload_n 0, 1) := by decide +kernel
theorem dX7_fault_1 : decode cX7_fault 1 = .ok (.getfield 111, 3) := by decide +kernel
theorem dX7_fault_4 : decode cX7_fault 4 = .ok (.ireturn, 1) := by decide +kernel
theorem dX7_isWedding_0 : decode cX7_isWedding 0 = .ok (.aload_n 0, 1) := by decide +kernel
theorem dX7_isWedding_1 : decode cX7_isWedding 1 = .ok (.getfield 25, 3) := by decide +kernel
theorem dX7_isWedding_4 : decode cX7_isWedding 4 = .ok (.iconst 0, 1) := by decide +kernel
theorem dX7_isWedding_5 : decode cX7_isWedding 5 = .ok (.iaload, 1) := by decide +kernel
theorem dX7_isWedding_6 : decode cX7_isWedding 6 = .ok (.ifCond .le 7, 3) := by decide +kernel
theorem dX7_isWedding_9 : decode cX7_isWedding 9 = .ok (.iconst 1, 1) := by decide +kernel
theorem dX7_isWedding_10 : decode cX7_isWedding 10 = .ok (.goto 4, 3) := by decide +kernel
theorem dX7_isWedding_13 : decode cX7_isWedding 13 = .ok (.iconst 0, 1) := by decide +kernel
theorem dX7_isWedding_14 : decode cX7_isWedding 14 = .ok (.ireturn, 1) := by decide +kernel
set_option maxRecDepth 20000 in
theorem ggX7_isGuest_X7_in : GoodIn wsX7_isGuest wsX7_in := goodIn_r _ [5] (by decide +kernel) (by decide +kernel)
set_option maxRecDepth 20000 in
theorem gX7_isGuest_X7_in : GoodIn wsX7_isGuest (va_wsS RX7 59 yX7_in wsX7_in) := goodIn_app (goodIn_of _ (by decide +kernel)) ggX7_isGuest_X7_in
theorem dX7_isGuest_0 : decode cX7_isGuest 0 = .ok (.iload_n 1, 1) := by decide +kernel
theorem dX7_isGuest_1 : decode cX7_isGuest 1 = .ok (.iconst 0, 1) := by decide +kernel
theorem dX7_isGuest_2 : decode cX7_isGuest 2 = .ok (.aload_n 0, 1) := by decide +kernel
theorem dX7_isGuest_3 : decode cX7_isGuest 3 = .ok (.getfield 25, 3) := by decide +kernel
theorem dX7_isGuest_6 : decode cX7_isGuest 6 = .ok (.iconst 2, 1) := by decide +kernel
theorem dX7_isGuest_7 : decode cX7_isGuest 7 = .ok (.iaload, 1) := by decide +kernel
theorem dX7_isGuest_8 : decode cX7_isGuest 8 = .ok (.iconst 1, 1) := by decide +kernel
theorem dX7_isGuest_9 : decode cX7_isGuest 9 = .ok (.isub, 1) := by decide +kernel
theorem dX7_isGuest_10 : decode cX7_isGuest 10 = .ok (.invokestatic 59, 3) := by decide +kernel
theorem dX7_isGuest_13 : decode cX7_isGuest 13 = .ok (.ireturn, 1) := by decide +kernel
theorem dX7_inSeat_0 : decode cX7_inSeat 0 = .ok (.iconst 0, 1) := by decide +kernel
theorem dX7_inSeat_1 : decode cX7_inSeat 1 = .ok (.istore_n 2, 1) := by decide +kernel
theorem dX7_inSeat_2 : decode cX7_inSeat 2 = .ok (.iload_n 2, 1) := by decide +kernel
theorem dX7_inSeat_3 : decode cX7_inSeat 3 = .ok (.aload_n 0, 1) := by decide +kernel
theorem dX7_inSeat_4 : decode cX7_inSeat 4 = .ok (.iconst 2, 1) := by decide +kernel
theorem dX7_inSeat_5 : decode cX7_inSeat 5 = .ok (.iaload, 1) := by decide +kernel
theorem dX7_inSeat_6 : decode cX7_inSeat 6 = .ok (.if_icmp .ge 26, 3) := by decide +kernel
theorem dX7_inSeat_9 : decode cX7_inSeat 9 = .ok (.aload_n 0, 1) := by decide +kernel
theorem dX7_inSeat_10 : decode cX7_inSeat 10 = .ok (.bipush 6, 2) := by decide +kernel
theorem dX7_inSeat_12 : decode cX7_inSeat 12 = .ok (.bipush 7, 2) := by decide +kernel
theorem dX7_inSeat_14 : decode cX7_inSeat 14 = .ok (.iload_n 2, 1) := by decide +kernel
theorem dX7_inSeat_15 : decode cX7_inSeat 15 = .ok (.imul, 1) := by decide +kernel
theorem dX7_inSeat_16 : decode cX7_inSeat 16 = .ok (.iadd, 1) := by decide +kernel
theorem dX7_inSeat_17 : decode cX7_inSeat 17 = .ok (.iconst 4, 1) := by decide +kernel
theorem dX7_inSeat_18 : decode cX7_inSeat 18 = .ok (.iadd, 1) := by decide +kernel
theorem dX7_inSeat_19 : decode cX7_inSeat 19 = .ok (.iaload, 1) := by decide +kernel
theorem dX7_inSeat_20 : decode cX7_inSeat 20 = .ok (.iload_n 1, 1) := by decide +kernel
theorem dX7_inSeat_21 : decode cX7_inSeat 21 = .ok (.if_icmp .ne 5, 3) := by decide +kernel
theorem dX7_inSeat_24 : decode cX7_inSeat 24 = .ok (.iload_n 2, 1) := by decide +kernel
theorem dX7_inSeat_25 : decode cX7_inSeat 25 = .ok (.ireturn, 1) := by decide +kernel
theorem dX7_inSeat_26 : decode cX7_inSeat 26 = .ok (.iinc 2 1, 3) := by decide +kernel
theorem dX7_inSeat_29 : decode cX7_inSeat 29 = .ok (.goto (-27), 3) := by decide +kernel
theorem dX7_inSeat_32 : decode cX7_inSeat 32 = .ok (.ldc 53, 2) := by decide +kernel
theorem dX7_inSeat_34 : decode cX7_inSeat 34 = .ok (.ireturn, 1) := by decide +kernel
set_option maxRecDepth 20000 in
theorem ggX7_lastIn_X7_inSeat : GoodIn wsX7_lastIn wsX7_inSeat := goodIn_r _ [5, 1] (by decide +kernel) (by decide +kernel)
set_option maxRecDepth 20000 in
theorem gX7_lastIn_X7_inSeat : GoodIn wsX7_lastIn (va_wsS RX7 145 yX7_inSeat wsX7_inSeat) := goodIn_app (goodIn_of _ (by decide +kernel)) ggX7_lastIn_X7_inSeat
theorem dX7_lastIn_0 : decode cX7_lastIn 0 = .ok (.aload_n 0, 1) := by decide +kernel
theorem dX7_lastIn_1 : decode cX7_lastIn 1 = .ok (.iload_n 1, 1) := by decide +kernel
theorem dX7_lastIn_2 : decode cX7_lastIn 2 = .ok (.invokestatic 145, 3) := by decide +kernel
theorem dX7_lastIn_5 : decode cX7_lastIn 5 = .ok (.istore_n 2, 1) := by decide +kernel
theorem dX7_lastIn_6 : decode cX7_lastIn 6 = .ok (.iload_n 2, 1) := by decide +kernel
theorem dX7_lastIn_7 : decode cX7_lastIn 7 = .ok (.ldc 53, 2) := by decide +kernel
theorem dX7_lastIn_9 : decode cX7_lastIn 9 = .ok (.if_icmp .ne 7, 3) := by decide +kernel
theorem dX7_lastIn_12 : decode cX7_lastIn 12 = .ok (.iconst 0, 1) := by decide +kernel
theorem dX7_lastIn_13 : decode cX7_lastIn 13 = .ok (.goto 15, 3) := by decide +kernel
theorem dX7_lastIn_16 : decode cX7_lastIn 16 = .ok (.aload_n 0, 1) := by decide +kernel
theorem dX7_lastIn_17 : decode cX7_lastIn 17 = .ok (.bipush 6, 2) := by decide +kernel
theorem dX7_lastIn_19 : decode cX7_lastIn 19 = .ok (.bipush 7, 2) := by decide +kernel
theorem dX7_lastIn_21 : decode cX7_lastIn 21 = .ok (.iload_n 2, 1) := by decide +kernel
theorem dX7_lastIn_22 : decode cX7_lastIn 22 = .ok (.imul, 1) := by decide +kernel
theorem dX7_lastIn_23 : decode cX7_lastIn 23 = .ok (.iadd, 1) := by decide +kernel
theorem dX7_lastIn_24 : decode cX7_lastIn 24 = .ok (.bipush 6, 2) := by decide +kernel
theorem dX7_lastIn_26 : decode cX7_lastIn 26 = .ok (.iadd, 1) := by decide +kernel
theorem dX7_lastIn_27 : decode cX7_lastIn 27 = .ok (.iaload, 1) := by decide +kernel
theorem dX7_lastIn_28 : decode cX7_lastIn 28 = .ok (.ireturn, 1) := by decide +kernel
set_option maxRecDepth 20000 in
theorem ggX7_would_X7_lastIn : GoodIn wsX7_would wsX7_lastIn := goodIn_r _ [4, 5, 6, 7, 3, 8] (by decide +kernel) (by decide +kernel)
set_option maxRecDepth 20000 in
theorem gX7_would_X7_lastIn : GoodIn wsX7_would (va_wsS RX7 149 yX7_lastIn wsX7_lastIn) := goodIn_app (goodIn_of _ (by decide +kernel)) ggX7_would_X7_lastIn
set_option maxRecDepth 20000 in
theorem ggX7_would_X7_has : GoodIn wsX7_would wsX7_has := goodIn_r _ [11] (by decide +kernel) (by decide +kernel)
set_option maxRecDepth 20000 in
theorem gX7_would_X7_has : GoodIn wsX7_would (va_wsS RX7 152 yX7_has wsX7_has) := goodIn_app (goodIn_of _ (by decide +kernel)) ggX7_would_X7_has
set_option maxRecDepth 20000 in
theorem ggX7_would_X7_greater : GoodIn wsX7_would wsX7_greater := goodIn_r _ [14] (by decide +kernel) (by decide +kernel)
set_option maxRecDepth 20000 in
theorem gX7_would_X7_greater : GoodIn wsX7_would (va_wsS RX7 156 yX7_greater wsX7_greater) := goodIn_app (goodIn_of _ (by decide +kernel)) ggX7_would_X7_greater
set_option maxRecDepth 20000 in
theorem ggX7_would_X7_lesser : GoodIn wsX7_would wsX7_lesser := goodIn_r _ [17] (by decide +kernel) (by decide +kernel)
set_option maxRecDepth 20000 in
theorem gX7_would_X7_lesser : GoodIn wsX7_would (va_wsS RX7 159 yX7_lesser wsX7_lesser) := goodIn_app (goodIn_of _ (by decide +kernel)) ggX7_would_X7_lesser
theorem dX7_would_0 : decode cX7_would 0 = .ok (.bipush 6, 2) := by decide +kernel
theorem dX7_would_2 : decode cX7_would 2 = .ok (.bipush 7, 2) := by decide +kernel
theorem dX7_would_4 : decode cX7_would 4 = .ok (.iload_n 1, 1) := by decide +kernel
theorem dX7_would_5 : decode cX7_would 5 = .ok (.imul, 1) := by decide +kernel
theorem dX7_would_6 : decode cX7_would 6 = .ok (.iadd, 1) := by decide +kernel
theorem dX7_would_7 : decode cX7_would 7 = .ok (.istore_n 2, 1) := by decide +kernel
theorem dX7_would_8 : decode cX7_would 8 = .ok (.aload_n 0, 1) := by decide +kernel
theorem dX7_would_9 : decode cX7_would 9 = .ok (.aload_n 0, 1) := by decide +kernel
theorem dX7_would_10 : decode cX7_would 10 = .ok (.iload_n 2, 1) := by decide +kernel
theorem dX7_would_11 : decode cX7_would 11 = .ok (.iconst 4, 1) := by decide +kernel
theorem dX7_would_12 : decode cX7_would 12 = .ok (.iadd, 1) := by decide +kernel
theorem dX7_would_13 : decode cX7_would 13 = .ok (.iaload, 1) := by decide +kernel
theorem dX7_would_14 : decode cX7_would 14 = .ok (.iconst 1, 1) := by decide +kernel
theorem dX7_would_15 : decode cX7_would 15 = .ok (.isub, 1) := by decide +kernel
theorem dX7_would_16 : decode cX7_would 16 = .ok (.invokestatic 149, 3) := by decide +kernel
theorem dX7_would_19 : decode cX7_would 19 = .ok (.istore_n 3, 1) := by decide +kernel
theorem dX7_would_20 : decode cX7_would 20 = .ok (.aload_n 0, 1) := by decide +kernel
theorem dX7_would_21 : decode cX7_would 21 = .ok (.aload_n 0, 1) := by decide +kernel
theorem dX7_would_22 : decode cX7_would 22 = .ok (.iload_n 2, 1) := by decide +kernel
theorem dX7_would_23 : decode cX7_would 23 = .ok (.iconst 4, 1) := by decide +kernel
theorem dX7_would_24 : decode cX7_would 24 = .ok (.iadd, 1) := by decide +kernel
theorem dX7_would_25 : decode cX7_would 25 = .ok (.iaload, 1) := by decide +kernel
theorem dX7_would_26 : decode cX7_would 26 = .ok (.iconst 1, 1) := by decide +kernel
theorem dX7_would_27 : decode cX7_would 27 = .ok (.iadd, 1) := by decide +kernel
theorem dX7_would_28 : decode cX7_would 28 = .ok (.invokestatic 149, 3) := by decide +kernel
theorem dX7_would_31 : decode cX7_would 31 = .ok (.istore 4, 2) := by decide +kernel
theorem dX7_would_33 : decode cX7_would 33 = .ok (.aload_n 0, 1) := by decide +kernel
theorem dX7_would_34 : decode cX7_would 34 = .ok (.iload_n 2, 1) := by decide +kernel
theorem dX7_would_35 : decode cX7_would 35 = .ok (.iconst 1, 1) := by decide +kernel
theorem dX7_would_36 : decode cX7_would 36 = .ok (.iadd, 1) := by decide +kernel
theorem dX7_would_37 : decode cX7_would 37 = .ok (.iaload, 1) := by decide +kernel
theorem dX7_would_38 : decode cX7_would 38 = .ok (.iload_n 3, 1) := by decide +kernel
theorem dX7_would_39 : decode cX7_would 39 = .ok (.ifCond .le 7, 3) := by decide +kernel
theorem dX7_would_42 : decode cX7_would 42 = .ok (.iconst 1, 1) := by decide +kernel
theorem dX7_would_43 : decode cX7_would 43 = .ok (.goto 4, 3) := by decide +kernel
theorem dX7_would_46 : decode cX7_would 46 = .ok (.iconst 0, 1) := by decide +kernel
theorem dX7_would_47 : decode cX7_would 47 = .ok (.iadd, 1) := by decide +kernel
theorem dX7_would_48 : decode cX7_would 48 = .ok (.iload 4, 2) := by decide +kernel
theorem dX7_would_50 : decode cX7_would 50 = .ok (.ifCond .le 7, 3) := by decide +kernel
theorem dX7_would_53 : decode cX7_would 53 = .ok (.iconst 1, 1) := by decide +kernel
theorem dX7_would_54 : decode cX7_would 54 = .ok (.goto 4, 3) := by decide +kernel
theorem dX7_would_57 : decode cX7_would 57 = .ok (.iconst 0, 1) := by decide +kernel
theorem dX7_would_58 : decode cX7_would 58 = .ok (.iadd, 1) := by decide +kernel
theorem dX7_would_59 : decode cX7_would 59 = .ok (.istore 5, 2) := by decide +kernel
theorem dX7_would_61 : decode cX7_would 61 = .ok (.aload_n 0, 1) := by decide +kernel
theorem dX7_would_62 : decode cX7_would 62 = .ok (.iconst 1, 1) := by decide +kernel
theorem dX7_would_63 : decode cX7_would 63 = .ok (.iaload, 1) := by decide +kernel
theorem dX7_would_64 : decode cX7_would 64 = .ok (.aload_n 0, 1) := by decide +kernel
theorem dX7_would_65 : decode cX7_would 65 = .ok (.iconst 3, 1) := by decide +kernel
theorem dX7_would_66 : decode cX7_would 66 = .ok (.iaload, 1) := by decide +kernel
theorem dX7_would_67 : decode cX7_would 67 = .ok (.iconst 4, 1) := by decide +kernel
theorem dX7_would_68 : decode cX7_would 68 = .ok (.irem, 1) := by decide +kernel
theorem dX7_would_69 : decode cX7_would 69 = .ok (.invokestatic 152, 3) := by decide +kernel
theorem dX7_would_72 : decode cX7_would 72 = .ok (.ifCond .eq 11, 3) := by decide +kernel
theorem dX7_would_75 : decode cX7_would 75 = .ok (.aload_n 0, 1) := by decide +kernel
theorem dX7_would_76 : decode cX7_would 76 = .ok (.iload_n 2, 1) := by decide +kernel
theorem dX7_would_77 : decode cX7_would 77 = .ok (.iconst 1, 1) := by decide +kernel
theorem dX7_would_78 : decode cX7_would 78 = .ok (.iadd, 1) := by decide +kernel
theorem dX7_would_79 : decode cX7_would 79 = .ok (.iaload, 1) := by decide +kernel
theorem dX7_would_80 : decode cX7_would 80 = .ok (.goto 4, 3) := by decide +kernel
theorem dX7_would_83 : decode cX7_would 83 = .ok (.iconst 0, 1) := by decide +kernel
theorem dX7_would_84 : decode cX7_would 84 = .ok (.istore 6, 2) := by decide +kernel
theorem dX7_would_86 : decode cX7_would 86 = .ok (.iconst 0, 1) := by decide +kernel
theorem dX7_would_87 : decode cX7_would 87 = .ok (.istore 7, 2) := by decide +kernel
theorem dX7_would_89 : decode cX7_would 89 = .ok (.aload_n 0, 1) := by decide +kernel
theorem dX7_would_90 : decode cX7_would 90 = .ok (.iload_n 2, 1) := by decide +kernel
theorem dX7_would_91 : decode cX7_would 91 = .ok (.iaload, 1) := by decide +kernel
theorem dX7_would_92 : decode cX7_would 92 = .ok (.tableswitch 96 1 4 #[32, 39, 69, 89], 32) := by decide +kernel
theorem dX7_would_124 : decode cX7_would 124 = .ok (.iload 5, 2) := by decide +kernel
theorem dX7_would_126 : decode cX7_would 126 = .ok (.istore 7, 2) := by decide +kernel
theorem dX7_would_128 : decode cX7_would 128 = .ok (.goto 66, 3) := by decide +kernel
theorem dX7_would_131 : decode cX7_would 131 = .ok (.iload_n 3, 1) := by decide +kernel
theorem dX7_would_132 : decode cX7_would 132 = .ok (.iload 4, 2) := by decide +kernel
theorem dX7_would_134 : decode cX7_would 134 = .ok (.iadd, 1) := by decide +kernel
theorem dX7_would_135 : decode cX7_would 135 = .ok (.ifCond .le 19, 3) := by decide +kernel
theorem dX7_would_138 : decode cX7_would 138 = .ok (.iload 5, 2) := by decide +kernel
theorem dX7_would_140 : decode cX7_would 140 = .ok (.iconst 1, 1) := by decide +kernel
theorem dX7_would_141 : decode cX7_would 141 = .ok (.iload_n 3, 1) := by decide +kernel
theorem dX7_would_142 : decode cX7_would 142 = .ok (.iload 4, 2) := by decide +kernel
theorem dX7_would_144 : decode cX7_would 144 = .ok (.invokestatic 156, 3) := by decide +kernel
theorem dX7_would_147 : decode cX7_would 147 = .ok (.iadd, 1) := by decide +kernel
theorem dX7_would_148 : decode cX7_would 148 = .ok (.invokestatic 156, 3) := by decide +kernel
theorem dX7_would_151 : decode cX7_would 151 = .ok (.goto 5, 3) := by decide +kernel
theorem dX7_would_154 : decode cX7_would 154 = .ok (.iload 5, 2) := by decide +kernel
theorem dX7_would_156 : decode cX7_would 156 = .ok (.istore 7, 2) := by decide +kernel
theorem dX7_would_158 : decode cX7_would 158 = .ok (.goto 36, 3) := by decide +kernel
theorem dX7_would_161 : decode cX7_would 161 = .ok (.aload_n 0, 1) := by decide +kernel
theorem dX7_would_162 : decode cX7_would 162 = .ok (.iconst 3, 1) := by decide +kernel
theorem dX7_would_163 : decode cX7_would 163 = .ok (.iaload, 1) := by decide +kernel
theorem dX7_would_164 : decode cX7_would 164 = .ok (.iconst 2, 1) := by decide +kernel
theorem dX7_would_165 : decode cX7_would 165 = .ok (.irem, 1) := by decide +kernel
theorem dX7_would_166 : decode cX7_would 166 = .ok (.iconst 1, 1) := by decide +kernel
theorem dX7_would_167 : decode cX7_would 167 = .ok (.if_icmp .ne 7, 3) := by decide +kernel
theorem dX7_would_170 : decode cX7_would 170 = .ok (.iconst 0, 1) := by decide +kernel
theorem dX7_would_171 : decode cX7_would 171 = .ok (.goto 5, 3) := by decide +kernel
theorem dX7_would_174 : decode cX7_would 174 = .ok (.iload 5, 2) := by decide +kernel
theorem dX7_would_176 : decode cX7_would 176 = .ok (.istore 7, 2) := by decide +kernel
theorem dX7_would_178 : decode cX7_would 178 = .ok (.goto 16, 3) := by decide +kernel
theorem dX7_would_181 : decode cX7_would 181 = .ok (.iload 6, 2) := by decide +kernel
theorem dX7_would_183 : decode cX7_would 183 = .ok (.istore 7, 2) := by decide +kernel
theorem dX7_would_185 : decode cX7_would 185 = .ok (.goto 9, 3) := by decide +kernel
theorem dX7_would_188 : decode cX7_would 188 = .ok (.iload 6, 2) := by decide +kernel
theorem dX7_would_190 : decode cX7_would 190 = .ok (.iconst 2, 1) := by decide +kernel
theorem dX7_would_191 : decode cX7_would 191 = .ok (.iadd, 1) := by decide +kernel
theorem dX7_would_192 : decode cX7_would 192 = .ok (.istore 7, 2) := by decide +kernel
theorem dX7_would_194 : decode cX7_would 194 = .ok (.iload 7, 2) := by decide +kernel
theorem dX7_would_196 : decode cX7_would 196 = .ok (.bipush 9, 2) := by decide +kernel
theorem dX7_would_198 : decode cX7_would 198 = .ok (.invokestatic 159, 3) := by decide +kernel
theorem dX7_would_201 : decode cX7_would 201 = .ok (.aload_n 0, 1) := by decide +kernel
theorem dX7_would_202 : decode cX7_would 202 = .ok (.iload_n 2, 1) := by decide +kernel
theorem dX7_would_203 : decode cX7_would 203 = .ok (.iconst 2, 1) := by decide +kernel
theorem dX7_would_204 : decode cX7_would 204 = .ok (.iadd, 1) := by decide +kernel
theorem dX7_would_205 : decode cX7_would 205 = .ok (.iaload, 1) := by decide +kernel
theorem dX7_would_206 : decode cX7_would 206 = .ok (.invokestatic 159, 3) := by decide +kernel
theorem dX7_would_209 : decode cX7_would 209 = .ok (.ireturn, 1) := by decide +kernel
set_option maxRecDepth 20000 in
theorem ggX7_passes_X7_would : GoodIn wsX7_passes wsX7_would := goodIn_r _ [6, 7, 8, 5, 9, 10, 11, 12, 13, 14, 15, 16, 17, 18, 19, 20, 21, 22] (by decide +kernel) (by decide +kernel)
set_option maxRecDepth 20000 in
theorem gX7_passes_X7_would : GoodIn wsX7_passes (va_wsS RX7 162 yX7_would wsX7_would) := goodIn_app (goodIn_of _ (by decide +kernel)) ggX7_passes_X7_would
set_option maxRecDepth 20000 in
theorem ggX7_passes_X7_lesser : GoodIn wsX7_passes wsX7_lesser := goodIn_r _ [22] (by decide +kernel) (by decide +kernel)
set_option maxRecDepth 20000 in
theorem gX7_passes_X7_lesser : GoodIn wsX7_passes (va_wsS RX7 159 yX7_lesser wsX7_lesser) := goodIn_app (goodIn_of _ (by decide +kernel)) ggX7_passes_X7_lesser
set_option maxRecDepth 20000 in
theorem ggX7_passes_X7_greater : GoodIn wsX7_passes wsX7_greater := goodIn_r _ [19] (by decide +kernel) (by decide +kernel)
set_option maxRecDepth 20000 in
theorem gX7_passes_X7_greater : GoodIn wsX7_passes (va_wsS RX7 156 yX7_greater wsX7_greater) := goodIn_app (goodIn_of _ (by decide +kernel)) ggX7_passes_X7_greater
theorem dX7_passes_0 : decode cX7_passes 0 = .ok (.iconst 0, 1) := by decide +kernel
theorem dX7_passes_1 : decode cX7_passes 1 = .ok (.istore_n 2, 1) := by decide +kernel
theorem dX7_passes_2 : decode cX7_passes 2 = .ok (.iconst 0, 1) := by decide +kernel
theorem dX7_passes_3 : decode cX7_passes 3 = .ok (.istore_n 3, 1) := by decide +kernel
theorem dX7_passes_4 : decode cX7_passes 4 = .ok (.iconst 0, 1) := by decide +kernel
theorem dX7_passes_5 : decode cX7_passes 5 = .ok (.istore 4, 2) := by decide +kernel
theorem dX7_passes_7 : decode cX7_passes 7 = .ok (.iload 4, 2) := by decide +kernel
theorem dX7_passes_9 : decode cX7_passes 9 = .ok (.aload_n 1, 1) := by decide +kernel
theorem dX7_passes_10 : decode cX7_passes 10 = .ok (.iconst 2, 1) := by decide +kernel
theorem dX7_passes_11 : decode cX7_passes 11 = .ok (.iaload, 1) := by decide +kernel
theorem dX7_passes_12 : decode cX7_passes 12 = .ok (.if_icmp .ge 42, 3) := by decide +kernel
theorem dX7_passes_15 : decode cX7_passes 15 = .ok (.aload_n 0, 1) := by decide +kernel
theorem dX7_passes_16 : decode cX7_passes 16 = .ok (.getfield 44, 3) := by decide +kernel
theorem dX7_passes_19 : decode cX7_passes 19 = .ok (.iload 4, 2) := by decide +kernel
theorem dX7_passes_21 : decode cX7_passes 21 = .ok (.aload_n 1, 1) := by decide +kernel
theorem dX7_passes_22 : decode cX7_passes 22 = .ok (.bipush 6, 2) := by decide +kernel
theorem dX7_passes_24 : decode cX7_passes 24 = .ok (.bipush 7, 2) := by decide +kernel
theorem dX7_passes_26 : decode cX7_passes 26 = .ok (.iload 4, 2) := by decide +kernel
theorem dX7_passes_28 : decode cX7_passes 28 = .ok (.imul, 1) := by decide +kernel
theorem dX7_passes_29 : decode cX7_passes 29 = .ok (.iadd, 1) := by decide +kernel
theorem dX7_passes_30 : decode cX7_passes 30 = .ok (.iconst 5, 1) := by decide +kernel
theorem dX7_passes_31 : decode cX7_passes 31 = .ok (.iadd, 1) := by decide +kernel
theorem dX7_passes_32 : decode cX7_passes 32 = .ok (.iaload, 1) := by decide +kernel
theorem dX7_passes_33 : decode cX7_passes 33 = .ok (.iconst 1, 1) := by decide +kernel
theorem dX7_passes_34 : decode cX7_passes 34 = .ok (.if_icmp .ne 12, 3) := by decide +kernel
theorem dX7_passes_37 : decode cX7_passes 37 = .ok (.aload_n 1, 1) := by decide +kernel
theorem dX7_passes_38 : decode cX7_passes 38 = .ok (.iload 4, 2) := by decide +kernel
theorem dX7_passes_40 : decode cX7_passes 40 = .ok (.invokestatic 162, 3) := by decide +kernel
theorem dX7_passes_43 : decode cX7_passes 43 = .ok (.goto 4, 3) := by decide +kernel
theorem dX7_passes_46 : decode cX7_passes 46 = .ok (.iconst 0, 1) := by decide +kernel
theorem dX7_passes_47 : decode cX7_passes 47 = .ok (.iastore, 1) := by decide +kernel
theorem dX7_passes_48 : decode cX7_passes 48 = .ok (.iinc 4 1, 3) := by decide +kernel
theorem dX7_passes_51 : decode cX7_passes 51 = .ok (.goto (-44), 3) := by decide +kernel
theorem dX7_passes_54 : decode cX7_passes 54 = .ok (.iconst 0, 1) := by decide +kernel
theorem dX7_passes_55 : decode cX7_passes 55 = .ok (.istore 4, 2) := by decide +kernel
theorem dX7_passes_57 : decode cX7_passes 57 = .ok (.iload 4, 2) := by decide +kernel
theorem dX7_passes_59 : decode cX7_passes 59 = .ok (.aload_n 1, 1) := by decide +kernel
theorem dX7_passes_60 : decode cX7_passes 60 = .ok (.iconst 2, 1) := by decide +kernel
theorem dX7_passes_61 : decode cX7_passes 61 = .ok (.iaload, 1) := by decide +kernel
theorem dX7_passes_62 : decode cX7_passes 62 = .ok (.if_icmp .ge 131, 3) := by decide +kernel
theorem dX7_passes_65 : decode cX7_passes 65 = .ok (.bipush 6, 2) := by decide +kernel
theorem dX7_passes_67 : decode cX7_passes 67 = .ok (.bipush 7, 2) := by decide +kernel
theorem dX7_passes_69 : decode cX7_passes 69 = .ok (.iload 4, 2) := by decide +kernel
theorem dX7_passes_71 : decode cX7_passes 71 = .ok (.imul, 1) := by decide +kernel
theorem dX7_passes_72 : decode cX7_passes 72 = .ok (.iadd, 1) := by decide +kernel
theorem dX7_passes_73 : decode cX7_passes 73 = .ok (.istore 5, 2) := by decide +kernel
theorem dX7_passes_75 : decode cX7_passes 75 = .ok (.aload_n 1, 1) := by decide +kernel
theorem dX7_passes_76 : decode cX7_passes 76 = .ok (.iload 5, 2) := by decide +kernel
theorem dX7_passes_78 : decode cX7_passes 78 = .ok (.bipush 6, 2) := by decide +kernel
theorem dX7_passes_80 : decode cX7_passes 80 = .ok (.iadd, 1) := by decide +kernel
theorem dX7_passes_81 : decode cX7_passes 81 = .ok (.aload_n 0, 1) := by decide +kernel
theorem dX7_passes_82 : decode cX7_passes 82 = .ok (.getfield 44, 3) := by decide +kernel
theorem dX7_passes_85 : decode cX7_passes 85 = .ok (.iload 4, 2) := by decide +kernel
theorem dX7_passes_87 : decode cX7_passes 87 = .ok (.iaload, 1) := by decide +kernel
theorem dX7_passes_88 : decode cX7_passes 88 = .ok (.iastore, 1) := by decide +kernel
theorem dX7_passes_89 : decode cX7_passes 89 = .ok (.aload_n 1, 1) := by decide +kernel
theorem dX7_passes_90 : decode cX7_passes 90 = .ok (.iload 5, 2) := by decide +kernel
theorem dX7_passes_92 : decode cX7_passes 92 = .ok (.iconst 2, 1) := by decide +kernel
theorem dX7_passes_93 : decode cX7_passes 93 = .ok (.iadd, 1) := by decide +kernel
theorem dX7_passes_94 : decode cX7_passes 94 = .ok (.dup2, 1) := by decide +kernel
theorem dX7_passes_95 : decode cX7_passes 95 = .ok (.iaload, 1) := by decide +kernel
theorem dX7_passes_96 : decode cX7_passes 96 = .ok (.aload_n 0, 1) := by decide +kernel
theorem dX7_passes_97 : decode cX7_passes 97 = .ok (.getfield 44, 3) := by decide +kernel
theorem dX7_passes_100 : decode cX7_passes 100 = .ok (.iload 4, 2) := by decide +kernel
theorem dX7_passes_102 : decode cX7_passes 102 = .ok (.iaload, 1) := by decide +kernel
theorem dX7_passes_103 : decode cX7_passes 103 = .ok (.isub, 1) := by decide +kernel
theorem dX7_passes_104 : decode cX7_passes 104 = .ok (.iastore, 1) := by decide +kernel
theorem dX7_passes_105 : decode cX7_passes 105 = .ok (.iload_n 2, 1) := by decide +kernel
theorem dX7_passes_106 : decode cX7_passes 106 = .ok (.aload_n 1, 1) := by decide +kernel
theorem dX7_passes_107 : decode cX7_passes 107 = .ok (.iload 5, 2) := by decide +kernel
theorem dX7_passes_109 : decode cX7_passes 109 = .ok (.iaload, 1) := by decide +kernel
theorem dX7_passes_110 : decode cX7_passes 110 = .ok (.iconst 5, 1) := by decide +kernel
theorem dX7_passes_111 : decode cX7_passes 111 = .ok (.if_icmp .ne 7, 3) := by decide +kernel
theorem dX7_passes_114 : decode cX7_passes 114 = .ok (.iconst 0, 1) := by decide +kernel
theorem dX7_passes_115 : decode cX7_passes 115 = .ok (.goto 10, 3) := by decide +kernel
theorem dX7_passes_118 : decode cX7_passes 118 = .ok (.aload_n 0, 1) := by decide +kernel
theorem dX7_passes_119 : decode cX7_passes 119 = .ok (.getfield 44, 3) := by decide +kernel
theorem dX7_passes_122 : decode cX7_passes 122 = .ok (.iload 4, 2) := by decide +kernel
theorem dX7_passes_124 : decode cX7_passes 124 = .ok (.iaload, 1) := by decide +kernel
theorem dX7_passes_125 : decode cX7_passes 125 = .ok (.iadd, 1) := by decide +kernel
theorem dX7_passes_126 : decode cX7_passes 126 = .ok (.istore_n 2, 1) := by decide +kernel
theorem dX7_passes_127 : decode cX7_passes 127 = .ok (.iload_n 3, 1) := by decide +kernel
theorem dX7_passes_128 : decode cX7_passes 128 = .ok (.aload_n 1, 1) := by decide +kernel
theorem dX7_passes_129 : decode cX7_passes 129 = .ok (.iload 5, 2) := by decide +kernel
theorem dX7_passes_131 : decode cX7_passes 131 = .ok (.iaload, 1) := by decide +kernel
theorem dX7_passes_132 : decode cX7_passes 132 = .ok (.iconst 5, 1) := by decide +kernel
theorem dX7_passes_133 : decode cX7_passes 133 = .ok (.if_icmp .ne 13, 3) := by decide +kernel
theorem dX7_passes_136 : decode cX7_passes 136 = .ok (.aload_n 0, 1) := by decide +kernel
theorem dX7_passes_137 : decode cX7_passes 137 = .ok (.getfield 44, 3) := by decide +kernel
theorem dX7_passes_140 : decode cX7_passes 140 = .ok (.iload 4, 2) := by decide +kernel
theorem dX7_passes_142 : decode cX7_passes 142 = .ok (.iaload, 1) := by decide +kernel
theorem dX7_passes_143 : decode cX7_passes 143 = .ok (.goto 4, 3) := by decide +kernel
theorem dX7_passes_146 : decode cX7_passes 146 = .ok (.iconst 0, 1) := by decide +kernel
theorem dX7_passes_147 : decode cX7_passes 147 = .ok (.iadd, 1) := by decide +kernel
theorem dX7_passes_148 : decode cX7_passes 148 = .ok (.istore_n 3, 1) := by decide +kernel
theorem dX7_passes_149 : decode cX7_passes 149 = .ok (.aload_n 1, 1) := by decide +kernel
theorem dX7_passes_150 : decode cX7_passes 150 = .ok (.iconst 5, 1) := by decide +kernel
theorem dX7_passes_151 : decode cX7_passes 151 = .ok (.ldc 165, 2) := by decide +kernel
theorem dX7_passes_153 : decode cX7_passes 153 = .ok (.aload_n 1, 1) := by decide +kernel
theorem dX7_passes_154 : decode cX7_passes 154 = .ok (.iconst 5, 1) := by decide +kernel
theorem dX7_passes_155 : decode cX7_passes 155 = .ok (.iaload, 1) := by decide +kernel
theorem dX7_passes_156 : decode cX7_passes 156 = .ok (.aload_n 1, 1) := by decide +kernel
theorem dX7_passes_157 : decode cX7_passes 157 = .ok (.iload 5, 2) := by decide +kernel
theorem dX7_passes_159 : decode cX7_passes 159 = .ok (.iaload, 1) := by decide +kernel
theorem dX7_passes_160 : decode cX7_passes 160 = .ok (.iconst 5, 1) := by decide +kernel
theorem dX7_passes_161 : decode cX7_passes 161 = .ok (.if_icmp .ne 7, 3) := by decide +kernel
theorem dX7_passes_164 : decode cX7_passes 164 = .ok (.iconst 0, 1) := by decide +kernel
theorem dX7_passes_165 : decode cX7_passes 165 = .ok (.goto 17, 3) := by decide +kernel
theorem dX7_passes_168 : decode cX7_passes 168 = .ok (.aload_n 0, 1) := by decide +kernel
theorem dX7_passes_169 : decode cX7_passes 169 = .ok (.getfield 44, 3) := by decide +kernel
theorem dX7_passes_172 : decode cX7_passes 172 = .ok (.iload 4, 2) := by decide +kernel
theorem dX7_passes_174 : decode cX7_passes 174 = .ok (.iaload, 1) := by decide +kernel
theorem dX7_passes_175 : decode cX7_passes 175 = .ok (.aload_n 1, 1) := by decide +kernel
theorem dX7_passes_176 : decode cX7_passes 176 = .ok (.iload 5, 2) := by decide +kernel
theorem dX7_passes_178 : decode cX7_passes 178 = .ok (.iconst 3, 1) := by decide +kernel
theorem dX7_passes_179 : decode cX7_passes 179 = .ok (.iadd, 1) := by decide +kernel
theorem dX7_passes_180 : decode cX7_passes 180 = .ok (.iaload, 1) := by decide +kernel
theorem dX7_passes_181 : decode cX7_passes 181 = .ok (.imul, 1) := by decide +kernel
theorem dX7_passes_182 : decode cX7_passes 182 = .ok (.iadd, 1) := by decide +kernel
theorem dX7_passes_183 : decode cX7_passes 183 = .ok (.invokestatic 159, 3) := by decide +kernel
theorem dX7_passes_186 : decode cX7_passes 186 = .ok (.iastore, 1) := by decide +kernel
theorem dX7_passes_187 : decode cX7_passes 187 = .ok (.iinc 4 1, 3) := by decide +kernel
theorem dX7_passes_190 : decode cX7_passes 190 = .ok (.goto (-133), 3) := by decide +kernel
theorem dX7_passes_193 : decode cX7_passes 193 = .ok (.aload_n 1, 1) := by decide +kernel
theorem dX7_passes_194 : decode cX7_passes 194 = .ok (.iconst 4, 1) := by decide +kernel
theorem dX7_passes_195 : decode cX7_passes 195 = .ok (.iconst 0, 1) := by decide +kernel
theorem dX7_passes_196 : decode cX7_passes 196 = .ok (.sipush 999, 3) := by decide +kernel
theorem dX7_passes_199 : decode cX7_passes 199 = .ok (.aload_n 1, 1) := by decide +kernel
theorem dX7_passes_200 : decode cX7_passes 200 = .ok (.iconst 4, 1) := by decide +kernel
theorem dX7_passes_201 : decode cX7_passes 201 = .ok (.iaload, 1) := by decide +kernel
theorem dX7_passes_202 : decode cX7_passes 202 = .ok (.iload_n 2, 1) := by decide +kernel
theorem dX7_passes_203 : decode cX7_passes 203 = .ok (.iadd, 1) := by decide +kernel
theorem dX7_passes_204 : decode cX7_passes 204 = .ok (.invokestatic 159, 3) := by decide +kernel
theorem dX7_passes_207 : decode cX7_passes 207 = .ok (.iload_n 3, 1) := by decide +kernel
theorem dX7_passes_208 : decode cX7_passes 208 = .ok (.isub, 1) := by decide +kernel
theorem dX7_passes_209 : decode cX7_passes 209 = .ok (.invokestatic 156, 3) := by decide +kernel
theorem dX7_passes_212 : decode cX7_passes 212 = .ok (.iastore, 1) := by decide +kernel
theorem dX7_passes_213 : decode cX7_passes 213 = .ok (.aload_n 1, 1) := by decide +kernel
theorem dX7_passes_214 : decode cX7_passes 214 = .ok (.iconst 3, 1) := by decide +kernel
theorem dX7_passes_215 : decode cX7_passes 215 = .ok (.dup2, 1) := by decide +kernel
theorem dX7_passes_216 : decode cX7_passes 216 = .ok (.iaload, 1) := by decide +kernel
theorem dX7_passes_217 : decode cX7_passes 217 = .ok (.iconst 1, 1) := by decide +kernel
theorem dX7_passes_218 : decode cX7_passes 218 = .ok (.iadd, 1) := by decide +kernel
theorem dX7_passes_219 : decode cX7_passes 219 = .ok (.iastore, 1) := by decide +kernel
theorem dX7_passes_220 : decode cX7_passes 220 = .ok (.return_, 1) := by decide +kernel
theorem dX7_hires_0 : decode cX7_hires 0 = .ok (.aload_n 0, 1) := by decide +kernel
theorem dX7_hires_1 : decode cX7_hires 1 = .ok (.bipush 6, 2) := by decide +kernel
theorem dX7_hires_3 : decode cX7_hires 3 = .ok (.bipush 7, 2) := by decide +kernel
theorem dX7_hires_5 : decode cX7_hires 5 = .ok (.iload_n 1, 1) := by decide +kernel
theorem dX7_hires_6 : decode cX7_hires 6 = .ok (.imul, 1) := by decide +kernel
theorem dX7_hires_7 : decode cX7_hires 7 = .ok (.iadd, 1) := by decide +kernel
theorem dX7_hires_8 : decode cX7_hires 8 = .ok (.iconst 5, 1) := by decide +kernel
theorem dX7_hires_9 : decode cX7_hires 9 = .ok (.iadd, 1) := by decide +kernel
theorem dX7_hires_10 : decode cX7_hires 10 = .ok (.iaload, 1) := by decide +kernel
theorem dX7_hires_11 : decode cX7_hires 11 = .ok (.iload_n 2, 1) := by decide +kernel
theorem dX7_hires_12 : decode cX7_hires 12 = .ok (.if_icmp .eq 28, 3) := by decide +kernel
theorem dX7_hires_15 : decode cX7_hires 15 = .ok (.aload_n 0, 1) := by decide +kernel
theorem dX7_hires_16 : decode cX7_hires 16 = .ok (.bipush 6, 2) := by decide +kernel
theorem dX7_hires_18 : decode cX7_hires 18 = .ok (.bipush 7, 2) := by decide +kernel
theorem dX7_hires_20 : decode cX7_hires 20 = .ok (.iload_n 1, 1) := by decide +kernel
theorem dX7_hires_21 : decode cX7_hires 21 = .ok (.imul, 1) := by decide +kernel
theorem dX7_hires_22 : decode cX7_hires 22 = .ok (.iadd, 1) := by decide +kernel
theorem dX7_hires_23 : decode cX7_hires 23 = .ok (.iconst 5, 1) := by decide +kernel
theorem dX7_hires_24 : decode cX7_hires 24 = .ok (.iadd, 1) := by decide +kernel
theorem dX7_hires_25 : decode cX7_hires 25 = .ok (.iload_n 2, 1) := by decide +kernel
theorem dX7_hires_26 : decode cX7_hires 26 = .ok (.iastore, 1) := by decide +kernel
theorem dX7_hires_27 : decode cX7_hires 27 = .ok (.aload_n 0, 1) := by decide +kernel
theorem dX7_hires_28 : decode cX7_hires 28 = .ok (.bipush 6, 2) := by decide +kernel
theorem dX7_hires_30 : decode cX7_hires 30 = .ok (.bipush 7, 2) := by decide +kernel
theorem dX7_hires_32 : decode cX7_hires 32 = .ok (.iload_n 1, 1) := by decide +kernel
theorem dX7_hires_33 : decode cX7_hires 33 = .ok (.imul, 1) := by decide +kernel
theorem dX7_hires_34 : decode cX7_hires 34 = .ok (.iadd, 1) := by decide +kernel
theorem dX7_hires_35 : decode cX7_hires 35 = .ok (.bipush 6, 2) := by decide +kernel
theorem dX7_hires_37 : decode cX7_hires 37 = .ok (.iadd, 1) := by decide +kernel
theorem dX7_hires_38 : decode cX7_hires 38 = .ok (.iconst 0, 1) := by decide +kernel
theorem dX7_hires_39 : decode cX7_hires 39 = .ok (.iastore, 1) := by decide +kernel
theorem dX7_hires_40 : decode cX7_hires 40 = .ok (.return_, 1) := by decide +kernel
theorem dX7_changes_0 : decode cX7_changes 0 = .ok (.aload_n 0, 1) := by decide +kernel
theorem dX7_changes_1 : decode cX7_changes 1 = .ok (.bipush 6, 2) := by decide +kernel
theorem dX7_changes_3 : decode cX7_changes 3 = .ok (.bipush 7, 2) := by decide +kernel
theorem dX7_changes_5 : decode cX7_changes 5 = .ok (.iload_n 1, 1) := by decide +kernel
theorem dX7_changes_6 : decode cX7_changes 6 = .ok (.imul, 1) := by decide +kernel
theorem dX7_changes_7 : decode cX7_changes 7 = .ok (.iadd, 1) := by decide +kernel
theorem dX7_changes_8 : decode cX7_changes 8 = .ok (.iconst 4, 1) := by decide +kernel
theorem dX7_changes_9 : decode cX7_changes 9 = .ok (.iadd, 1) := by decide +kernel
theorem dX7_changes_10 : decode cX7_changes 10 = .ok (.iaload, 1) := by decide +kernel
theorem dX7_changes_11 : decode cX7_changes 11 = .ok (.istore_n 3, 1) := by decide +kernel
theorem dX7_changes_12 : decode cX7_changes 12 = .ok (.aload_n 0, 1) := by decide +kernel
theorem dX7_changes_13 : decode cX7_changes 13 = .ok (.bipush 6, 2) := by decide +kernel
theorem dX7_changes_15 : decode cX7_changes 15 = .ok (.bipush 7, 2) := by decide +kernel
theorem dX7_changes_17 : decode cX7_changes 17 = .ok (.iload_n 1, 1) := by decide +kernel
theorem dX7_changes_18 : decode cX7_changes 18 = .ok (.imul, 1) := by decide +kernel
theorem dX7_changes_19 : decode cX7_changes 19 = .ok (.iadd, 1) := by decide +kernel
theorem dX7_changes_20 : decode cX7_changes 20 = .ok (.iconst 4, 1) := by decide +kernel
theorem dX7_changes_21 : decode cX7_changes 21 = .ok (.iadd, 1) := by decide +kernel
theorem dX7_changes_22 : decode cX7_changes 22 = .ok (.aload_n 0, 1) := by decide +kernel
theorem dX7_changes_23 : decode cX7_changes 23 = .ok (.bipush 6, 2) := by decide +kernel
theorem dX7_changes_25 : decode cX7_changes 25 = .ok (.bipush 7, 2) := by decide +kernel
theorem dX7_changes_27 : decode cX7_changes 27 = .ok (.iload_n 2, 1) := by decide +kernel
theorem dX7_changes_28 : decode cX7_changes 28 = .ok (.imul, 1) := by decide +kernel
theorem dX7_changes_29 : decode cX7_changes 29 = .ok (.iadd, 1) := by decide +kernel
theorem dX7_changes_30 : decode cX7_changes 30 = .ok (.iconst 4, 1) := by decide +kernel
theorem dX7_changes_31 : decode cX7_changes 31 = .ok (.iadd, 1) := by decide +kernel
theorem dX7_changes_32 : decode cX7_changes 32 = .ok (.iaload, 1) := by decide +kernel
theorem dX7_changes_33 : decode cX7_changes 33 = .ok (.iastore, 1) := by decide +kernel
theorem dX7_changes_34 : decode cX7_changes 34 = .ok (.aload_n 0, 1) := by decide +kernel
theorem dX7_changes_35 : decode cX7_changes 35 = .ok (.bipush 6, 2) := by decide +kernel
theorem dX7_changes_37 : decode cX7_changes 37 = .ok (.bipush 7, 2) := by decide +kernel
theorem dX7_changes_39 : decode cX7_changes 39 = .ok (.iload_n 2, 1) := by decide +kernel
theorem dX7_changes_40 : decode cX7_changes 40 = .ok (.imul, 1) := by decide +kernel
theorem dX7_changes_41 : decode cX7_changes 41 = .ok (.iadd, 1) := by decide +kernel
theorem dX7_changes_42 : decode cX7_changes 42 = .ok (.iconst 4, 1) := by decide +kernel
theorem dX7_changes_43 : decode cX7_changes 43 = .ok (.iadd, 1) := by decide +kernel
theorem dX7_changes_44 : decode cX7_changes 44 = .ok (.iload_n 3, 1) := by decide +kernel
theorem dX7_changes_45 : decode cX7_changes 45 = .ok (.iastore, 1) := by decide +kernel
theorem dX7_changes_46 : decode cX7_changes 46 = .ok (.return_, 1) := by decide +kernel
theorem dX7_hired_0 : decode cX7_hired 0 = .ok (.iconst 0, 1) := by decide +kernel
theorem dX7_hired_1 : decode cX7_hired 1 = .ok (.istore_n 1, 1) := by decide +kernel
theorem dX7_hired_2 : decode cX7_hired 2 = .ok (.iconst 0, 1) := by decide +kernel
theorem dX7_hired_3 : decode cX7_hired 3 = .ok (.istore_n 2, 1) := by decide +kernel
theorem dX7_hired_4 : decode cX7_hired 4 = .ok (.iload_n 2, 1) := by decide +kernel
theorem dX7_hired_5 : decode cX7_hired 5 = .ok (.aload_n 0, 1) := by decide +kernel
theorem dX7_hired_6 : decode cX7_hired 6 = .ok (.getfield 25, 3) := by decide +kernel
theorem dX7_hired_9 : decode cX7_hired 9 = .ok (.iconst 2, 1) := by decide +kernel
theorem dX7_hired_10 : decode cX7_hired 10 = .ok (.iaload, 1) := by decide +kernel
theorem dX7_hired_11 : decode cX7_hired 11 = .ok (.if_icmp .ge 28, 3) := by decide +kernel
theorem dX7_hired_14 : decode cX7_hired 14 = .ok (.iload_n 1, 1) := by decide +kernel
theorem dX7_hired_15 : decode cX7_hired 15 = .ok (.aload_n 0, 1) := by decide +kernel
theorem dX7_hired_16 : decode cX7_hired 16 = .ok (.getfield 25, 3) := by decide +kernel
theorem dX7_hired_19 : decode cX7_hired 19 = .ok (.bipush 6, 2) := by decide +kernel
theorem dX7_hired_21 : decode cX7_hired 21 = .ok (.bipush 7, 2) := by decide +kernel
theorem dX7_hired_23 : decode cX7_hired 23 = .ok (.iload_n 2, 1) := by decide +kernel
theorem dX7_hired_24 : decode cX7_hired 24 = .ok (.imul, 1) := by decide +kernel
theorem dX7_hired_25 : decode cX7_hired 25 = .ok (.iadd, 1) := by decide +kernel
theorem dX7_hired_26 : decode cX7_hired 26 = .ok (.iconst 5, 1) := by decide +kernel
theorem dX7_hired_27 : decode cX7_hired 27 = .ok (.iadd, 1) := by decide +kernel
theorem dX7_hired_28 : decode cX7_hired 28 = .ok (.iaload, 1) := by decide +kernel
theorem dX7_hired_29 : decode cX7_hired 29 = .ok (.iload_n 2, 1) := by decide +kernel
theorem dX7_hired_30 : decode cX7_hired 30 = .ok (.ishl, 1) := by decide +kernel
theorem dX7_hired_31 : decode cX7_hired 31 = .ok (.ior, 1) := by decide +kernel
theorem dX7_hired_32 : decode cX7_hired 32 = .ok (.istore_n 1, 1) := by decide +kernel
theorem dX7_hired_33 : decode cX7_hired 33 = .ok (.iinc 2 1, 3) := by decide +kernel
theorem dX7_hired_36 : decode cX7_hired 36 = .ok (.goto (-32), 3) := by decide +kernel
theorem dX7_hired_39 : decode cX7_hired 39 = .ok (.iload_n 1, 1) := by decide +kernel
theorem dX7_hired_40 : decode cX7_hired 40 = .ok (.ireturn, 1) := by decide +kernel
set_option maxRecDepth 20000 in
theorem ggX7_notes_X7_copies : GoodIn wsX7_notes wsX7_copies := goodIn_r _ [7] (by decide +kernel) (by decide +kernel)
set_option maxRecDepth 20000 in
theorem gX7_notes_X7_copies : GoodIn wsX7_notes (va_wsS RX7 138 yX7_copies wsX7_copies) := goodIn_app (goodIn_of _ (by decide +kernel)) ggX7_notes_X7_copies
theorem dX7_notes_0 : decode cX7_notes 0 = .ok (.aload_n 0, 1) := by decide +kernel
theorem dX7_notes_1 : decode cX7_notes 1 = .ok (.getfield 142, 3) := by decide +kernel
theorem dX7_notes_4 : decode cX7_notes 4 = .ok (.bipush 24, 2) := by decide +kernel
theorem dX7_notes_6 : decode cX7_notes 6 = .ok (.if_icmp .ne 43, 3) := by decide +kernel
theorem dX7_notes_9 : decode cX7_notes 9 = .ok (.iconst 0, 1) := by decide +kernel
theorem dX7_notes_10 : decode cX7_notes 10 = .ok (.istore_n 1, 1) := by decide +kernel
theorem dX7_notes_11 : decode cX7_notes 11 = .ok (.iload_n 1, 1) := by decide +kernel
theorem dX7_notes_12 : decode cX7_notes 12 = .ok (.sipush 1265, 3) := by decide +kernel
theorem dX7_notes_15 : decode cX7_notes 15 = .ok (.if_icmp .ge 24, 3) := by decide +kernel
theorem dX7_notes_18 : decode cX7_notes 18 = .ok (.aload_n 0, 1) := by decide +kernel
theorem dX7_notes_19 : decode cX7_notes 19 = .ok (.getfield 34, 3) := by decide +kernel
theorem dX7_notes_22 : decode cX7_notes 22 = .ok (.iload_n 1, 1) := by decide +kernel
theorem dX7_notes_23 : decode cX7_notes 23 = .ok (.aload_n 0, 1) := by decide +kernel
theorem dX7_notes_24 : decode cX7_notes 24 = .ok (.getfield 34, 3) := by decide +kernel
theorem dX7_notes_27 : decode cX7_notes 27 = .ok (.iload_n 1, 1) := by decide +kernel
theorem dX7_notes_28 : decode cX7_notes 28 = .ok (.bipush 55, 2) := by decide +kernel
theorem dX7_notes_30 : decode cX7_notes 30 = .ok (.iadd, 1) := by decide +kernel
theorem dX7_notes_31 : decode cX7_notes 31 = .ok (.iaload, 1) := by decide +kernel
theorem dX7_notes_32 : decode cX7_notes 32 = .ok (.iastore, 1) := by decide +kernel
theorem dX7_notes_33 : decode cX7_notes 33 = .ok (.iinc 1 1, 3) := by decide +kernel
theorem dX7_notes_36 : decode cX7_notes 36 = .ok (.goto (-25), 3) := by decide +kernel
theorem dX7_notes_39 : decode cX7_notes 39 = .ok (.aload_n 0, 1) := by decide +kernel
theorem dX7_notes_40 : decode cX7_notes 40 = .ok (.dup, 1) := by decide +kernel
theorem dX7_notes_41 : decode cX7_notes 41 = .ok (.getfield 142, 3) := by decide +kernel
theorem dX7_notes_44 : decode cX7_notes 44 = .ok (.iconst 1, 1) := by decide +kernel
theorem dX7_notes_45 : decode cX7_notes 45 = .ok (.isub, 1) := by decide +kernel
theorem dX7_notes_46 : decode cX7_notes 46 = .ok (.putfield 142, 3) := by decide +kernel
theorem dX7_notes_49 : decode cX7_notes 49 = .ok (.aload_n 0, 1) := by decide +kernel
theorem dX7_notes_50 : decode cX7_notes 50 = .ok (.getfield 25, 3) := by decide +kernel
theorem dX7_notes_53 : decode cX7_notes 53 = .ok (.iconst 0, 1) := by decide +kernel
theorem dX7_notes_54 : decode cX7_notes 54 = .ok (.aload_n 0, 1) := by decide +kernel
theorem dX7_notes_55 : decode cX7_notes 55 = .ok (.getfield 34, 3) := by decide +kernel
theorem dX7_notes_58 : decode cX7_notes 58 = .ok (.bipush 55, 2) := by decide +kernel
theorem dX7_notes_60 : decode cX7_notes 60 = .ok (.aload_n 0, 1) := by decide +kernel
theorem dX7_notes_61 : decode cX7_notes 61 = .ok (.getfield 142, 3) := by decide +kernel
theorem dX7_notes_64 : decode cX7_notes 64 = .ok (.imul, 1) := by decide +kernel
theorem dX7_notes_65 : decode cX7_notes 65 = .ok (.invokestatic 138, 3) := by decide +kernel
theorem dX7_notes_68 : decode cX7_notes 68 = .ok (.aload_n 0, 1) := by decide +kernel
theorem dX7_notes_69 : decode cX7_notes 69 = .ok (.dup, 1) := by decide +kernel
theorem dX7_notes_70 : decode cX7_notes 70 = .ok (.getfield 142, 3) := by decide +kernel
theorem dX7_notes_73 : decode cX7_notes 73 = .ok (.iconst 1, 1) := by decide +kernel
theorem dX7_notes_74 : decode cX7_notes 74 = .ok (.iadd, 1) := by decide +kernel
theorem dX7_notes_75 : decode cX7_notes 75 = .ok (.putfield 142, 3) := by decide +kernel
theorem dX7_notes_78 : decode cX7_notes 78 = .ok (.return_, 1) := by decide +kernel
set_option maxRecDepth 20000 in
theorem ggX7_minutes_X7_isWedding : GoodIn wsX7_minutes wsX7_isWedding := goodIn_r _ [9, 3, 47, 48, 49, 50, 51, 52, 53, 54, 55, 56, 57, 58, 59, 60, 61, 62, 63, 64, 65, 66, 67, 68, 69, 70] (by decide +kernel) (by decide +kernel)
set_option maxRecDepth 20000 in
theorem gX7_minutes_X7_isWedding : GoodIn wsX7_minutes (wsV RX7 166 RX7 yX7_isWedding wsX7_isWedding) := goodIn_app (goodIn_of _ (by decide +kernel)) ggX7_minutes_X7_isWedding
set_option maxRecDepth 20000 in
theorem ggX7_minutes_X7_in : GoodIn wsX7_minutes wsX7_in := goodIn_r _ [12] (by decide +kernel) (by decide +kernel)
set_option maxRecDepth 20000 in
theorem gX7_minutes_X7_in : GoodIn wsX7_minutes (va_wsS RX7 59 yX7_in wsX7_in) := goodIn_app (goodIn_of _ (by decide +kernel)) ggX7_minutes_X7_in
set_option maxRecDepth 20000 in
theorem ggX7_minutes_X7_notes : GoodIn wsX7_minutes wsX7_notes := goodIn_r _ [16, 17, 18, 3, 19, 20, 8, 21, 47, 48, 49, 50, 51, 52, 53, 54, 55, 56, 57, 58, 59, 60, 61, 62, 63, 64, 65, 66, 67, 68, 69, 70] (by decide +kernel) (by decide +kernel)
set_option maxRecDepth 20000 in
theorem gX7_minutes_X7_notes : GoodIn wsX7_minutes (wsV RX7 170 RX7 yX7_notes wsX7_notes) := goodIn_app (goodIn_of _ (by decide +kernel)) ggX7_minutes_X7_notes
set_option maxRecDepth 20000 in
theorem ggX7_minutes_X7_passes : GoodIn wsX7_minutes wsX7_passes := goodIn_r _ [25, 26, 27, 28, 29, 8, 30, 31, 32, 33, 34, 35, 36, 37, 38, 39, 40, 41, 42, 43, 44, 45, 46, 47, 48, 49, 50, 51, 52, 53, 54, 55, 56, 57, 58, 59, 60, 61, 62, 63, 64, 65, 66, 67, 68, 69, 70] (by decide +kernel) (by decide +kernel)
set_option maxRecDepth 20000 in
theorem gX7_minutes_X7_passes : GoodIn wsX7_minutes (wsV RX7 173 RX7 yX7_passes wsX7_passes) := goodIn_app (goodIn_of _ (by decide +kernel)) ggX7_minutes_X7_passes
theorem dX7_minutes_0 : decode cX7_minutes 0 = .ok (.aload_n 0, 1) := by decide +kernel
theorem dX7_minutes_1 : decode cX7_minutes 1 = .ok (.invokevirtual 166, 3) := by decide +kernel
theorem dX7_minutes_4 : decode cX7_minutes 4 = .ok (.ifCond .ne 6, 3) := by decide +kernel
theorem dX7_minutes_7 : decode cX7_minutes 7 = .ok (.ldc 169, 2) := by decide +kernel
theorem dX7_minutes_9 : decode cX7_minutes 9 = .ok (.ireturn, 1) := by decide +kernel
theorem dX7_minutes_10 : decode cX7_minutes 10 = .ok (.iload_n 1, 1) := by decide +kernel
theorem dX7_minutes_11 : decode cX7_minutes 11 = .ok (.iconst 1, 1) := by decide +kernel
theorem dX7_minutes_12 : decode cX7_minutes 12 = .ok (.bipush 24, 2) := by decide +kernel
theorem dX7_minutes_14 : decode cX7_minutes 14 = .ok (.invokestatic 59, 3) := by decide +kernel
theorem dX7_minutes_17 : decode cX7_minutes 17 = .ok (.ifCond .ne 6, 3) := by decide +kernel
theorem dX7_minutes_20 : decode cX7_minutes 20 = .ok (.ldc 67, 2) := by decide +kernel
theorem dX7_minutes_22 : decode cX7_minutes 22 = .ok (.ireturn, 1) := by decide +kernel
theorem dX7_minutes_23 : decode cX7_minutes 23 = .ok (.aload_n 0, 1) := by decide +kernel
theorem dX7_minutes_24 : decode cX7_minutes 24 = .ok (.getfield 25, 3) := by decide +kernel
theorem dX7_minutes_27 : decode cX7_minutes 27 = .ok (.iconst 3, 1) := by decide +kernel
theorem dX7_minutes_28 : decode cX7_minutes 28 = .ok (.iaload, 1) := by decide +kernel
theorem dX7_minutes_29 : decode cX7_minutes 29 = .ok (.iload_n 1, 1) := by decide +kernel
theorem dX7_minutes_30 : decode cX7_minutes 30 = .ok (.iadd, 1) := by decide +kernel
theorem dX7_minutes_31 : decode cX7_minutes 31 = .ok (.sipush 9999, 3) := by decide +kernel
theorem dX7_minutes_34 : decode cX7_minutes 34 = .ok (.if_icmp .le 6, 3) := by decide +kernel
theorem dX7_minutes_37 : decode cX7_minutes 37 = .ok (.ldc 88, 2) := by decide +kernel
theorem dX7_minutes_39 : decode cX7_minutes 39 = .ok (.ireturn, 1) := by decide +kernel
theorem dX7_minutes_40 : decode cX7_minutes 40 = .ok (.iconst 0, 1) := by decide +kernel
