theorem dX5_engage_7 : decode cX5_engage 7 = .ok (.iload_n 2, 1) := by decide +kernel
theorem dX5_engage_8 : decode cX5_engage 8 = .ok (.aload_n 0, 1) := by decide +kernel
theorem dX5_engage_9 : decode cX5_engage 9 = .ok (.getfield 36, 3) := by decide +kernel
theorem dX5_engage_12 : decode cX5_engage 12 = .ok (.if_icmp .ge 24, 3) := by decide +kernel
theorem dX5_engage_15 : decode cX5_engage 15 = .ok (.aload_n 0, 1) := by decide +kernel
theorem dX5_engage_16 : decode cX5_engage 16 = .ok (.iload_n 2, 1) := by decide +kernel
theorem dX5_engage_17 : decode cX5_engage 17 = .ok (.invokevirtual 64, 3) := by decide +kernel
theorem dX5_engage_20 : decode cX5_engage 20 = .ok (.ifCond .ne 10, 3) := by decide +kernel
theorem dX5_engage_23 : decode cX5_engage 23 = .ok (.aload_n 0, 1) := by decide +kernel
theorem dX5_engage_24 : decode cX5_engage 24 = .ok (.getfield 24, 3) := by decide +kernel
theorem dX5_engage_27 : decode cX5_engage 27 = .ok (.iload_n 2, 1) := by decide +kernel
theorem dX5_engage_28 : decode cX5_engage 28 = .ok (.iconst 0, 1) := by decide +kernel
theorem dX5_engage_29 : decode cX5_engage 29 = .ok (.iastore, 1) := by decide +kernel
theorem dX5_engage_30 : decode cX5_engage 30 = .ok (.iinc 2 1, 3) := by decide +kernel
theorem dX5_engage_33 : decode cX5_engage 33 = .ok (.goto (-26), 3) := by decide +kernel
theorem dX5_engage_36 : decode cX5_engage 36 = .ok (.return_, 1) := by decide +kernel
set_option maxRecDepth 20000 in
theorem ggX5_trade_X5_sit : GoodIn wsX5_trade wsX5_sit := goodIn_r _ [6, 1, 7, 8, 9, 10, 11, 12, 13, 14, 15, 16, 17, 18, 19, 20, 21, 22] (by decide +kernel) (by decide +kernel)
set_option maxRecDepth 20000 in
theorem gX5_trade_X5_sit : GoodIn wsX5_trade (wsV RX5 68 RX5 yX5_sit wsX5_sit) := goodIn_app (goodIn_of _ (by decide +kernel)) ggX5_trade_X5_sit
theorem dX5_trade_0 : decode cX5_trade 0 = .ok (.aload_n 0, 1) := by decide +kernel
theorem dX5_trade_1 : decode cX5_trade 1 = .ok (.getfield 27, 3) := by decide +kernel
theorem dX5_trade_4 : decode cX5_trade 4 = .ok (.iload_n 1, 1) := by decide +kernel
theorem dX5_trade_5 : decode cX5_trade 5 = .ok (.iaload, 1) := by decide +kernel
theorem dX5_trade_6 : decode cX5_trade 6 = .ok (.istore_n 3, 1) := by decide +kernel
theorem dX5_trade_7 : decode cX5_trade 7 = .ok (.aload_n 0, 1) := by decide +kernel
theorem dX5_trade_8 : decode cX5_trade 8 = .ok (.iload_n 1, 1) := by decide +kernel
theorem dX5_trade_9 : decode cX5_trade 9 = .ok (.aload_n 0, 1) := by decide +kernel
theorem dX5_trade_10 : decode cX5_trade 10 = .ok (.getfield 27, 3) := by decide +kernel
theorem dX5_trade_13 : decode cX5_trade 13 = .ok (.iload_n 2, 1) := by decide +kernel
theorem dX5_trade_14 : decode cX5_trade 14 = .ok (.iaload, 1) := by decide +kernel
theorem dX5_trade_15 : decode cX5_trade 15 = .ok (.invokevirtual 68, 3) := by decide +kernel
theorem dX5_trade_18 : decode cX5_trade 18 = .ok (.aload_n 0, 1) := by decide +kernel
theorem dX5_trade_19 : decode cX5_trade 19 = .ok (.iload_n 2, 1) := by decide +kernel
theorem dX5_trade_20 : decode cX5_trade 20 = .ok (.iload_n 3, 1) := by decide +kernel
theorem dX5_trade_21 : decode cX5_trade 21 = .ok (.invokevirtual 68, 3) := by decide +kernel
theorem dX5_trade_24 : decode cX5_trade 24 = .ok (.return_, 1) := by decide +kernel
theorem dX5_sit_0 : decode cX5_sit 0 = .ok (.aload_n 0, 1) := by decide +kernel
theorem dX5_sit_1 : decode cX5_sit 1 = .ok (.getfield 27, 3) := by decide +kernel
theorem dX5_sit_4 : decode cX5_sit 4 = .ok (.iload_n 1, 1) := by decide +kernel
theorem dX5_sit_5 : decode cX5_sit 5 = .ok (.iload_n 2, 1) := by decide +kernel
theorem dX5_sit_6 : decode cX5_sit 6 = .ok (.iastore, 1) := by decide +kernel
theorem dX5_sit_7 : decode cX5_sit 7 = .ok (.aload_n 0, 1) := by decide +kernel
theorem dX5_sit_8 : decode cX5_sit 8 = .ok (.getfield 30, 3) := by decide +kernel
theorem dX5_sit_11 : decode cX5_sit 11 = .ok (.iload_n 2, 1) := by decide +kernel
theorem dX5_sit_12 : decode cX5_sit 12 = .ok (.iload_n 1, 1) := by decide +kernel
theorem dX5_sit_13 : decode cX5_sit 13 = .ok (.iastore, 1) := by decide +kernel
theorem dX5_sit_14 : decode cX5_sit 14 = .ok (.return_, 1) := by decide +kernel
set_option maxRecDepth 20000 in
theorem ggX5_sheds_X5_lastIn : GoodIn wsX5_sheds wsX5_lastIn := goodIn_r _ [18, 19, 20, 21, 22, 23, 24, 25, 26, 27, 28, 29, 30, 31, 32, 33, 34, 35, 36] (by decide +kernel) (by decide +kernel)
set_option maxRecDepth 20000 in
theorem gX5_sheds_X5_lastIn : GoodIn wsX5_sheds (wsV RX5 72 RX5 yX5_lastIn wsX5_lastIn) := goodIn_app (goodIn_of _ (by decide +kernel)) ggX5_sheds_X5_lastIn
theorem dX5_sheds_0 : decode cX5_sheds 0 = .ok (.aload_n 0, 1) := by decide +kernel
theorem dX5_sheds_1 : decode cX5_sheds 1 = .ok (.aload_n 0, 1) := by decide +kernel
theorem dX5_sheds_2 : decode cX5_sheds 2 = .ok (.getfield 27, 3) := by decide +kernel
theorem dX5_sheds_5 : decode cX5_sheds 5 = .ok (.iload_n 1, 1) := by decide +kernel
theorem dX5_sheds_6 : decode cX5_sheds 6 = .ok (.iaload, 1) := by decide +kernel
theorem dX5_sheds_7 : decode cX5_sheds 7 = .ok (.iconst 1, 1) := by decide +kernel
theorem dX5_sheds_8 : decode cX5_sheds 8 = .ok (.isub, 1) := by decide +kernel
theorem dX5_sheds_9 : decode cX5_sheds 9 = .ok (.invokevirtual 72, 3) := by decide +kernel
theorem dX5_sheds_12 : decode cX5_sheds 12 = .ok (.istore_n 2, 1) := by decide +kernel
theorem dX5_sheds_13 : decode cX5_sheds 13 = .ok (.aload_n 0, 1) := by decide +kernel
theorem dX5_sheds_14 : decode cX5_sheds 14 = .ok (.aload_n 0, 1) := by decide +kernel
theorem dX5_sheds_15 : decode cX5_sheds 15 = .ok (.getfield 27, 3) := by decide +kernel
theorem dX5_sheds_18 : decode cX5_sheds 18 = .ok (.iload_n 1, 1) := by decide +kernel
theorem dX5_sheds_19 : decode cX5_sheds 19 = .ok (.iaload, 1) := by decide +kernel
theorem dX5_sheds_20 : decode cX5_sheds 20 = .ok (.iconst 1, 1) := by decide +kernel
theorem dX5_sheds_21 : decode cX5_sheds 21 = .ok (.iadd, 1) := by decide +kernel
theorem dX5_sheds_22 : decode cX5_sheds 22 = .ok (.invokevirtual 72, 3) := by decide +kernel
theorem dX5_sheds_25 : decode cX5_sheds 25 = .ok (.istore_n 3, 1) := by decide +kernel
theorem dX5_sheds_26 : decode cX5_sheds 26 = .ok (.aload_n 0, 1) := by decide +kernel
theorem dX5_sheds_27 : decode cX5_sheds 27 = .ok (.getfield 15, 3) := by decide +kernel
theorem dX5_sheds_30 : decode cX5_sheds 30 = .ok (.iload_n 1, 1) := by decide +kernel
theorem dX5_sheds_31 : decode cX5_sheds 31 = .ok (.iaload, 1) := by decide +kernel
theorem dX5_sheds_32 : decode cX5_sheds 32 = .ok (.iload_n 2, 1) := by decide +kernel
theorem dX5_sheds_33 : decode cX5_sheds 33 = .ok (.ifCond .le 7, 3) := by decide +kernel
theorem dX5_sheds_36 : decode cX5_sheds 36 = .ok (.iconst 1, 1) := by decide +kernel
theorem dX5_sheds_37 : decode cX5_sheds 37 = .ok (.goto 4, 3) := by decide +kernel
theorem dX5_sheds_40 : decode cX5_sheds 40 = .ok (.iconst 0, 1) := by decide +kernel
theorem dX5_sheds_41 : decode cX5_sheds 41 = .ok (.iadd, 1) := by decide +kernel
theorem dX5_sheds_42 : decode cX5_sheds 42 = .ok (.iload_n 3, 1) := by decide +kernel
theorem dX5_sheds_43 : decode cX5_sheds 43 = .ok (.ifCond .le 7, 3) := by decide +kernel
theorem dX5_sheds_46 : decode cX5_sheds 46 = .ok (.iconst 1, 1) := by decide +kernel
theorem dX5_sheds_47 : decode cX5_sheds 47 = .ok (.goto 4, 3) := by decide +kernel
theorem dX5_sheds_50 : decode cX5_sheds 50 = .ok (.iconst 0, 1) := by decide +kernel
theorem dX5_sheds_51 : decode cX5_sheds 51 = .ok (.iadd, 1) := by decide +kernel
theorem dX5_sheds_52 : decode cX5_sheds 52 = .ok (.istore 4, 2) := by decide +kernel
theorem dX5_sheds_54 : decode cX5_sheds 54 = .ok (.aload_n 0, 1) := by decide +kernel
theorem dX5_sheds_55 : decode cX5_sheds 55 = .ok (.getfield 49, 3) := by decide +kernel
theorem dX5_sheds_58 : decode cX5_sheds 58 = .ok (.aload_n 0, 1) := by decide +kernel
theorem dX5_sheds_59 : decode cX5_sheds 59 = .ok (.getfield 52, 3) := by decide +kernel
theorem dX5_sheds_62 : decode cX5_sheds 62 = .ok (.iconst 3, 1) := by decide +kernel
theorem dX5_sheds_63 : decode cX5_sheds 63 = .ok (.iand, 1) := by decide +kernel
theorem dX5_sheds_64 : decode cX5_sheds 64 = .ok (.ishr, 1) := by decide +kernel
theorem dX5_sheds_65 : decode cX5_sheds 65 = .ok (.iconst 1, 1) := by decide +kernel
theorem dX5_sheds_66 : decode cX5_sheds 66 = .ok (.iand, 1) := by decide +kernel
theorem dX5_sheds_67 : decode cX5_sheds 67 = .ok (.iconst 1, 1) := by decide +kernel
theorem dX5_sheds_68 : decode cX5_sheds 68 = .ok (.if_icmp .ne 12, 3) := by decide +kernel
theorem dX5_sheds_71 : decode cX5_sheds 71 = .ok (.aload_n 0, 1) := by decide +kernel
theorem dX5_sheds_72 : decode cX5_sheds 72 = .ok (.getfield 15, 3) := by decide +kernel
theorem dX5_sheds_75 : decode cX5_sheds 75 = .ok (.iload_n 1, 1) := by decide +kernel
theorem dX5_sheds_76 : decode cX5_sheds 76 = .ok (.iaload, 1) := by decide +kernel
theorem dX5_sheds_77 : decode cX5_sheds 77 = .ok (.goto 4, 3) := by decide +kernel
theorem dX5_sheds_80 : decode cX5_sheds 80 = .ok (.iconst 0, 1) := by decide +kernel
theorem dX5_sheds_81 : decode cX5_sheds 81 = .ok (.istore 5, 2) := by decide +kernel
theorem dX5_sheds_83 : decode cX5_sheds 83 = .ok (.iload 4, 2) := by decide +kernel
theorem dX5_sheds_85 : decode cX5_sheds 85 = .ok (.istore 6, 2) := by decide +kernel
theorem dX5_sheds_87 : decode cX5_sheds 87 = .ok (.aload_n 0, 1) := by decide +kernel
theorem dX5_sheds_88 : decode cX5_sheds 88 = .ok (.getfield 9, 3) := by decide +kernel
theorem dX5_sheds_91 : decode cX5_sheds 91 = .ok (.iload_n 1, 1) := by decide +kernel
theorem dX5_sheds_92 : decode cX5_sheds 92 = .ok (.iaload, 1) := by decide +kernel
theorem dX5_sheds_93 : decode cX5_sheds 93 = .ok (.tableswitch 98 2 5 #[31, 61, 82, 89], 31) := by decide +kernel
theorem dX5_sheds_124 : decode cX5_sheds 124 = .ok (.iload_n 2, 1) := by decide +kernel
theorem dX5_sheds_125 : decode cX5_sheds 125 = .ok (.ifCond .gt 7, 3) := by decide +kernel
theorem dX5_sheds_128 : decode cX5_sheds 128 = .ok (.iload_n 3, 1) := by decide +kernel
theorem dX5_sheds_129 : decode cX5_sheds 129 = .ok (.ifCond .le 18, 3) := by decide +kernel
theorem dX5_sheds_132 : decode cX5_sheds 132 = .ok (.iload 4, 2) := by decide +kernel
theorem dX5_sheds_134 : decode cX5_sheds 134 = .ok (.iload_n 2, 1) := by decide +kernel
theorem dX5_sheds_135 : decode cX5_sheds 135 = .ok (.iload_n 3, 1) := by decide +kernel
theorem dX5_sheds_136 : decode cX5_sheds 136 = .ok (.invokestatic 76, 3) := by decide +kernel
theorem dX5_sheds_139 : decode cX5_sheds 139 = .ok (.iconst 1, 1) := by decide +kernel
theorem dX5_sheds_140 : decode cX5_sheds 140 = .ok (.iadd, 1) := by decide +kernel
theorem dX5_sheds_141 : decode cX5_sheds 141 = .ok (.invokestatic 76, 3) := by decide +kernel
theorem dX5_sheds_144 : decode cX5_sheds 144 = .ok (.goto 5, 3) := by decide +kernel
theorem dX5_sheds_147 : decode cX5_sheds 147 = .ok (.iload 4, 2) := by decide +kernel
theorem dX5_sheds_149 : decode cX5_sheds 149 = .ok (.istore 6, 2) := by decide +kernel
theorem dX5_sheds_151 : decode cX5_sheds 151 = .ok (.goto 40, 3) := by decide +kernel
theorem dX5_sheds_154 : decode cX5_sheds 154 = .ok (.aload_n 0, 1) := by decide +kernel
theorem dX5_sheds_155 : decode cX5_sheds 155 = .ok (.getfield 52, 3) := by decide +kernel
theorem dX5_sheds_158 : decode cX5_sheds 158 = .ok (.iconst 1, 1) := by decide +kernel
theorem dX5_sheds_159 : decode cX5_sheds 159 = .ok (.iand, 1) := by decide +kernel
theorem dX5_sheds_160 : decode cX5_sheds 160 = .ok (.iconst 1, 1) := by decide +kernel
theorem dX5_sheds_161 : decode cX5_sheds 161 = .ok (.if_icmp .ne 7, 3) := by decide +kernel
theorem dX5_sheds_164 : decode cX5_sheds 164 = .ok (.iconst 0, 1) := by decide +kernel
theorem dX5_sheds_165 : decode cX5_sheds 165 = .ok (.goto 5, 3) := by decide +kernel
theorem dX5_sheds_168 : decode cX5_sheds 168 = .ok (.iload 4, 2) := by decide +kernel
theorem dX5_sheds_170 : decode cX5_sheds 170 = .ok (.istore 6, 2) := by decide +kernel
theorem dX5_sheds_172 : decode cX5_sheds 172 = .ok (.goto 19, 3) := by decide +kernel
theorem dX5_sheds_175 : decode cX5_sheds 175 = .ok (.iload 5, 2) := by decide +kernel
theorem dX5_sheds_177 : decode cX5_sheds 177 = .ok (.istore 6, 2) := by decide +kernel
theorem dX5_sheds_179 : decode cX5_sheds 179 = .ok (.goto 12, 3) := by decide +kernel
theorem dX5_sheds_182 : decode cX5_sheds 182 = .ok (.iload 5, 2) := by decide +kernel
theorem dX5_sheds_184 : decode cX5_sheds 184 = .ok (.iconst 2, 1) := by decide +kernel
theorem dX5_sheds_185 : decode cX5_sheds 185 = .ok (.iadd, 1) := by decide +kernel
theorem dX5_sheds_186 : decode cX5_sheds 186 = .ok (.istore 6, 2) := by decide +kernel
theorem dX5_sheds_188 : decode cX5_sheds 188 = .ok (.goto 3, 3) := by decide +kernel
theorem dX5_sheds_191 : decode cX5_sheds 191 = .ok (.iload 6, 2) := by decide +kernel
theorem dX5_sheds_193 : decode cX5_sheds 193 = .ok (.bipush 9, 2) := by decide +kernel
theorem dX5_sheds_195 : decode cX5_sheds 195 = .ok (.invokestatic 82, 3) := by decide +kernel
theorem dX5_sheds_198 : decode cX5_sheds 198 = .ok (.aload_n 0, 1) := by decide +kernel
theorem dX5_sheds_199 : decode cX5_sheds 199 = .ok (.getfield 21, 3) := by decide +kernel
theorem dX5_sheds_202 : decode cX5_sheds 202 = .ok (.iload_n 1, 1) := by decide +kernel
theorem dX5_sheds_203 : decode cX5_sheds 203 = .ok (.iaload, 1) := by decide +kernel
theorem dX5_sheds_204 : decode cX5_sheds 204 = .ok (.invokestatic 82, 3) := by decide +kernel
theorem dX5_sheds_207 : decode cX5_sheds 207 = .ok (.ireturn, 1) := by decide +kernel
theorem dX5_lastIn_0 : decode cX5_lastIn 0 = .ok (.iload_n 1, 1) := by decide +kernel
theorem dX5_lastIn_1 : decode cX5_lastIn 1 = .ok (.ifCond .lt 25, 3) := by decide +kernel
theorem dX5_lastIn_4 : decode cX5_lastIn 4 = .ok (.iload_n 1, 1) := by decide +kernel
theorem dX5_lastIn_5 : decode cX5_lastIn 5 = .ok (.aload_n 0, 1) := by decide +kernel
theorem dX5_lastIn_6 : decode cX5_lastIn 6 = .ok (.getfield 36, 3) := by decide +kernel
theorem dX5_lastIn_9 : decode cX5_lastIn 9 = .ok (.if_icmp .ge 17, 3) := by decide +kernel
theorem dX5_lastIn_12 : decode cX5_lastIn 12 = .ok (.aload_n 0, 1) := by decide +kernel
theorem dX5_lastIn_13 : decode cX5_lastIn 13 = .ok (.getfield 24, 3) := by decide +kernel
theorem dX5_lastIn_16 : decode cX5_lastIn 16 = .ok (.aload_n 0, 1) := by decide +kernel
theorem dX5_lastIn_17 : decode cX5_lastIn 17 = .ok (.getfield 30, 3) := by decide +kernel
theorem dX5_lastIn_20 : decode cX5_lastIn 20 = .ok (.iload_n 1, 1) := by decide +kernel
theorem dX5_lastIn_21 : decode cX5_lastIn 21 = .ok (.iaload, 1) := by decide +kernel
theorem dX5_lastIn_22 : decode cX5_lastIn 22 = .ok (.iaload, 1) := by decide +kernel
theorem dX5_lastIn_23 : decode cX5_lastIn 23 = .ok (.goto 4, 3) := by decide +kernel
theorem dX5_lastIn_26 : decode cX5_lastIn 26 = .ok (.iconst 0, 1) := by decide +kernel
theorem dX5_lastIn_27 : decode cX5_lastIn 27 = .ok (.ireturn, 1) := by decide +kernel
set_option maxRecDepth 20000 in
theorem ggX5_pass_X5_isHired : GoodIn wsX5_pass wsX5_isHired := goodIn_r _ [22, 23, 36, 37, 38, 39, 40, 41, 42, 43, 44, 45, 46, 47, 48, 49, 50] (by decide +kernel) (by decide +kernel)
set_option maxRecDepth 20000 in
theorem gX5_pass_X5_isHired : GoodIn wsX5_pass (wsV RX5 64 RX5 yX5_isHired wsX5_isHired) := goodIn_app (goodIn_of _ (by decide +kernel)) ggX5_pass_X5_isHired
set_option maxRecDepth 20000 in
theorem ggX5_pass_X5_sheds : GoodIn wsX5_pass wsX5_sheds := goodIn_r _ [27, 28, 29, 30, 17, 5, 12, 13, 10, 14, 8, 9, 11, 4, 31, 32, 33, 21, 34, 1, 3, 35, 36, 37, 38, 39, 40, 41, 42, 43, 44, 45, 46, 47, 48, 49, 50] (by decide +kernel) (by decide +kernel)
set_option maxRecDepth 20000 in
theorem gX5_pass_X5_sheds : GoodIn wsX5_pass (wsV RX5 85 RX5 yX5_sheds wsX5_sheds) := goodIn_app (goodIn_of _ (by decide +kernel)) ggX5_pass_X5_sheds
theorem dX5_pass_0 : decode cX5_pass 0 = .ok (.iconst 0, 1) := by decide +kernel
theorem dX5_pass_1 : decode cX5_pass 1 = .ok (.istore_n 1, 1) := by decide +kernel
theorem dX5_pass_2 : decode cX5_pass 2 = .ok (.iload_n 1, 1) := by decide +kernel
theorem dX5_pass_3 : decode cX5_pass 3 = .ok (.aload_n 0, 1) := by decide +kernel
theorem dX5_pass_4 : decode cX5_pass 4 = .ok (.getfield 36, 3) := by decide +kernel
theorem dX5_pass_7 : decode cX5_pass 7 = .ok (.if_icmp .ge 32, 3) := by decide +kernel
theorem dX5_pass_10 : decode cX5_pass 10 = .ok (.aload_n 0, 1) := by decide +kernel
theorem dX5_pass_11 : decode cX5_pass 11 = .ok (.getfield 33, 3) := by decide +kernel
theorem dX5_pass_14 : decode cX5_pass 14 = .ok (.iload_n 1, 1) := by decide +kernel
theorem dX5_pass_15 : decode cX5_pass 15 = .ok (.aload_n 0, 1) := by decide +kernel
theorem dX5_pass_16 : decode cX5_pass 16 = .ok (.iload_n 1, 1) := by decide +kernel
theorem dX5_pass_17 : decode cX5_pass 17 = .ok (.invokevirtual 64, 3) := by decide +kernel
theorem dX5_pass_20 : decode cX5_pass 20 = .ok (.ifCond .eq 11, 3) := by decide +kernel
theorem dX5_pass_23 : decode cX5_pass 23 = .ok (.aload_n 0, 1) := by decide +kernel
theorem dX5_pass_24 : decode cX5_pass 24 = .ok (.iload_n 1, 1) := by decide +kernel
theorem dX5_pass_25 : decode cX5_pass 25 = .ok (.invokevirtual 85, 3) := by decide +kernel
theorem dX5_pass_28 : decode cX5_pass 28 = .ok (.goto 4, 3) := by decide +kernel
theorem dX5_pass_31 : decode cX5_pass 31 = .ok (.iconst 0, 1) := by decide +kernel
theorem dX5_pass_32 : decode cX5_pass 32 = .ok (.iastore, 1) := by decide +kernel
theorem dX5_pass_33 : decode cX5_pass 33 = .ok (.iinc 1 1, 3) := by decide +kernel
theorem dX5_pass_36 : decode cX5_pass 36 = .ok (.goto (-34), 3) := by decide +kernel
theorem dX5_pass_39 : decode cX5_pass 39 = .ok (.iconst 0, 1) := by decide +kernel
theorem dX5_pass_40 : decode cX5_pass 40 = .ok (.istore_n 1, 1) := by decide +kernel
theorem dX5_pass_41 : decode cX5_pass 41 = .ok (.iconst 0, 1) := by decide +kernel
theorem dX5_pass_42 : decode cX5_pass 42 = .ok (.istore_n 2, 1) := by decide +kernel
theorem dX5_pass_43 : decode cX5_pass 43 = .ok (.iconst 0, 1) := by decide +kernel
theorem dX5_pass_44 : decode cX5_pass 44 = .ok (.istore_n 3, 1) := by decide +kernel
theorem dX5_pass_45 : decode cX5_pass 45 = .ok (.iconst 0, 1) := by decide +kernel
theorem dX5_pass_46 : decode cX5_pass 46 = .ok (.istore 4, 2) := by decide +kernel
theorem dX5_pass_48 : decode cX5_pass 48 = .ok (.iload 4, 2) := by decide +kernel
theorem dX5_pass_50 : decode cX5_pass 50 = .ok (.aload_n 0, 1) := by decide +kernel
theorem dX5_pass_51 : decode cX5_pass 51 = .ok (.getfield 36, 3) := by decide +kernel
theorem dX5_pass_54 : decode cX5_pass 54 = .ok (.if_icmp .ge 76, 3) := by decide +kernel
theorem dX5_pass_57 : decode cX5_pass 57 = .ok (.aload_n 0, 1) := by decide +kernel
theorem dX5_pass_58 : decode cX5_pass 58 = .ok (.getfield 33, 3) := by decide +kernel
theorem dX5_pass_61 : decode cX5_pass 61 = .ok (.iload 4, 2) := by decide +kernel
theorem dX5_pass_63 : decode cX5_pass 63 = .ok (.iaload, 1) := by decide +kernel
theorem dX5_pass_64 : decode cX5_pass 64 = .ok (.istore 5, 2) := by decide +kernel
theorem dX5_pass_66 : decode cX5_pass 66 = .ok (.aload_n 0, 1) := by decide +kernel
theorem dX5_pass_67 : decode cX5_pass 67 = .ok (.getfield 24, 3) := by decide +kernel
theorem dX5_pass_70 : decode cX5_pass 70 = .ok (.iload 4, 2) := by decide +kernel
theorem dX5_pass_72 : decode cX5_pass 72 = .ok (.iload 5, 2) := by decide +kernel
theorem dX5_pass_74 : decode cX5_pass 74 = .ok (.iastore, 1) := by decide +kernel
theorem dX5_pass_75 : decode cX5_pass 75 = .ok (.aload_n 0, 1) := by decide +kernel
theorem dX5_pass_76 : decode cX5_pass 76 = .ok (.getfield 21, 3) := by decide +kernel
theorem dX5_pass_79 : decode cX5_pass 79 = .ok (.iload 4, 2) := by decide +kernel
theorem dX5_pass_81 : decode cX5_pass 81 = .ok (.dup2, 1) := by decide +kernel
theorem dX5_pass_82 : decode cX5_pass 82 = .ok (.iaload, 1) := by decide +kernel
theorem dX5_pass_83 : decode cX5_pass 83 = .ok (.iload 5, 2) := by decide +kernel
theorem dX5_pass_85 : decode cX5_pass 85 = .ok (.isub, 1) := by decide +kernel
theorem dX5_pass_86 : decode cX5_pass 86 = .ok (.iastore, 1) := by decide +kernel
theorem dX5_pass_87 : decode cX5_pass 87 = .ok (.aload_n 0, 1) := by decide +kernel
theorem dX5_pass_88 : decode cX5_pass 88 = .ok (.getfield 9, 3) := by decide +kernel
theorem dX5_pass_91 : decode cX5_pass 91 = .ok (.iload 4, 2) := by decide +kernel
theorem dX5_pass_93 : decode cX5_pass 93 = .ok (.iaload, 1) := by decide +kernel
theorem dX5_pass_94 : decode cX5_pass 94 = .ok (.iconst 5, 1) := by decide +kernel
theorem dX5_pass_95 : decode cX5_pass 95 = .ok (.if_icmp .ne 11, 3) := by decide +kernel
theorem dX5_pass_98 : decode cX5_pass 98 = .ok (.iload_n 2, 1) := by decide +kernel
theorem dX5_pass_99 : decode cX5_pass 99 = .ok (.iload 5, 2) := by decide +kernel
theorem dX5_pass_101 : decode cX5_pass 101 = .ok (.iadd, 1) := by decide +kernel
theorem dX5_pass_102 : decode cX5_pass 102 = .ok (.istore_n 2, 1) := by decide +kernel
theorem dX5_pass_103 : decode cX5_pass 103 = .ok (.goto 21, 3) := by decide +kernel
theorem dX5_pass_106 : decode cX5_pass 106 = .ok (.iload_n 1, 1) := by decide +kernel
theorem dX5_pass_107 : decode cX5_pass 107 = .ok (.iload 5, 2) := by decide +kernel
theorem dX5_pass_109 : decode cX5_pass 109 = .ok (.iadd, 1) := by decide +kernel
theorem dX5_pass_110 : decode cX5_pass 110 = .ok (.istore_n 1, 1) := by decide +kernel
theorem dX5_pass_111 : decode cX5_pass 111 = .ok (.iload_n 3, 1) := by decide +kernel
theorem dX5_pass_112 : decode cX5_pass 112 = .ok (.aload_n 0, 1) := by decide +kernel
theorem dX5_pass_113 : decode cX5_pass 113 = .ok (.getfield 18, 3) := by decide +kernel
theorem dX5_pass_116 : decode cX5_pass 116 = .ok (.iload 4, 2) := by decide +kernel
theorem dX5_pass_118 : decode cX5_pass 118 = .ok (.iaload, 1) := by decide +kernel
theorem dX5_pass_119 : decode cX5_pass 119 = .ok (.iload 5, 2) := by decide +kernel
theorem dX5_pass_121 : decode cX5_pass 121 = .ok (.imul, 1) := by decide +kernel
theorem dX5_pass_122 : decode cX5_pass 122 = .ok (.iadd, 1) := by decide +kernel
theorem dX5_pass_123 : decode cX5_pass 123 = .ok (.istore_n 3, 1) := by decide +kernel
theorem dX5_pass_124 : decode cX5_pass 124 = .ok (.iinc 4 1, 3) := by decide +kernel
theorem dX5_pass_127 : decode cX5_pass 127 = .ok (.goto (-79), 3) := by decide +kernel
theorem dX5_pass_130 : decode cX5_pass 130 = .ok (.aload_n 0, 1) := by decide +kernel
theorem dX5_pass_131 : decode cX5_pass 131 = .ok (.iconst 0, 1) := by decide +kernel
theorem dX5_pass_132 : decode cX5_pass 132 = .ok (.sipush 999, 3) := by decide +kernel
theorem dX5_pass_135 : decode cX5_pass 135 = .ok (.aload_n 0, 1) := by decide +kernel
theorem dX5_pass_136 : decode cX5_pass 136 = .ok (.getfield 43, 3) := by decide +kernel
theorem dX5_pass_139 : decode cX5_pass 139 = .ok (.iload_n 1, 1) := by decide +kernel
theorem dX5_pass_140 : decode cX5_pass 140 = .ok (.iadd, 1) := by decide +kernel
theorem dX5_pass_141 : decode cX5_pass 141 = .ok (.invokestatic 82, 3) := by decide +kernel
theorem dX5_pass_144 : decode cX5_pass 144 = .ok (.iload_n 2, 1) := by decide +kernel
theorem dX5_pass_145 : decode cX5_pass 145 = .ok (.isub, 1) := by decide +kernel
theorem dX5_pass_146 : decode cX5_pass 146 = .ok (.invokestatic 76, 3) := by decide +kernel
theorem dX5_pass_149 : decode cX5_pass 149 = .ok (.putfield 43, 3) := by decide +kernel
theorem dX5_pass_152 : decode cX5_pass 152 = .ok (.aload_n 0, 1) := by decide +kernel
theorem dX5_pass_153 : decode cX5_pass 153 = .ok (.ldc 88, 2) := by decide +kernel
theorem dX5_pass_155 : decode cX5_pass 155 = .ok (.aload_n 0, 1) := by decide +kernel
theorem dX5_pass_156 : decode cX5_pass 156 = .ok (.getfield 55, 3) := by decide +kernel
theorem dX5_pass_159 : decode cX5_pass 159 = .ok (.iload_n 3, 1) := by decide +kernel
theorem dX5_pass_160 : decode cX5_pass 160 = .ok (.iadd, 1) := by decide +kernel
theorem dX5_pass_161 : decode cX5_pass 161 = .ok (.invokestatic 82, 3) := by decide +kernel
theorem dX5_pass_164 : decode cX5_pass 164 = .ok (.putfield 55, 3) := by decide +kernel
theorem dX5_pass_167 : decode cX5_pass 167 = .ok (.aload_n 0, 1) := by decide +kernel
theorem dX5_pass_168 : decode cX5_pass 168 = .ok (.dup, 1) := by decide +kernel
theorem dX5_pass_169 : decode cX5_pass 169 = .ok (.getfield 52, 3) := by decide +kernel
theorem dX5_pass_172 : decode cX5_pass 172 = .ok (.iconst 1, 1) := by decide +kernel
theorem dX5_pass_173 : decode cX5_pass 173 = .ok (.iadd, 1) := by decide +kernel
theorem dX5_pass_174 : decode cX5_pass 174 = .ok (.putfield 52, 3) := by decide +kernel
theorem dX5_pass_177 : decode cX5_pass 177 = .ok (.return_, 1) := by decide +kernel
set_option maxRecDepth 20000 in
theorem ggX5_run_X5_pass : GoodIn wsX5_run wsX5_pass := goodIn_r _ [5, 6, 7, 8, 9, 10, 11, 12, 13, 14, 15, 16, 17, 18, 19, 20, 21, 22, 23, 24, 25, 4, 26, 27, 28, 29, 30, 31, 32, 33, 34, 35, 36, 37, 38, 39, 40, 41, 42, 43, 44, 45, 46, 47, 48, 49, 50, 51, 52, 53, 54] (by decide +kernel) (by decide +kernel)
set_option maxRecDepth 20000 in
theorem gX5_run_X5_pass : GoodIn wsX5_run (wsV RX5 89 RX5 yX5_pass wsX5_pass) := goodIn_app (goodIn_of _ (by decide +kernel)) ggX5_run_X5_pass
theorem dX5_run_0 : decode cX5_run 0 = .ok (.iconst 0, 1) := by decide +kernel
theorem dX5_run_1 : decode cX5_run 1 = .ok (.istore_n 2, 1) := by decide +kernel
theorem dX5_run_2 : decode cX5_run 2 = .ok (.iload_n 2, 1) := by decide +kernel
theorem dX5_run_3 : decode cX5_run 3 = .ok (.iload_n 1, 1) := by decide +kernel
theorem dX5_run_4 : decode cX5_run 4 = .ok (.if_icmp .ge 13, 3) := by decide +kernel
theorem dX5_run_7 : decode cX5_run 7 = .ok (.aload_n 0, 1) := by decide +kernel
theorem dX5_run_8 : decode cX5_run 8 = .ok (.invokevirtual 89, 3) := by decide +kernel
theorem dX5_run_11 : decode cX5_run 11 = .ok (.iinc 2 1, 3) := by decide +kernel
theorem dX5_run_14 : decode cX5_run 14 = .ok (.goto (-12), 3) := by decide +kernel
theorem dX5_run_17 : decode cX5_run 17 = .ok (.return_, 1) := by decide +kernel
set_option maxRecDepth 20000 in
theorem ggX6_init_X3_init : GoodIn wsX6_init wsX3_init := goodIn_r _ [32, 33, 2, 3, 34, 11, 12, 35, 27, 36, 37, 38, 39, 40, 41, 42, 43, 44, 45, 46, 47, 85, 86, 87, 88, 89, 90, 91, 92, 93, 94, 95, 96, 97, 98, 99, 80, 81, 82, 83, 84] (by decide +kernel) (by decide +kernel)
set_option maxRecDepth 20000 in
theorem gX6_init_X3_init_n17 : GoodIn wsX6_init (wsX3_init) := ggX6_init_X3_init
set_option maxRecDepth 20000 in
theorem ggX6_init_X5_init : GoodIn wsX6_init wsX5_init := goodIn_r _ [38, 39, 2, 3, 27, 40, 41, 42, 43, 44, 45, 46, 47, 85, 86, 87, 88, 89, 90, 91, 92, 93, 94, 95, 96, 97, 98, 99] (by decide +kernel) (by decide +kernel)
set_option maxRecDepth 20000 in
theorem gX6_init_X5_init_n24 : GoodIn wsX6_init (wsX5_init) := ggX6_init_X5_init
set_option maxRecDepth 20000 in
theorem ggX6_init_X0_init : GoodIn wsX6_init wsX0_init := goodIn_r _ [50, 51, 2, 3, 52, 53, 11, 12, 37, 38, 39, 27, 40, 41, 42, 43, 44, 45, 46, 47, 100, 101, 102, 85, 86, 87, 88, 89, 90, 91, 92, 93, 94, 95, 96, 97, 98, 99] (by decide +kernel) (by decide +kernel)
set_option maxRecDepth 20000 in
theorem gX6_init_X0_init : GoodIn wsX6_init (wsX0_init) := ggX6_init_X0_init
set_option maxRecDepth 20000 in
theorem ggX6_init_X1_init : GoodIn wsX6_init wsX1_init := goodIn_r _ [55, 56, 2, 3, 57, 11, 12, 58, 27, 59, 37, 38, 39, 40, 41, 42, 43, 44, 45, 46, 47, 85, 86, 87, 88, 89, 90, 91, 92, 93, 94, 95, 96, 97, 98, 99, 103, 104, 105, 106] (by decide +kernel) (by decide +kernel)
set_option maxRecDepth 20000 in
theorem gX6_init_X1_init_n38 : GoodIn wsX6_init (wsX1_init) := ggX6_init_X1_init
set_option maxRecDepth 20000 in
theorem ggX6_init_X2_init : GoodIn wsX6_init wsX2_init := goodIn_r _ [61, 62, 2, 3, 63, 11, 12, 64, 27, 65, 37, 38, 39, 40, 41, 42, 43, 44, 45, 46, 47, 85, 86, 87, 88, 89, 90, 91, 92, 93, 94, 95, 96, 97, 98, 99, 107, 108, 109, 110] (by decide +kernel) (by decide +kernel)
set_option maxRecDepth 20000 in
theorem gX6_init_X2_init_n45 : GoodIn wsX6_init (wsX2_init) := ggX6_init_X2_init
set_option maxRecDepth 20000 in
theorem ggX6_init_X4_init : GoodIn wsX6_init wsX4_init := goodIn_r _ [67, 68, 2, 3, 27, 69, 111, 112, 113, 114] (by decide +kernel) (by decide +kernel)
set_option maxRecDepth 20000 in
theorem gX6_init_X4_init_n58 : GoodIn wsX6_init (wsX4_init) := ggX6_init_X4_init
theorem dX6_init_0 : decode cX6_init 0 = .ok (.aload_n 0, 1) := by decide +kernel
theorem dX6_init_1 : decode cX6_init 1 = .ok (.invokespecial 1, 3) := by decide +kernel
theorem dX6_init_4 : decode cX6_init 4 = .ok (.aload_n 0, 1) := by decide +kernel
theorem dX6_init_5 : decode cX6_init 5 = .ok (.bipush 8, 2) := by decide +kernel
theorem dX6_init_7 : decode cX6_init 7 = .ok (.anewarray 9, 3) := by decide +kernel
theorem dX6_init_10 : decode cX6_init 10 = .ok (.putfield 11, 3) := by decide +kernel
theorem dX6_init_13 : decode cX6_init 13 = .ok (.aload_n 0, 1) := by decide +kernel
theorem dX6_init_14 : decode cX6_init 14 = .ok (.new 15, 3) := by decide +kernel
theorem dX6_init_17 : decode cX6_init 17 = .ok (.dup, 1) := by decide +kernel
theorem dX6_init_18 : decode cX6_init 18 = .ok (.invokespecial 17, 3) := by decide +kernel
theorem dX6_init_21 : decode cX6_init 21 = .ok (.putfield 18, 3) := by decide +kernel
theorem dX6_init_24 : decode cX6_init 24 = .ok (.aload_n 0, 1) := by decide +kernel
theorem dX6_init_25 : decode cX6_init 25 = .ok (.new 22, 3) := by decide +kernel
theorem dX6_init_28 : decode cX6_init 28 = .ok (.dup, 1) := by decide +kernel
theorem dX6_init_29 : decode cX6_init 29 = .ok (.invokespecial 24, 3) := by decide +kernel
theorem dX6_init_32 : decode cX6_init 32 = .ok (.putfield 25, 3) := by decide +kernel
theorem dX6_init_35 : decode cX6_init 35 = .ok (.aload_n 0, 1) := by decide +kernel
theorem dX6_init_36 : decode cX6_init 36 = .ok (.new 29, 3) := by decide +kernel
theorem dX6_init_39 : decode cX6_init 39 = .ok (.dup, 1) := by decide +kernel
theorem dX6_init_40 : decode cX6_init 40 = .ok (.invokespecial 31, 3) := by decide +kernel
theorem dX6_init_43 : decode cX6_init 43 = .ok (.putfield 32, 3) := by decide +kernel
theorem dX6_init_46 : decode cX6_init 46 = .ok (.aload_n 0, 1) := by decide +kernel
theorem dX6_init_47 : decode cX6_init 47 = .ok (.new 36, 3) := by decide +kernel
theorem dX6_init_50 : decode cX6_init 50 = .ok (.dup, 1) := by decide +kernel
theorem dX6_init_51 : decode cX6_init 51 = .ok (.invokespecial 38, 3) := by decide +kernel
theorem dX6_init_54 : decode cX6_init 54 = .ok (.putfield 39, 3) := by decide +kernel
theorem dX6_init_57 : decode cX6_init 57 = .ok (.aload_n 0, 1) := by decide +kernel
theorem dX6_init_58 : decode cX6_init 58 = .ok (.new 43, 3) := by decide +kernel
theorem dX6_init_61 : decode cX6_init 61 = .ok (.dup, 1) := by decide +kernel
theorem dX6_init_62 : decode cX6_init 62 = .ok (.invokespecial 45, 3) := by decide +kernel
theorem dX6_init_65 : decode cX6_init 65 = .ok (.putfield 46, 3) := by decide +kernel
theorem dX6_init_68 : decode cX6_init 68 = .ok (.aload_n 0, 1) := by decide +kernel
theorem dX6_init_69 : decode cX6_init 69 = .ok (.iconst 2, 1) := by decide +kernel
theorem dX6_init_70 : decode cX6_init 70 = .ok (.anewarray 22, 3) := by decide +kernel
theorem dX6_init_73 : decode cX6_init 73 = .ok (.putfield 50, 3) := by decide +kernel
theorem dX6_init_76 : decode cX6_init 76 = .ok (.aload_n 0, 1) := by decide +kernel
theorem dX6_init_77 : decode cX6_init 77 = .ok (.bipush 16, 2) := by decide +kernel
theorem dX6_init_79 : decode cX6_init 79 = .ok (.newarray .int, 2) := by decide +kernel
theorem dX6_init_81 : decode cX6_init 81 = .ok (.putfield 54, 3) := by decide +kernel
theorem dX6_init_84 : decode cX6_init 84 = .ok (.iconst 0, 1) := by decide +kernel
theorem dX6_init_85 : decode cX6_init 85 = .ok (.istore_n 1, 1) := by decide +kernel
theorem dX6_init_86 : decode cX6_init 86 = .ok (.iload_n 1, 1) := by decide +kernel
theorem dX6_init_87 : decode cX6_init 87 = .ok (.bipush 8, 2) := by decide +kernel
theorem dX6_init_89 : decode cX6_init 89 = .ok (.if_icmp .ge 22, 3) := by decide +kernel
theorem dX6_init_92 : decode cX6_init 92 = .ok (.aload_n 0, 1) := by decide +kernel
theorem dX6_init_93 : decode cX6_init 93 = .ok (.getfield 11, 3) := by decide +kernel
theorem dX6_init_96 : decode cX6_init 96 = .ok (.iload_n 1, 1) := by decide +kernel
theorem dX6_init_97 : decode cX6_init 97 = .ok (.new 9, 3) := by decide +kernel
theorem dX6_init_100 : decode cX6_init 100 = .ok (.dup, 1) := by decide +kernel
theorem dX6_init_101 : decode cX6_init 101 = .ok (.invokespecial 58, 3) := by decide +kernel
theorem dX6_init_104 : decode cX6_init 104 = .ok (.aastore, 1) := by decide +kernel
theorem dX6_init_105 : decode cX6_init 105 = .ok (.iinc 1 1, 3) := by decide +kernel
theorem dX6_init_108 : decode cX6_init 108 = .ok (.goto (-22), 3) := by decide +kernel
theorem dX6_init_111 : decode cX6_init 111 = .ok (.iconst 0, 1) := by decide +kernel
theorem dX6_init_112 : decode cX6_init 112 = .ok (.istore_n 1, 1) := by decide +kernel
theorem dX6_init_113 : decode cX6_init 113 = .ok (.iload_n 1, 1) := by decide +kernel
theorem dX6_init_114 : decode cX6_init 114 = .ok (.iconst 2, 1) := by decide +kernel
theorem dX6_init_115 : decode cX6_init 115 = .ok (.if_icmp .ge 22, 3) := by decide +kernel
theorem dX6_init_118 : decode cX6_init 118 = .ok (.aload_n 0, 1) := by decide +kernel
theorem dX6_init_119 : decode cX6_init 119 = .ok (.getfield 50, 3) := by decide +kernel
theorem dX6_init_122 : decode cX6_init 122 = .ok (.iload_n 1, 1) := by decide +kernel
theorem dX6_init_123 : decode cX6_init 123 = .ok (.new 22, 3) := by decide +kernel
theorem dX6_init_126 : decode cX6_init 126 = .ok (.dup, 1) := by decide +kernel
theorem dX6_init_127 : decode cX6_init 127 = .ok (.invokespecial 24, 3) := by decide +kernel
theorem dX6_init_130 : decode cX6_init 130 = .ok (.aastore, 1) := by decide +kernel
theorem dX6_init_131 : decode cX6_init 131 = .ok (.iinc 1 1, 3) := by decide +kernel
theorem dX6_init_134 : decode cX6_init 134 = .ok (.goto (-21), 3) := by decide +kernel
theorem dX6_init_137 : decode cX6_init 137 = .ok (.return_, 1) := by decide +kernel
set_option maxRecDepth 20000 in
theorem ggX6_row_X6_isRow : GoodIn wsX6_row wsX6_isRow := goodIn_r _ [6] (by decide +kernel) (by decide +kernel)
set_option maxRecDepth 20000 in
theorem gX6_row_X6_isRow : GoodIn wsX6_row (va_wsS RX6 59 yX6_isRow wsX6_isRow) := goodIn_app (goodIn_of _ (by decide +kernel)) ggX6_row_X6_isRow
set_option maxRecDepth 20000 in
theorem ggX6_row_X6_find : GoodIn wsX6_row wsX6_find := goodIn_r _ [10, 11, 12, 26, 27, 28, 29, 30, 31, 32, 33, 34, 35] (by decide +kernel) (by decide +kernel)
set_option maxRecDepth 20000 in
theorem gX6_row_X6_find : GoodIn wsX6_row (wsV RX6 64 RX6 yX6_find wsX6_find) := goodIn_app (goodIn_of _ (by decide +kernel)) ggX6_row_X6_find
set_option maxRecDepth 20000 in
theorem ggX6_row_X4_make : GoodIn wsX6_row wsX4_make := goodIn_r _ [17, 18, 19, 20, 21, 36, 37, 38, 39] (by decide +kernel) (by decide +kernel)
set_option maxRecDepth 20000 in
theorem gX6_row_X4_make : GoodIn wsX6_row (wsV RX6 68 RX4 yX4_make wsX4_make) := goodIn_app (goodIn_of _ (by decide +kernel)) ggX6_row_X4_make
set_option maxRecDepth 20000 in
theorem ggX6_row_X6_findNothing : GoodIn wsX6_row wsX6_findNothing := goodIn_r _ [25, 11, 26, 27, 28, 29, 30, 31, 32, 33, 34, 35] (by decide +kernel) (by decide +kernel)
set_option maxRecDepth 20000 in
theorem gX6_row_X6_findNothing : GoodIn wsX6_row (wsV RX6 72 RX6 yX6_findNothing wsX6_findNothing) := goodIn_app (goodIn_of _ (by decide +kernel)) ggX6_row_X6_findNothing
theorem dX6_row_0 : decode cX6_row 0 = .ok (.iload_n 1, 1) := by decide +kernel
theorem dX6_row_1 : decode cX6_row 1 = .ok (.invokestatic 59, 3) := by decide +kernel
theorem dX6_row_4 : decode cX6_row 4 = .ok (.ifCond .eq 18, 3) := by decide +kernel
theorem dX6_row_7 : decode cX6_row 7 = .ok (.iload_n 2, 1) := by decide +kernel
theorem dX6_row_8 : decode cX6_row 8 = .ok (.ifCond .lt 14, 3) := by decide +kernel
theorem dX6_row_11 : decode cX6_row 11 = .ok (.iload_n 2, 1) := by decide +kernel
theorem dX6_row_12 : decode cX6_row 12 = .ok (.iconst 3, 1) := by decide +kernel
theorem dX6_row_13 : decode cX6_row 13 = .ok (.if_icmp .ge 9, 3) := by decide +kernel
theorem dX6_row_16 : decode cX6_row 16 = .ok (.iload_n 3, 1) := by decide +kernel
theorem dX6_row_17 : decode cX6_row 17 = .ok (.bipush 40, 2) := by decide +kernel
theorem dX6_row_19 : decode cX6_row 19 = .ok (.if_icmp .le 6, 3) := by decide +kernel
theorem dX6_row_22 : decode cX6_row 22 = .ok (.ldc 63, 2) := by decide +kernel
theorem dX6_row_24 : decode cX6_row 24 = .ok (.ireturn, 1) := by decide +kernel
theorem dX6_row_25 : decode cX6_row 25 = .ok (.iload_n 3, 1) := by decide +kernel
theorem dX6_row_26 : decode cX6_row 26 = .ok (.ifCond .ge 9, 3) := by decide +kernel
theorem dX6_row_29 : decode cX6_row 29 = .ok (.aload_n 0, 1) := by decide +kernel
theorem dX6_row_30 : decode cX6_row 30 = .ok (.iconst 4, 1) := by decide +kernel
theorem dX6_row_31 : decode cX6_row 31 = .ok (.invokevirtual 64, 3) := by decide +kernel
theorem dX6_row_34 : decode cX6_row 34 = .ok (.ireturn, 1) := by decide +kernel
theorem dX6_row_35 : decode cX6_row 35 = .ok (.aload_n 0, 1) := by decide +kernel
theorem dX6_row_36 : decode cX6_row 36 = .ok (.getfield 11, 3) := by decide +kernel
theorem dX6_row_39 : decode cX6_row 39 = .ok (.iload_n 1, 1) := by decide +kernel
theorem dX6_row_40 : decode cX6_row 40 = .ok (.aaload, 1) := by decide +kernel
theorem dX6_row_41 : decode cX6_row 41 = .ok (.iload_n 2, 1) := by decide +kernel
theorem dX6_row_42 : decode cX6_row 42 = .ok (.iload_n 3, 1) := by decide +kernel
theorem dX6_row_43 : decode cX6_row 43 = .ok (.invokevirtual 68, 3) := by decide +kernel
theorem dX6_row_46 : decode cX6_row 46 = .ok (.aload_n 0, 1) := by decide +kernel
theorem dX6_row_47 : decode cX6_row 47 = .ok (.iload_n 3, 1) := by decide +kernel
theorem dX6_row_48 : decode cX6_row 48 = .ok (.invokevirtual 72, 3) := by decide +kernel
theorem dX6_row_51 : decode cX6_row 51 = .ok (.ireturn, 1) := by decide +kernel
set_option maxRecDepth 20000 in
theorem ggX6_set_X6_isRow : GoodIn wsX6_set wsX6_isRow := goodIn_r _ [7] (by decide +kernel) (by decide +kernel)
set_option maxRecDepth 20000 in
theorem gX6_set_X6_isRow : GoodIn wsX6_set (va_wsS RX6 59 yX6_isRow wsX6_isRow) := goodIn_app (goodIn_of _ (by decide +kernel)) ggX6_set_X6_isRow
set_option maxRecDepth 20000 in
theorem ggX6_set_X6_find : GoodIn wsX6_set wsX6_find := goodIn_r _ [11, 12, 13, 34, 35, 36, 37, 38, 39, 40, 41, 42, 43] (by decide +kernel) (by decide +kernel)
set_option maxRecDepth 20000 in
theorem gX6_set_X6_find : GoodIn wsX6_set (wsV RX6 64 RX6 yX6_find wsX6_find) := goodIn_app (goodIn_of _ (by decide +kernel)) ggX6_set_X6_find
set_option maxRecDepth 20000 in
theorem ggX6_set_X4_spans : GoodIn wsX6_set wsX4_spans := goodIn_r _ [18, 19, 44, 45, 46, 47] (by decide +kernel) (by decide +kernel)
set_option maxRecDepth 20000 in
theorem gX6_set_X4_spans : GoodIn wsX6_set (wsV RX6 79 RX4 yX4_spans wsX4_spans) := goodIn_app (goodIn_of _ (by decide +kernel)) ggX6_set_X4_spans
set_option maxRecDepth 20000 in
theorem ggX6_set_X4_put : GoodIn wsX6_set wsX4_put := goodIn_r _ [23, 24, 25, 26, 27, 17, 28, 29, 44, 45, 46, 47] (by decide +kernel) (by decide +kernel)
set_option maxRecDepth 20000 in
theorem gX6_set_X4_put : GoodIn wsX6_set (wsV RX6 83 RX4 yX4_put wsX4_put) := goodIn_app (goodIn_of _ (by decide +kernel)) ggX6_set_X4_put
set_option maxRecDepth 20000 in
theorem ggX6_set_X6_findNothing : GoodIn wsX6_set wsX6_findNothing := goodIn_r _ [33, 12, 34, 35, 36, 37, 38, 39, 40, 41, 42, 43] (by decide +kernel) (by decide +kernel)
set_option maxRecDepth 20000 in
theorem gX6_set_X6_findNothing : GoodIn wsX6_set (wsV RX6 72 RX6 yX6_findNothing wsX6_findNothing) := goodIn_app (goodIn_of _ (by decide +kernel)) ggX6_set_X6_findNothing
theorem dX6_set_0 : decode cX6_set 0 = .ok (.iload_n 1, 1) := by decide +kernel
theorem dX6_set_1 : decode cX6_set 1 = .ok (.invokestatic 59, 3) := by decide +kernel
theorem dX6_set_4 : decode cX6_set 4 = .ok (.ifCond .ne 6, 3) := by decide +kernel
theorem dX6_set_7 : decode cX6_set 7 = .ok (.ldc 63, 2) := by decide +kernel
theorem dX6_set_9 : decode cX6_set 9 = .ok (.ireturn, 1) := by decide +kernel
theorem dX6_set_10 : decode cX6_set 10 = .ok (.aload_n 0, 1) := by decide +kernel
theorem dX6_set_11 : decode cX6_set 11 = .ok (.getfield 11, 3) := by decide +kernel
theorem dX6_set_14 : decode cX6_set 14 = .ok (.iload_n 1, 1) := by decide +kernel
theorem dX6_set_15 : decode cX6_set 15 = .ok (.aaload, 1) := by decide +kernel
theorem dX6_set_16 : decode cX6_set 16 = .ok (.getfield 75, 3) := by decide +kernel
theorem dX6_set_19 : decode cX6_set 19 = .ok (.ifCond .ne 9, 3) := by decide +kernel
theorem dX6_set_22 : decode cX6_set 22 = .ok (.aload_n 0, 1) := by decide +kernel
theorem dX6_set_23 : decode cX6_set 23 = .ok (.iconst 1, 1) := by decide +kernel
theorem dX6_set_24 : decode cX6_set 24 = .ok (.invokevirtual 64, 3) := by decide +kernel
theorem dX6_set_27 : decode cX6_set 27 = .ok (.ireturn, 1) := by decide +kernel
theorem dX6_set_28 : decode cX6_set 28 = .ok (.aload_n 0, 1) := by decide +kernel
theorem dX6_set_29 : decode cX6_set 29 = .ok (.getfield 11, 3) := by decide +kernel
theorem dX6_set_32 : decode cX6_set 32 = .ok (.iload_n 1, 1) := by decide +kernel
theorem dX6_set_33 : decode cX6_set 33 = .ok (.aaload, 1) := by decide +kernel
theorem dX6_set_34 : decode cX6_set 34 = .ok (.iload_n 2, 1) := by decide +kernel
theorem dX6_set_35 : decode cX6_set 35 = .ok (.iconst 1, 1) := by decide +kernel
theorem dX6_set_36 : decode cX6_set 36 = .ok (.invokevirtual 79, 3) := by decide +kernel
theorem dX6_set_39 : decode cX6_set 39 = .ok (.ifCond .ne 9, 3) := by decide +kernel
theorem dX6_set_42 : decode cX6_set 42 = .ok (.aload_n 0, 1) := by decide +kernel
theorem dX6_set_43 : decode cX6_set 43 = .ok (.iconst 2, 1) := by decide +kernel
theorem dX6_set_44 : decode cX6_set 44 = .ok (.invokevirtual 64, 3) := by decide +kernel
theorem dX6_set_47 : decode cX6_set 47 = .ok (.ireturn, 1) := by decide +kernel
theorem dX6_set_48 : decode cX6_set 48 = .ok (.aload_n 0, 1) := by decide +kernel
theorem dX6_set_49 : decode cX6_set 49 = .ok (.aload_n 0, 1) := by decide +kernel
theorem dX6_set_50 : decode cX6_set 50 = .ok (.getfield 11, 3) := by decide +kernel
theorem dX6_set_53 : decode cX6_set 53 = .ok (.iload_n 1, 1) := by decide +kernel
theorem dX6_set_54 : decode cX6_set 54 = .ok (.aaload, 1) := by decide +kernel
theorem dX6_set_55 : decode cX6_set 55 = .ok (.iload_n 2, 1) := by decide +kernel
theorem dX6_set_56 : decode cX6_set 56 = .ok (.iload_n 3, 1) := by decide +kernel
theorem dX6_set_57 : decode cX6_set 57 = .ok (.invokevirtual 83, 3) := by decide +kernel
theorem dX6_set_60 : decode cX6_set 60 = .ok (.invokevirtual 72, 3) := by decide +kernel
theorem dX6_set_63 : decode cX6_set 63 = .ok (.ireturn, 1) := by decide +kernel
set_option maxRecDepth 20000 in
theorem ggX6_copy_X6_isRow : GoodIn wsX6_copy wsX6_isRow := goodIn_r _ [13] (by decide +kernel) (by decide +kernel)
set_option maxRecDepth 20000 in
theorem gX6_copy_X6_isRow : GoodIn wsX6_copy (va_wsS RX6 59 yX6_isRow wsX6_isRow) := goodIn_app (goodIn_of _ (by decide +kernel)) ggX6_copy_X6_isRow
set_option maxRecDepth 20000 in
theorem ggX6_copy_X6_find : GoodIn wsX6_copy wsX6_find := goodIn_r _ [17, 18, 19, 30, 31, 32, 33, 34, 35, 36, 37, 38, 39] (by decide +kernel) (by decide +kernel)
set_option maxRecDepth 20000 in
theorem gX6_copy_X6_find : GoodIn wsX6_copy (wsV RX6 64 RX6 yX6_find wsX6_find) := goodIn_app (goodIn_of _ (by decide +kernel)) ggX6_copy_X6_find
set_option maxRecDepth 20000 in
theorem ggX6_copy_X4_spans : GoodIn wsX6_copy wsX4_spans := goodIn_r _ [24, 25, 40, 41, 42, 43] (by decide +kernel) (by decide +kernel)
set_option maxRecDepth 20000 in
theorem gX6_copy_X4_spans : GoodIn wsX6_copy (wsV RX6 79 RX4 yX4_spans wsX4_spans) := goodIn_app (goodIn_of _ (by decide +kernel)) ggX6_copy_X4_spans
set_option maxRecDepth 20000 in
theorem ggX6_copy_X6_findNothing : GoodIn wsX6_copy wsX6_findNothing := goodIn_r _ [29, 18, 30, 31, 32, 33, 34, 35, 36, 37, 38, 39] (by decide +kernel) (by decide +kernel)
set_option maxRecDepth 20000 in
theorem gX6_copy_X6_findNothing : GoodIn wsX6_copy (wsV RX6 72 RX6 yX6_findNothing wsX6_findNothing) := goodIn_app (goodIn_of _ (by decide +kernel)) ggX6_copy_X6_findNothing
theorem dX6_copy_0 : decode cX6_copy 0 = .ok (.iload_n 1, 1) := by decide +kernel
theorem dX6_copy_1 : decode cX6_copy 1 = .ok (.invokestatic 59, 3) := by decide +kernel
theorem dX6_copy_4 : decode cX6_copy 4 = .ok (.ifCond .eq 10, 3) := by decide +kernel
theorem dX6_copy_7 : decode cX6_copy 7 = .ok (.iload_n 3, 1) := by decide +kernel
theorem dX6_copy_8 : decode cX6_copy 8 = .ok (.invokestatic 59, 3) := by decide +kernel
theorem dX6_copy_11 : decode cX6_copy 11 = .ok (.ifCond .ne 6, 3) := by decide +kernel
theorem dX6_copy_14 : decode cX6_copy 14 = .ok (.ldc 63, 2) := by decide +kernel
theorem dX6_copy_16 : decode cX6_copy 16 = .ok (.ireturn, 1) := by decide +kernel
theorem dX6_copy_17 : decode cX6_copy 17 = .ok (.aload_n 0, 1) := by decide +kernel
theorem dX6_copy_18 : decode cX6_copy 18 = .ok (.getfield 11, 3) := by decide +kernel
theorem dX6_copy_21 : decode cX6_copy 21 = .ok (.iload_n 1, 1) := by decide +kernel
theorem dX6_copy_22 : decode cX6_copy 22 = .ok (.aaload, 1) := by decide +kernel
theorem dX6_copy_23 : decode cX6_copy 23 = .ok (.astore 6, 2) := by decide +kernel
theorem dX6_copy_25 : decode cX6_copy 25 = .ok (.aload_n 0, 1) := by decide +kernel
theorem dX6_copy_26 : decode cX6_copy 26 = .ok (.getfield 11, 3) := by decide +kernel
theorem dX6_copy_29 : decode cX6_copy 29 = .ok (.iload_n 3, 1) := by decide +kernel
theorem dX6_copy_30 : decode cX6_copy 30 = .ok (.aaload, 1) := by decide +kernel
theorem dX6_copy_31 : decode cX6_copy 31 = .ok (.astore 7, 2) := by decide +kernel
theorem dX6_copy_33 : decode cX6_copy 33 = .ok (.aload 6, 2) := by decide +kernel
theorem dX6_copy_35 : decode cX6_copy 35 = .ok (.getfield 75, 3) := by decide +kernel
theorem dX6_copy_38 : decode cX6_copy 38 = .ok (.ifCond .eq 11, 3) := by decide +kernel
theorem dX6_copy_41 : decode cX6_copy 41 = .ok (.aload 7, 2) := by decide +kernel
theorem dX6_copy_43 : decode cX6_copy 43 = .ok (.getfield 75, 3) := by decide +kernel
theorem dX6_copy_46 : decode cX6_copy 46 = .ok (.ifCond .ne 9, 3) := by decide +kernel
theorem dX6_copy_49 : decode cX6_copy 49 = .ok (.aload_n 0, 1) := by decide +kernel
theorem dX6_copy_50 : decode cX6_copy 50 = .ok (.iconst 1, 1) := by decide +kernel
theorem dX6_copy_51 : decode cX6_copy 51 = .ok (.invokevirtual 64, 3) := by decide +kernel
theorem dX6_copy_54 : decode cX6_copy 54 = .ok (.ireturn, 1) := by decide +kernel
theorem dX6_copy_55 : decode cX6_copy 55 = .ok (.aload 6, 2) := by decide +kernel
theorem dX6_copy_57 : decode cX6_copy 57 = .ok (.getfield 87, 3) := by decide +kernel
theorem dX6_copy_60 : decode cX6_copy 60 = .ok (.aload 7, 2) := by decide +kernel
theorem dX6_copy_62 : decode cX6_copy 62 = .ok (.getfield 87, 3) := by decide +kernel
theorem dX6_copy_65 : decode cX6_copy 65 = .ok (.if_icmp .eq 9, 3) := by decide +kernel
theorem dX6_copy_68 : decode cX6_copy 68 = .ok (.aload_n 0, 1) := by decide +kernel
theorem dX6_copy_69 : decode cX6_copy 69 = .ok (.iconst 5, 1) := by decide +kernel
theorem dX6_copy_70 : decode cX6_copy 70 = .ok (.invokevirtual 64, 3) := by decide +kernel
theorem dX6_copy_73 : decode cX6_copy 73 = .ok (.ireturn, 1) := by decide +kernel
theorem dX6_copy_74 : decode cX6_copy 74 = .ok (.aload 6, 2) := by decide +kernel
theorem dX6_copy_76 : decode cX6_copy 76 = .ok (.iload_n 2, 1) := by decide +kernel
theorem dX6_copy_77 : decode cX6_copy 77 = .ok (.iload 5, 2) := by decide +kernel
theorem dX6_copy_79 : decode cX6_copy 79 = .ok (.invokevirtual 79, 3) := by decide +kernel
theorem dX6_copy_82 : decode cX6_copy 82 = .ok (.ifCond .eq 15, 3) := by decide +kernel
theorem dX6_copy_85 : decode cX6_copy 85 = .ok (.aload 7, 2) := by decide +kernel
theorem dX6_copy_87 : decode cX6_copy 87 = .ok (.iload 4, 2) := by decide +kernel
theorem dX6_copy_89 : decode cX6_copy 89 = .ok (.iload 5, 2) := by decide +kernel
theorem dX6_copy_91 : decode cX6_copy 91 = .ok (.invokevirtual 79, 3) := by decide +kernel
theorem dX6_copy_94 : decode cX6_copy 94 = .ok (.ifCond .ne 9, 3) := by decide +kernel
theorem dX6_copy_97 : decode cX6_copy 97 = .ok (.aload_n 0, 1) := by decide +kernel
theorem dX6_copy_98 : decode cX6_copy 98 = .ok (.iconst 2, 1) := by decide +kernel
theorem dX6_copy_99 : decode cX6_copy 99 = .ok (.invokevirtual 64, 3) := by decide +kernel
theorem dX6_copy_102 : decode cX6_copy 102 = .ok (.ireturn, 1) := by decide +kernel
theorem dX6_copy_103 : decode cX6_copy 103 = .ok (.aload 6, 2) := by decide +kernel
theorem dX6_copy_105 : decode cX6_copy 105 = .ok (.getfield 91, 3) := by decide +kernel
theorem dX6_copy_108 : decode cX6_copy 108 = .ok (.iload_n 2, 1) := by decide +kernel
theorem dX6_copy_109 : decode cX6_copy 109 = .ok (.aload 7, 2) := by decide +kernel
theorem dX6_copy_111 : decode cX6_copy 111 = .ok (.getfield 91, 3) := by decide +kernel
theorem dX6_copy_114 : decode cX6_copy 114 = .ok (.iload 4, 2) := by decide +kernel
theorem dX6_copy_116 : decode cX6_copy 116 = .ok (.iload 5, 2) := by decide +kernel
theorem dX6_copy_118 : decode cX6_copy 118 = .ok (.invokestatic 94, 3) := by decide +kernel
theorem dX6_copy_121 : decode cX6_copy 121 = .ok (.aload_n 0, 1) := by decide +kernel
theorem dX6_copy_122 : decode cX6_copy 122 = .ok (.iload 5, 2) := by decide +kernel
theorem dX6_copy_124 : decode cX6_copy 124 = .ok (.invokevirtual 72, 3) := by decide +kernel
theorem dX6_copy_127 : decode cX6_copy 127 = .ok (.ireturn, 1) := by decide +kernel
set_option maxRecDepth 20000 in
theorem ggX6_drop_X6_isRow : GoodIn wsX6_drop wsX6_isRow := goodIn_r _ [8] (by decide +kernel) (by decide +kernel)
set_option maxRecDepth 20000 in
theorem gX6_drop_X6_isRow : GoodIn wsX6_drop (va_wsS RX6 59 yX6_isRow wsX6_isRow) := goodIn_app (goodIn_of _ (by decide +kernel)) ggX6_drop_X6_isRow
set_option maxRecDepth 20000 in
theorem ggX6_drop_X6_find : GoodIn wsX6_drop wsX6_find := goodIn_r _ [12, 13, 14, 19, 20, 21, 22, 23, 24, 25, 26, 27, 28] (by decide +kernel) (by decide +kernel)
set_option maxRecDepth 20000 in
theorem gX6_drop_X6_find : GoodIn wsX6_drop (wsV RX6 64 RX6 yX6_find wsX6_find) := goodIn_app (goodIn_of _ (by decide +kernel)) ggX6_drop_X6_find
set_option maxRecDepth 20000 in
theorem ggX6_drop_X6_findNothing : GoodIn wsX6_drop wsX6_findNothing := goodIn_r _ [18, 13, 19, 20, 21, 22, 23, 24, 25, 26, 27, 28] (by decide +kernel) (by decide +kernel)
set_option maxRecDepth 20000 in
theorem gX6_drop_X6_findNothing : GoodIn wsX6_drop (wsV RX6 72 RX6 yX6_findNothing wsX6_findNothing) := goodIn_app (goodIn_of _ (by decide +kernel)) ggX6_drop_X6_findNothing
theorem dX6_drop_0 : decode cX6_drop 0 = .ok (.iload_n 1, 1) := by decide +kernel
theorem dX6_drop_1 : decode cX6_drop 1 = .ok (.invokestatic 59, 3) := by decide +kernel
theorem dX6_drop_4 : decode cX6_drop 4 = .ok (.ifCond .ne 6, 3) := by decide +kernel
theorem dX6_drop_7 : decode cX6_drop 7 = .ok (.ldc 63, 2) := by decide +kernel
theorem dX6_drop_9 : decode cX6_drop 9 = .ok (.ireturn, 1) := by decide +kernel
theorem dX6_drop_10 : decode cX6_drop 10 = .ok (.aload_n 0, 1) := by decide +kernel
theorem dX6_drop_11 : decode cX6_drop 11 = .ok (.getfield 11, 3) := by decide +kernel
theorem dX6_drop_14 : decode cX6_drop 14 = .ok (.iload_n 1, 1) := by decide +kernel
theorem dX6_drop_15 : decode cX6_drop 15 = .ok (.aaload, 1) := by decide +kernel
theorem dX6_drop_16 : decode cX6_drop 16 = .ok (.getfield 75, 3) := by decide +kernel
theorem dX6_drop_19 : decode cX6_drop 19 = .ok (.ifCond .ne 9, 3) := by decide +kernel
theorem dX6_drop_22 : decode cX6_drop 22 = .ok (.aload_n 0, 1) := by decide +kernel
theorem dX6_drop_23 : decode cX6_drop 23 = .ok (.iconst 1, 1) := by decide +kernel
theorem dX6_drop_24 : decode cX6_drop 24 = .ok (.invokevirtual 64, 3) := by decide +kernel
theorem dX6_drop_27 : decode cX6_drop 27 = .ok (.ireturn, 1) := by decide +kernel
theorem dX6_drop_28 : decode cX6_drop 28 = .ok (.aload_n 0, 1) := by decide +kernel
theorem dX6_drop_29 : decode cX6_drop 29 = .ok (.getfield 11, 3) := by decide +kernel
theorem dX6_drop_32 : decode cX6_drop 32 = .ok (.iload_n 1, 1) := by decide +kernel
theorem dX6_drop_33 : decode cX6_drop 33 = .ok (.aaload, 1) := by decide +kernel
theorem dX6_drop_34 : decode cX6_drop 34 = .ok (.iconst 0, 1) := by decide +kernel
theorem dX6_drop_35 : decode cX6_drop 35 = .ok (.putfield 75, 3) := by decide +kernel
theorem dX6_drop_38 : decode cX6_drop 38 = .ok (.aload_n 0, 1) := by decide +kernel
theorem dX6_drop_39 : decode cX6_drop 39 = .ok (.aload_n 0, 1) := by decide +kernel
theorem dX6_drop_40 : decode cX6_drop 40 = .ok (.getfield 11, 3) := by decide +kernel
theorem dX6_drop_43 : decode cX6_drop 43 = .ok (.iload_n 1, 1) := by decide +kernel
theorem dX6_drop_44 : decode cX6_drop 44 = .ok (.aaload, 1) := by decide +kernel
theorem dX6_drop_45 : decode cX6_drop 45 = .ok (.getfield 100, 3) := by decide +kernel
theorem dX6_drop_48 : decode cX6_drop 48 = .ok (.invokevirtual 72, 3) := by decide +kernel
theorem dX6_drop_51 : decode cX6_drop 51 = .ok (.ireturn, 1) := by decide +kernel
set_option maxRecDepth 20000 in
theorem ggX6_feed_X3_take : GoodIn wsX6_feed wsX3_take := goodIn_r _ [9, 10, 11, 22, 23, 24, 25, 26] (by decide +kernel) (by decide +kernel)
set_option maxRecDepth 20000 in
theorem gX6_feed_X3_take : GoodIn wsX6_feed (wsV RX6 103 RX3 yX3_take wsX3_take) := goodIn_app (goodIn_of _ (by decide +kernel)) ggX6_feed_X3_take
theorem dX6_feed_0 : decode cX6_feed 0 = .ok (.iload_n 1, 1) := by decide +kernel
theorem dX6_feed_1 : decode cX6_feed 1 = .ok (.ifCond .lt 10, 3) := by decide +kernel
theorem dX6_feed_4 : decode cX6_feed 4 = .ok (.iload_n 1, 1) := by decide +kernel
theorem dX6_feed_5 : decode cX6_feed 5 = .ok (.sipush 255, 3) := by decide +kernel
theorem dX6_feed_8 : decode cX6_feed 8 = .ok (.if_icmp .le 6, 3) := by decide +kernel
theorem dX6_feed_11 : decode cX6_feed 11 = .ok (.ldc 63, 2) := by decide +kernel
theorem dX6_feed_13 : decode cX6_feed 13 = .ok (.ireturn, 1) := by decide +kernel
theorem dX6_feed_14 : decode cX6_feed 14 = .ok (.aload_n 0, 1) := by decide +kernel
theorem dX6_feed_15 : decode cX6_feed 15 = .ok (.getfield 18, 3) := by decide +kernel
theorem dX6_feed_18 : decode cX6_feed 18 = .ok (.iload_n 1, 1) := by decide +kernel
theorem dX6_feed_19 : decode cX6_feed 19 = .ok (.invokevirtual 103, 3) := by decide +kernel
theorem dX6_feed_22 : decode cX6_feed 22 = .ok (.ifCond .eq 13, 3) := by decide +kernel
theorem dX6_feed_25 : decode cX6_feed 25 = .ok (.aload_n 0, 1) := by decide +kernel
theorem dX6_feed_26 : decode cX6_feed 26 = .ok (.getfield 18, 3) := by decide +kernel
theorem dX6_feed_29 : decode cX6_feed 29 = .ok (.getfield 106, 3) := by decide +kernel
theorem dX6_feed_32 : decode cX6_feed 32 = .ok (.goto 5, 3) := by decide +kernel
theorem dX6_feed_35 : decode cX6_feed 35 = .ok (.ldc 107, 2) := by decide +kernel
theorem dX6_feed_37 : decode cX6_feed 37 = .ok (.ireturn, 1) := by decide +kernel
set_option maxRecDepth 20000 in
theorem ggX6_wedding_X3_read : GoodIn wsX6_wedding wsX3_read := goodIn_r _ [12, 13, 14, 15, 16, 17, 18, 19, 20, 11, 21, 22, 23, 24, 25, 26, 27, 28, 29, 30, 31, 32, 33, 34, 35, 36, 37, 38, 39, 40, 41, 42, 43, 44, 45, 46, 47, 48, 49, 50, 51, 52, 53, 54, 55, 56, 57, 58, 59, 60, 61, 91, 92, 93, 94, 95, 96, 97, 98, 99, 100, 101, 102, 103, 104, 105, 106, 107, 108, 109, 110] (by decide +kernel) (by decide +kernel)
set_option maxRecDepth 20000 in
theorem gX6_wedding_X3_read : GoodIn wsX6_wedding (wsV RX6 108 RX3 yX3_read wsX3_read) := goodIn_app (goodIn_of _ (by decide +kernel)) ggX6_wedding_X3_read
set_option maxRecDepth 20000 in
theorem ggX6_wedding_X5_become : GoodIn wsX6_wedding wsX5_become := goodIn_r _ [65, 54, 66, 67, 68, 69, 70, 61, 53, 71, 72, 73, 74, 55, 57, 56, 58, 59, 60, 96, 97, 98, 99, 100, 101, 102, 103, 104, 105, 106, 107, 108, 109, 110] (by decide +kernel) (by decide +kernel)
set_option maxRecDepth 20000 in
theorem gX6_wedding_X5_become : GoodIn wsX6_wedding (wsV RX6 119 RX5 yX5_become wsX5_become) := goodIn_app (goodIn_of _ (by decide +kernel)) ggX6_wedding_X5_become
set_option maxRecDepth 20000 in
theorem ggX6_wedding_X0_forget : GoodIn wsX6_wedding wsX0_forget := goodIn_r _ [79, 80, 111, 112, 113] (by decide +kernel) (by decide +kernel)
set_option maxRecDepth 20000 in
theorem gX6_wedding_X0_forget : GoodIn wsX6_wedding (wsV RX6 123 RX0 yX0_forget wsX0_forget) := goodIn_app (goodIn_of _ (by decide +kernel)) ggX6_wedding_X0_forget
theorem dX6_wedding_0 : decode cX6_wedding 0 = .ok (.aload_n 0, 1) := by decide +kernel
theorem dX6_wedding_1 : decode cX6_wedding 1 = .ok (.getfield 18, 3) := by decide +kernel
theorem dX6_wedding_4 : decode cX6_wedding 4 = .ok (.invokevirtual 108, 3) := by decide +kernel
theorem dX6_wedding_7 : decode cX6_wedding 7 = .ok (.istore_n 1, 1) := by decide +kernel
theorem dX6_wedding_8 : decode cX6_wedding 8 = .ok (.iload_n 1, 1) := by decide +kernel
theorem dX6_wedding_9 : decode cX6_wedding 9 = .ok (.ifCond .ne 14, 3) := by decide +kernel
theorem dX6_wedding_12 : decode cX6_wedding 12 = .ok (.ldc 112, 2) := by decide +kernel
theorem dX6_wedding_14 : decode cX6_wedding 14 = .ok (.aload_n 0, 1) := by decide +kernel
theorem dX6_wedding_15 : decode cX6_wedding 15 = .ok (.getfield 18, 3) := by decide +kernel
theorem dX6_wedding_18 : decode cX6_wedding 18 = .ok (.getfield 113, 3) := by decide +kernel
theorem dX6_wedding_21 : decode cX6_wedding 21 = .ok (.isub, 1) := by decide +kernel
theorem dX6_wedding_22 : decode cX6_wedding 22 = .ok (.ireturn, 1) := by decide +kernel
theorem dX6_wedding_23 : decode cX6_wedding 23 = .ok (.aload_n 0, 1) := by decide +kernel
theorem dX6_wedding_24 : decode cX6_wedding 24 = .ok (.getfield 25, 3) := by decide +kernel
theorem dX6_wedding_27 : decode cX6_wedding 27 = .ok (.aload_n 0, 1) := by decide +kernel
theorem dX6_wedding_28 : decode cX6_wedding 28 = .ok (.getfield 18, 3) := by decide +kernel
theorem dX6_wedding_31 : decode cX6_wedding 31 = .ok (.getfield 116, 3) := by decide +kernel
theorem dX6_wedding_34 : decode cX6_wedding 34 = .ok (.invokevirtual 119, 3) := by decide +kernel
theorem dX6_wedding_37 : decode cX6_wedding 37 = .ok (.aload_n 0, 1) := by decide +kernel
theorem dX6_wedding_38 : decode cX6_wedding 38 = .ok (.getfield 32, 3) := by decide +kernel
theorem dX6_wedding_41 : decode cX6_wedding 41 = .ok (.invokevirtual 123, 3) := by decide +kernel
theorem dX6_wedding_44 : decode cX6_wedding 44 = .ok (.aload_n 0, 1) := by decide +kernel
theorem dX6_wedding_45 : decode cX6_wedding 45 = .ok (.getfield 25, 3) := by decide +kernel
theorem dX6_wedding_48 : decode cX6_wedding 48 = .ok (.getfield 126, 3) := by decide +kernel
theorem dX6_wedding_51 : decode cX6_wedding 51 = .ok (.ireturn, 1) := by decide +kernel
theorem dX6_fault_0 : decode cX6_fault 0 = .ok (.aload_n 0, 1) := by decide +kernel
theorem dX6_fault_1 : decode cX6_fault 1 = .ok (.getfield 18, 3) := by decide +kernel
theorem dX6_fault_4 : decode cX6_fault 4 = .ok (.getfield 129, 3) := by decide +kernel
theorem dX6_fault_7 : decode cX6_fault 7 = .ok (.ireturn, 1) := by decide +kernel
set_option maxRecDepth 20000 in
theorem ggX6_minutes_X6_isNone : GoodIn wsX6_minutes wsX6_isNone := goodIn_r _ [12, 3, 13, 71, 72, 73, 74, 75, 76, 77, 78, 79, 80, 81, 82, 83, 84, 85, 86, 87, 88, 89, 90, 91, 92, 93, 94, 95] (by decide +kernel) (by decide +kernel)
set_option maxRecDepth 20000 in
theorem gX6_minutes_X6_isNone : GoodIn wsX6_minutes (wsV RX6 132 RX6 yX6_isNone wsX6_isNone) := goodIn_app (goodIn_of _ (by decide +kernel)) ggX6_minutes_X6_isNone
set_option maxRecDepth 20000 in
theorem ggX6_minutes_X0_keep : GoodIn wsX6_minutes wsX0_keep := goodIn_r _ [18, 19, 20, 21, 22, 23, 24, 25, 26, 27, 28, 29, 30, 31, 32, 33, 34, 35, 36, 37, 38, 39, 40, 41, 42, 43, 44, 45, 46, 47, 48, 96, 97, 98, 81, 82, 83, 84, 85, 86, 87, 88, 89, 90, 91, 92, 93, 94, 95] (by decide +kernel) (by decide +kernel)
set_option maxRecDepth 20000 in
theorem gX6_minutes_X0_keep : GoodIn wsX6_minutes (wsV RX6 139 RX0 yX0_keep wsX0_keep) := goodIn_app (goodIn_of _ (by decide +kernel)) ggX6_minutes_X0_keep
set_option maxRecDepth 20000 in
theorem ggX6_minutes_X5_pass : GoodIn wsX6_minutes wsX5_pass := goodIn_r _ [52, 31, 53, 46, 45, 38, 44, 35, 54, 23, 24, 25, 55, 56, 57, 58, 36, 34, 59, 60, 61, 29, 62, 37, 63, 64, 65, 66, 47, 43, 33, 67, 68, 69, 70, 48, 81, 82, 83, 84, 85, 86, 87, 88, 89, 90, 91, 92, 93, 94, 95] (by decide +kernel) (by decide +kernel)
set_option maxRecDepth 20000 in
theorem gX6_minutes_X5_pass : GoodIn wsX6_minutes (wsV RX6 142 RX5 yX5_pass wsX5_pass) := goodIn_app (goodIn_of _ (by decide +kernel)) ggX6_minutes_X5_pass
theorem dX6_minutes_0 : decode cX6_minutes 0 = .ok (.aload_n 0, 1) := by decide +kernel
theorem dX6_minutes_1 : decode cX6_minutes 1 = .ok (.invokevirtual 132, 3) := by decide +kernel
theorem dX6_minutes_4 : decode cX6_minutes 4 = .ok (.ifCond .eq 6, 3) := by decide +kernel
theorem dX6_minutes_7 : decode cX6_minutes 7 = .ok (.ldc 135, 2) := by decide +kernel
theorem dX6_minutes_9 : decode cX6_minutes 9 = .ok (.ireturn, 1) := by decide +kernel
theorem dX6_minutes_10 : decode cX6_minutes 10 = .ok (.iload_n 1, 1) := by decide +kernel
theorem dX6_minutes_11 : decode cX6_minutes 11 = .ok (.iconst 1, 1) := by decide +kernel
theorem dX6_minutes_12 : decode cX6_minutes 12 = .ok (.if_icmp .lt 9, 3) := by decide +kernel
theorem dX6_minutes_15 : decode cX6_minutes 15 = .ok (.iload_n 1, 1) := by decide +kernel
theorem dX6_minutes_16 : decode cX6_minutes 16 = .ok (.bipush 24, 2) := by decide +kernel
theorem dX6_minutes_18 : decode cX6_minutes 18 = .ok (.if_icmp .le 6, 3) := by decide +kernel
theorem dX6_minutes_21 : decode cX6_minutes 21 = .ok (.ldc 63, 2) := by decide +kernel
theorem dX6_minutes_23 : decode cX6_minutes 23 = .ok (.ireturn, 1) := by decide +kernel
theorem dX6_minutes_24 : decode cX6_minutes 24 = .ok (.aload_n 0, 1) := by decide +kernel
theorem dX6_minutes_25 : decode cX6_minutes 25 = .ok (.getfield 25, 3) := by decide +kernel
theorem dX6_minutes_28 : decode cX6_minutes 28 = .ok (.getfield 136, 3) := by decide +kernel
theorem dX6_minutes_31 : decode cX6_minutes 31 = .ok (.sipush 9999, 3) := by decide +kernel
theorem dX6_minutes_34 : decode cX6_minutes 34 = .ok (.iload_n 1, 1) := by decide +kernel
theorem dX6_minutes_35 : decode cX6_minutes 35 = .ok (.isub, 1) := by decide +kernel
theorem dX6_minutes_36 : decode cX6_minutes 36 = .ok (.if_icmp .le 6, 3) := by decide +kernel
theorem dX6_minutes_39 : decode cX6_minutes 39 = .ok (.ldc 107, 2) := by decide +kernel
theorem dX6_minutes_41 : decode cX6_minutes 41 = .ok (.ireturn, 1) := by decide +kernel
theorem dX6_minutes_42 : decode cX6_minutes 42 = .ok (.iconst 0, 1) := by decide +kernel
theorem dX6_minutes_43 : decode cX6_minutes 43 = .ok (.istore_n 2, 1) := by decide +kernel
theorem dX6_minutes_44 : decode cX6_minutes 44 = .ok (.iload_n 2, 1) := by decide +kernel
theorem dX6_minutes_45 : decode cX6_minutes 45 = .ok (.iload_n 1, 1) := by decide +kernel
theorem dX6_minutes_46 : decode cX6_minutes 46 = .ok (.if_icmp .ge 27, 3) := by decide +kernel
theorem dX6_minutes_49 : decode cX6_minutes 49 = .ok (.aload_n 0, 1) := by decide +kernel
theorem dX6_minutes_50 : decode cX6_minutes 50 = .ok (.getfield 32, 3) := by decide +kernel
theorem dX6_minutes_53 : decode cX6_minutes 53 = .ok (.aload_n 0, 1) := by decide +kernel
theorem dX6_minutes_54 : decode cX6_minutes 54 = .ok (.getfield 25, 3) := by decide +kernel
theorem dX6_minutes_57 : decode cX6_minutes 57 = .ok (.invokevirtual 139, 3) := by decide +kernel
theorem dX6_minutes_60 : decode cX6_minutes 60 = .ok (.aload_n 0, 1) := by decide +kernel
theorem dX6_minutes_61 : decode cX6_minutes 61 = .ok (.getfield 25, 3) := by decide +kernel
theorem dX6_minutes_64 : decode cX6_minutes 64 = .ok (.invokevirtual 142, 3) := by decide +kernel
theorem dX6_minutes_67 : decode cX6_minutes 67 = .ok (.iinc 2 1, 3) := by decide +kernel
theorem dX6_minutes_70 : decode cX6_minutes 70 = .ok (.goto (-26), 3) := by decide +kernel
theorem dX6_minutes_73 : decode cX6_minutes 73 = .ok (.aload_n 0, 1) := by decide +kernel
theorem dX6_minutes_74 : decode cX6_minutes 74 = .ok (.getfield 25, 3) := by decide +kernel
theorem dX6_minutes_77 : decode cX6_minutes 77 = .ok (.getfield 145, 3) := by decide +kernel
theorem dX6_minutes_80 : decode cX6_minutes 80 = .ok (.ireturn, 1) := by decide +kernel
set_option maxRecDepth 20000 in
theorem ggX6_hire_X5_has : GoodIn wsX6_hire wsX5_has := goodIn_r _ [10, 11, 64, 65, 66, 67, 68, 69, 70, 71, 72, 73, 74, 75, 76, 77, 78] (by decide +kernel) (by decide +kernel)
set_option maxRecDepth 20000 in
theorem gX6_hire_X5_has : GoodIn wsX6_hire (wsV RX6 148 RX5 yX5_has wsX5_has) := goodIn_app (goodIn_of _ (by decide +kernel)) ggX6_hire_X5_has
set_option maxRecDepth 20000 in
theorem ggX6_hire_X5_isHired : GoodIn wsX6_hire wsX5_isHired := goodIn_r _ [15, 16, 64, 65, 66, 67, 68, 69, 70, 71, 72, 73, 74, 75, 76, 77, 78] (by decide +kernel) (by decide +kernel)
set_option maxRecDepth 20000 in
theorem gX6_hire_X5_isHired : GoodIn wsX6_hire (wsV RX6 151 RX5 yX5_isHired wsX5_isHired) := goodIn_app (goodIn_of _ (by decide +kernel)) ggX6_hire_X5_isHired
set_option maxRecDepth 20000 in
theorem ggX6_hire_X0_keep : GoodIn wsX6_hire wsX0_keep := goodIn_r _ [21, 22, 23, 24, 25, 26, 27, 28, 29, 30, 31, 9, 32, 11, 33, 34, 35, 36, 37, 16, 38, 39, 40, 41, 42, 43, 44, 45, 46, 47, 48, 79, 80, 81, 64, 65, 66, 67, 68, 69, 70, 71, 72, 73, 74, 75, 76, 77, 78] (by decide +kernel) (by decide +kernel)
set_option maxRecDepth 20000 in
theorem gX6_hire_X0_keep : GoodIn wsX6_hire (wsV RX6 139 RX0 yX0_keep wsX0_keep) := goodIn_app (goodIn_of _ (by decide +kernel)) ggX6_hire_X0_keep
set_option maxRecDepth 20000 in
theorem ggX6_hire_X5_engage : GoodIn wsX6_hire wsX5_engage := goodIn_r _ [52, 16, 11, 46, 53, 13, 14, 9, 15, 64, 65, 66, 67, 68, 69, 70, 71, 72, 73, 74, 75, 76, 77, 78] (by decide +kernel) (by decide +kernel)
set_option maxRecDepth 20000 in
theorem gX6_hire_X5_engage : GoodIn wsX6_hire (wsV RX6 157 RX5 yX5_engage wsX5_engage) := goodIn_app (goodIn_of _ (by decide +kernel)) ggX6_hire_X5_engage
theorem dX6_hire_0 : decode cX6_hire 0 = .ok (.aload_n 0, 1) := by decide +kernel
theorem dX6_hire_1 : decode cX6_hire 1 = .ok (.getfield 25, 3) := by decide +kernel
theorem dX6_hire_4 : decode cX6_hire 4 = .ok (.iload_n 1, 1) := by decide +kernel
theorem dX6_hire_5 : decode cX6_hire 5 = .ok (.invokevirtual 148, 3) := by decide +kernel
theorem dX6_hire_8 : decode cX6_hire 8 = .ok (.ifCond .eq 12, 3) := by decide +kernel
theorem dX6_hire_11 : decode cX6_hire 11 = .ok (.iload_n 2, 1) := by decide +kernel
theorem dX6_hire_12 : decode cX6_hire 12 = .ok (.ifCond .lt 8, 3) := by decide +kernel
theorem dX6_hire_15 : decode cX6_hire 15 = .ok (.iload_n 2, 1) := by decide +kernel
theorem dX6_hire_16 : decode cX6_hire 16 = .ok (.iconst 1, 1) := by decide +kernel
theorem dX6_hire_17 : decode cX6_hire 17 = .ok (.if_icmp .le 6, 3) := by decide +kernel
theorem dX6_hire_20 : decode cX6_hire 20 = .ok (.ldc 63, 2) := by decide +kernel
theorem dX6_hire_22 : decode cX6_hire 22 = .ok (.ireturn, 1) := by decide +kernel
theorem dX6_hire_23 : decode cX6_hire 23 = .ok (.aload_n 0, 1) := by decide +kernel
theorem dX6_hire_24 : decode cX6_hire 24 = .ok (.getfield 25, 3) := by decide +kernel
theorem dX6_hire_27 : decode cX6_hire 27 = .ok (.iload_n 1, 1) := by decide +kernel
theorem dX6_hire_28 : decode cX6_hire 28 = .ok (.invokevirtual 151, 3) := by decide +kernel
theorem dX6_hire_31 : decode cX6_hire 31 = .ok (.iload_n 2, 1) := by decide +kernel
theorem dX6_hire_32 : decode cX6_hire 32 = .ok (.iconst 1, 1) := by decide +kernel
theorem dX6_hire_33 : decode cX6_hire 33 = .ok (.if_icmp .ne 7, 3) := by decide +kernel
theorem dX6_hire_36 : decode cX6_hire 36 = .ok (.iconst 1, 1) := by decide +kernel
theorem dX6_hire_37 : decode cX6_hire 37 = .ok (.goto 4, 3) := by decide +kernel
theorem dX6_hire_40 : decode cX6_hire 40 = .ok (.iconst 0, 1) := by decide +kernel
theorem dX6_hire_41 : decode cX6_hire 41 = .ok (.if_icmp .ne 6, 3) := by decide +kernel
theorem dX6_hire_44 : decode cX6_hire 44 = .ok (.ldc 135, 2) := by decide +kernel
theorem dX6_hire_46 : decode cX6_hire 46 = .ok (.ireturn, 1) := by decide +kernel
theorem dX6_hire_47 : decode cX6_hire 47 = .ok (.aload_n 0, 1) := by decide +kernel
theorem dX6_hire_48 : decode cX6_hire 48 = .ok (.getfield 32, 3) := by decide +kernel
theorem dX6_hire_51 : decode cX6_hire 51 = .ok (.aload_n 0, 1) := by decide +kernel
theorem dX6_hire_52 : decode cX6_hire 52 = .ok (.getfield 25, 3) := by decide +kernel
theorem dX6_hire_55 : decode cX6_hire 55 = .ok (.invokevirtual 139, 3) := by decide +kernel
theorem dX6_hire_58 : decode cX6_hire 58 = .ok (.aload_n 0, 1) := by decide +kernel
theorem dX6_hire_59 : decode cX6_hire 59 = .ok (.getfield 25, 3) := by decide +kernel
theorem dX6_hire_62 : decode cX6_hire 62 = .ok (.aload_n 0, 1) := by decide +kernel
theorem dX6_hire_63 : decode cX6_hire 63 = .ok (.getfield 25, 3) := by decide +kernel
theorem dX6_hire_66 : decode cX6_hire 66 = .ok (.getfield 154, 3) := by decide +kernel
theorem dX6_hire_69 : decode cX6_hire 69 = .ok (.iconst 1, 1) := by decide +kernel
theorem dX6_hire_70 : decode cX6_hire 70 = .ok (.iload_n 1, 1) := by decide +kernel
theorem dX6_hire_71 : decode cX6_hire 71 = .ok (.ishl, 1) := by decide +kernel
theorem dX6_hire_72 : decode cX6_hire 72 = .ok (.ixor, 1) := by decide +kernel
theorem dX6_hire_73 : decode cX6_hire 73 = .ok (.invokevirtual 157, 3) := by decide +kernel
theorem dX6_hire_76 : decode cX6_hire 76 = .ok (.aload_n 0, 1) := by decide +kernel
theorem dX6_hire_77 : decode cX6_hire 77 = .ok (.getfield 25, 3) := by decide +kernel
theorem dX6_hire_80 : decode cX6_hire 80 = .ok (.getfield 154, 3) := by decide +kernel
theorem dX6_hire_83 : decode cX6_hire 83 = .ok (.ireturn, 1) := by decide +kernel
set_option maxRecDepth 20000 in
theorem ggX6_swap_X5_has : GoodIn wsX6_swap wsX5_has := goodIn_r _ [9, 10, 62, 63, 64, 65, 66, 67, 68, 69, 70, 71, 72, 73, 74, 75, 76] (by decide +kernel) (by decide +kernel)
set_option maxRecDepth 20000 in
theorem gX6_swap_X5_has : GoodIn wsX6_swap (wsV RX6 148 RX5 yX5_has wsX5_has) := goodIn_app (goodIn_of _ (by decide +kernel)) ggX6_swap_X5_has
set_option maxRecDepth 20000 in
theorem ggX6_swap_X0_keep : GoodIn wsX6_swap wsX0_keep := goodIn_r _ [15, 16, 17, 18, 19, 20, 21, 22, 23, 24, 25, 8, 26, 10, 27, 28, 29, 30, 31, 32, 33, 34, 35, 36, 37, 38, 39, 40, 41, 42, 43, 77, 78, 79, 62, 63, 64, 65, 66, 67, 68, 69, 70, 71, 72, 73, 74, 75, 76] (by decide +kernel) (by decide +kernel)
set_option maxRecDepth 20000 in
theorem gX6_swap_X0_keep : GoodIn wsX6_swap (wsV RX6 139 RX0 yX0_keep wsX0_keep) := goodIn_app (goodIn_of _ (by decide +kernel)) ggX6_swap_X0_keep
set_option maxRecDepth 20000 in
theorem ggX6_swap_X5_trade : GoodIn wsX6_swap wsX5_trade := goodIn_r _ [47, 42, 48, 49, 50, 8, 51, 43, 62, 63, 64, 65, 66, 67, 68, 69, 70, 71, 72, 73, 74, 75, 76] (by decide +kernel) (by decide +kernel)
set_option maxRecDepth 20000 in
theorem gX6_swap_X5_trade : GoodIn wsX6_swap (wsV RX6 161 RX5 yX5_trade wsX5_trade) := goodIn_app (goodIn_of _ (by decide +kernel)) ggX6_swap_X5_trade
theorem dX6_swap_0 : decode cX6_swap 0 = .ok (.aload_n 0, 1) := by decide +kernel
theorem dX6_swap_1 : decode cX6_swap 1 = .ok (.getfield 25, 3) := by decide +kernel
theorem dX6_swap_4 : decode cX6_swap 4 = .ok (.iload_n 1, 1) := by decide +kernel
theorem dX6_swap_5 : decode cX6_swap 5 = .ok (.invokevirtual 148, 3) := by decide +kernel
theorem dX6_swap_8 : decode cX6_swap 8 = .ok (.ifCond .eq 19, 3) := by decide +kernel
theorem dX6_swap_11 : decode cX6_swap 11 = .ok (.aload_n 0, 1) := by decide +kernel
theorem dX6_swap_12 : decode cX6_swap 12 = .ok (.getfield 25, 3) := by decide +kernel
theorem dX6_swap_15 : decode cX6_swap 15 = .ok (.iload_n 2, 1) := by decide +kernel
theorem dX6_swap_16 : decode cX6_swap 16 = .ok (.invokevirtual 148, 3) := by decide +kernel
theorem dX6_swap_19 : decode cX6_swap 19 = .ok (.ifCond .eq 8, 3) := by decide +kernel
theorem dX6_swap_22 : decode cX6_swap 22 = .ok (.iload_n 1, 1) := by decide +kernel
theorem dX6_swap_23 : decode cX6_swap 23 = .ok (.iload_n 2, 1) := by decide +kernel
theorem dX6_swap_24 : decode cX6_swap 24 = .ok (.if_icmp .ne 6, 3) := by decide +kernel
theorem dX6_swap_27 : decode cX6_swap 27 = .ok (.ldc 63, 2) := by decide +kernel
theorem dX6_swap_29 : decode cX6_swap 29 = .ok (.ireturn, 1) := by decide +kernel
theorem dX6_swap_30 : decode cX6_swap 30 = .ok (.aload_n 0, 1) := by decide +kernel
theorem dX6_swap_31 : decode cX6_swap 31 = .ok (.getfield 32, 3) := by decide +kernel
theorem dX6_swap_34 : decode cX6_swap 34 = .ok (.aload_n 0, 1) := by decide +kernel
theorem dX6_swap_35 : decode cX6_swap 35 = .ok (.getfield 25, 3) := by decide +kernel
theorem dX6_swap_38 : decode cX6_swap 38 = .ok (.invokevirtual 139, 3) := by decide +kernel
theorem dX6_swap_41 : decode cX6_swap 41 = .ok (.aload_n 0, 1) := by decide +kernel
theorem dX6_swap_42 : decode cX6_swap 42 = .ok (.getfield 25, 3) := by decide +kernel
theorem dX6_swap_45 : decode cX6_swap 45 = .ok (.iload_n 1, 1) := by decide +kernel
theorem dX6_swap_46 : decode cX6_swap 46 = .ok (.iload_n 2, 1) := by decide +kernel
theorem dX6_swap_47 : decode cX6_swap 47 = .ok (.invokevirtual 161, 3) := by decide +kernel
theorem dX6_swap_50 : decode cX6_swap 50 = .ok (.aload_n 0, 1) := by decide +kernel
theorem dX6_swap_51 : decode cX6_swap 51 = .ok (.getfield 25, 3) := by decide +kernel
theorem dX6_swap_54 : decode cX6_swap 54 = .ok (.getfield 164, 3) := by decide +kernel
theorem dX6_swap_57 : decode cX6_swap 57 = .ok (.iload_n 1, 1) := by decide +kernel
theorem dX6_swap_58 : decode cX6_swap 58 = .ok (.iaload, 1) := by decide +kernel
theorem dX6_swap_59 : decode cX6_swap 59 = .ok (.ireturn, 1) := by decide +kernel
set_option maxRecDepth 20000 in
theorem ggX6_hymns_X6_isNone : GoodIn wsX6_hymns wsX6_isNone := goodIn_r _ [10, 4, 11, 47, 48, 49, 50, 51, 52, 53, 54, 55, 56, 57, 58, 59, 60, 61, 62, 63, 64, 65, 66, 67, 68, 69, 70, 71] (by decide +kernel) (by decide +kernel)
set_option maxRecDepth 20000 in
theorem gX6_hymns_X6_isNone : GoodIn wsX6_hymns (wsV RX6 132 RX6 yX6_isNone wsX6_isNone) := goodIn_app (goodIn_of _ (by decide +kernel)) ggX6_hymns_X6_isNone
set_option maxRecDepth 20000 in
theorem ggX6_hymns_X0_keep : GoodIn wsX6_hymns wsX0_keep := goodIn_r _ [16, 17, 18, 19, 20, 21, 22, 23, 24, 25, 26, 27, 28, 29, 30, 31, 32, 33, 34, 35, 36, 37, 38, 39, 40, 41, 42, 43, 44, 45, 46, 72, 73, 74, 57, 58, 59, 60, 61, 62, 63, 64, 65, 66, 67, 68, 69, 70, 71] (by decide +kernel) (by decide +kernel)
set_option maxRecDepth 20000 in
theorem gX6_hymns_X0_keep : GoodIn wsX6_hymns (wsV RX6 139 RX0 yX0_keep wsX0_keep) := goodIn_app (goodIn_of _ (by decide +kernel)) ggX6_hymns_X0_keep
theorem dX6_hymns_0 : decode cX6_hymns 0 = .ok (.aload_n 0, 1) := by decide +kernel
theorem dX6_hymns_1 : decode cX6_hymns 1 = .ok (.invokevirtual 132, 3) := by decide +kernel
theorem dX6_hymns_4 : decode cX6_hymns 4 = .ok (.ifCond .eq 6, 3) := by decide +kernel
theorem dX6_hymns_7 : decode cX6_hymns 7 = .ok (.ldc 135, 2) := by decide +kernel
theorem dX6_hymns_9 : decode cX6_hymns 9 = .ok (.ireturn, 1) := by decide +kernel
theorem dX6_hymns_10 : decode cX6_hymns 10 = .ok (.iload_n 1, 1) := by decide +kernel
theorem dX6_hymns_11 : decode cX6_hymns 11 = .ok (.ifCond .lt 9, 3) := by decide +kernel
theorem dX6_hymns_14 : decode cX6_hymns 14 = .ok (.iload_n 1, 1) := by decide +kernel
theorem dX6_hymns_15 : decode cX6_hymns 15 = .ok (.bipush 16, 2) := by decide +kernel
theorem dX6_hymns_17 : decode cX6_hymns 17 = .ok (.if_icmp .lt 6, 3) := by decide +kernel
theorem dX6_hymns_20 : decode cX6_hymns 20 = .ok (.ldc 63, 2) := by decide +kernel
theorem dX6_hymns_22 : decode cX6_hymns 22 = .ok (.ireturn, 1) := by decide +kernel
theorem dX6_hymns_23 : decode cX6_hymns 23 = .ok (.aload_n 0, 1) := by decide +kernel
theorem dX6_hymns_24 : decode cX6_hymns 24 = .ok (.getfield 32, 3) := by decide +kernel
theorem dX6_hymns_27 : decode cX6_hymns 27 = .ok (.aload_n 0, 1) := by decide +kernel
theorem dX6_hymns_28 : decode cX6_hymns 28 = .ok (.getfield 25, 3) := by decide +kernel
theorem dX6_hymns_31 : decode cX6_hymns 31 = .ok (.invokevirtual 139, 3) := by decide +kernel
theorem dX6_hymns_34 : decode cX6_hymns 34 = .ok (.aload_n 0, 1) := by decide +kernel
theorem dX6_hymns_35 : decode cX6_hymns 35 = .ok (.getfield 25, 3) := by decide +kernel
theorem dX6_hymns_38 : decode cX6_hymns 38 = .ok (.getfield 167, 3) := by decide +kernel
theorem dX6_hymns_41 : decode cX6_hymns 41 = .ok (.istore_n 2, 1) := by decide +kernel
theorem dX6_hymns_42 : decode cX6_hymns 42 = .ok (.aload_n 0, 1) := by decide +kernel
theorem dX6_hymns_43 : decode cX6_hymns 43 = .ok (.getfield 25, 3) := by decide +kernel
theorem dX6_hymns_46 : decode cX6_hymns 46 = .ok (.iload_n 1, 1) := by decide +kernel
theorem dX6_hymns_47 : decode cX6_hymns 47 = .ok (.putfield 167, 3) := by decide +kernel
theorem dX6_hymns_50 : decode cX6_hymns 50 = .ok (.iload_n 2, 1) := by decide +kernel
theorem dX6_hymns_51 : decode cX6_hymns 51 = .ok (.ireturn, 1) := by decide +kernel
set_option maxRecDepth 20000 in
theorem ggX6_undo_X0_takeBack : GoodIn wsX6_undo wsX0_takeBack := goodIn_r _ [9, 10, 11, 12, 13, 14, 15, 16, 17, 18, 19, 20, 21, 22, 23, 24, 25, 26, 27, 28, 29, 30, 31, 32, 33, 34, 35, 46, 47, 48, 49, 50, 51, 52, 53, 54, 55, 56, 57, 58, 59, 60, 61, 62, 63] (by decide +kernel) (by decide +kernel)
set_option maxRecDepth 20000 in
theorem gX6_undo_X0_takeBack : GoodIn wsX6_undo (wsV RX6 171 RX0 yX0_takeBack wsX0_takeBack) := goodIn_app (goodIn_of _ (by decide +kernel)) ggX6_undo_X0_takeBack
theorem dX6_undo_0 : decode cX6_undo 0 = .ok (.aload_n 0, 1) := by decide +kernel
theorem dX6_undo_1 : decode cX6_undo 1 = .ok (.getfield 32, 3) := by decide +kernel
theorem dX6_undo_4 : decode cX6_undo 4 = .ok (.getfield 170, 3) := by decide +kernel
theorem dX6_undo_7 : decode cX6_undo 7 = .ok (.ifCond .ne 6, 3) := by decide +kernel
theorem dX6_undo_10 : decode cX6_undo 10 = .ok (.ldc 135, 2) := by decide +kernel
theorem dX6_undo_12 : decode cX6_undo 12 = .ok (.ireturn, 1) := by decide +kernel
theorem dX6_undo_13 : decode cX6_undo 13 = .ok (.aload_n 0, 1) := by decide +kernel
theorem dX6_undo_14 : decode cX6_undo 14 = .ok (.getfield 32, 3) := by decide +kernel
theorem dX6_undo_17 : decode cX6_undo 17 = .ok (.aload_n 0, 1) := by decide +kernel
theorem dX6_undo_18 : decode cX6_undo 18 = .ok (.getfield 25, 3) := by decide +kernel
theorem dX6_undo_21 : decode cX6_undo 21 = .ok (.invokevirtual 171, 3) := by decide +kernel
theorem dX6_undo_24 : decode cX6_undo 24 = .ok (.aload_n 0, 1) := by decide +kernel
theorem dX6_undo_25 : decode cX6_undo 25 = .ok (.getfield 32, 3) := by decide +kernel
theorem dX6_undo_28 : decode cX6_undo 28 = .ok (.getfield 170, 3) := by decide +kernel
theorem dX6_undo_31 : decode cX6_undo 31 = .ok (.ireturn, 1) := by decide +kernel
set_option maxRecDepth 20000 in
theorem ggX6_guest_X5_has : GoodIn wsX6_guest wsX5_has := goodIn_r _ [12, 13, 52, 53, 54, 55, 56, 57, 58, 59, 60, 61, 62, 63, 64, 65, 66] (by decide +kernel) (by decide +kernel)
set_option maxRecDepth 20000 in
theorem gX6_guest_X5_has : GoodIn wsX6_guest (wsV RX6 148 RX5 yX5_has wsX5_has) := goodIn_app (goodIn_of _ (by decide +kernel)) ggX6_guest_X5_has
set_option maxRecDepth 20000 in
theorem ggX6_guest_X5_isHired : GoodIn wsX6_guest wsX5_isHired := goodIn_r _ [17, 18, 52, 53, 54, 55, 56, 57, 58, 59, 60, 61, 62, 63, 64, 65, 66] (by decide +kernel) (by decide +kernel)
set_option maxRecDepth 20000 in
theorem gX6_guest_X5_isHired : GoodIn wsX6_guest (wsV RX6 151 RX5 yX5_isHired wsX5_isHired) := goodIn_app (goodIn_of _ (by decide +kernel)) ggX6_guest_X5_isHired
set_option maxRecDepth 20000 in
theorem ggX6_guest_X5_sheds : GoodIn wsX6_guest wsX5_sheds := goodIn_r _ [22, 23, 24, 25, 26, 27, 28, 29, 30, 31, 32, 33, 34, 35, 36, 37, 38, 11, 39, 13, 40, 41, 52, 53, 54, 55, 56, 57, 58, 59, 60, 61, 62, 63, 64, 65, 66] (by decide +kernel) (by decide +kernel)
set_option maxRecDepth 20000 in
theorem gX6_guest_X5_sheds : GoodIn wsX6_guest (wsV RX6 186 RX5 yX5_sheds wsX5_sheds) := goodIn_app (goodIn_of _ (by decide +kernel)) ggX6_guest_X5_sheds
theorem dX6_guest_0 : decode cX6_guest 0 = .ok (.aload_n 0, 1) := by decide +kernel
theorem dX6_guest_1 : decode cX6_guest 1 = .ok (.getfield 25, 3) := by decide +kernel
theorem dX6_guest_4 : decode cX6_guest 4 = .ok (.iload_n 1, 1) := by decide +kernel
theorem dX6_guest_5 : decode cX6_guest 5 = .ok (.invokevirtual 148, 3) := by decide +kernel
theorem dX6_guest_8 : decode cX6_guest 8 = .ok (.ifCond .ne 6, 3) := by decide +kernel
theorem dX6_guest_11 : decode cX6_guest 11 = .ok (.ldc 63, 2) := by decide +kernel
theorem dX6_guest_13 : decode cX6_guest 13 = .ok (.ireturn, 1) := by decide +kernel
theorem dX6_guest_14 : decode cX6_guest 14 = .ok (.iload_n 2, 1) := by decide +kernel
theorem dX6_guest_15 : decode cX6_guest 15 = .ok (.tableswitch 117 0 6 #[41, 51, 61, 71, 81, 98, 108], 41) := by decide +kernel
theorem dX6_guest_56 : decode cX6_guest 56 = .ok (.aload_n 0, 1) := by decide +kernel
theorem dX6_guest_57 : decode cX6_guest 57 = .ok (.getfield 25, 3) := by decide +kernel
theorem dX6_guest_60 : decode cX6_guest 60 = .ok (.getfield 174, 3) := by decide +kernel
theorem dX6_guest_63 : decode cX6_guest 63 = .ok (.iload_n 1, 1) := by decide +kernel
theorem dX6_guest_64 : decode cX6_guest 64 = .ok (.iaload, 1) := by decide +kernel
theorem dX6_guest_65 : decode cX6_guest 65 = .ok (.ireturn, 1) := by decide +kernel
theorem dX6_guest_66 : decode cX6_guest 66 = .ok (.aload_n 0, 1) := by decide +kernel
theorem dX6_guest_67 : decode cX6_guest 67 = .ok (.getfield 25, 3) := by decide +kernel
theorem dX6_guest_70 : decode cX6_guest 70 = .ok (.getfield 177, 3) := by decide +kernel
theorem dX6_guest_73 : decode cX6_guest 73 = .ok (.iload_n 1, 1) := by decide +kernel
theorem dX6_guest_74 : decode cX6_guest 74 = .ok (.iaload, 1) := by decide +kernel
theorem dX6_guest_75 : decode cX6_guest 75 = .ok (.ireturn, 1) := by decide +kernel
theorem dX6_guest_76 : decode cX6_guest 76 = .ok (.aload_n 0, 1) := by decide +kernel
theorem dX6_guest_77 : decode cX6_guest 77 = .ok (.getfield 25, 3) := by decide +kernel
theorem dX6_guest_80 : decode cX6_guest 80 = .ok (.getfield 180, 3) := by decide +kernel
theorem dX6_guest_83 : decode cX6_guest 83 = .ok (.iload_n 1, 1) := by decide +kernel
theorem dX6_guest_84 : decode cX6_guest 84 = .ok (.iaload, 1) := by decide +kernel
theorem dX6_guest_85 : decode cX6_guest 85 = .ok (.ireturn, 1) := by decide +kernel
theorem dX6_guest_86 : decode cX6_guest 86 = .ok (.aload_n 0, 1) := by decide +kernel
theorem dX6_guest_87 : decode cX6_guest 87 = .ok (.getfield 25, 3) := by decide +kernel
theorem dX6_guest_90 : decode cX6_guest 90 = .ok (.getfield 164, 3) := by decide +kernel
theorem dX6_guest_93 : decode cX6_guest 93 = .ok (.iload_n 1, 1) := by decide +kernel
theorem dX6_guest_94 : decode cX6_guest 94 = .ok (.iaload, 1) := by decide +kernel
theorem dX6_guest_95 : decode cX6_guest 95 = .ok (.ireturn, 1) := by decide +kernel
theorem dX6_guest_96 : decode cX6_guest 96 = .ok (.aload_n 0, 1) := by decide +kernel
theorem dX6_guest_97 : decode cX6_guest 97 = .ok (.getfield 25, 3) := by decide +kernel
theorem dX6_guest_100 : decode cX6_guest 100 = .ok (.iload_n 1, 1) := by decide +kernel
theorem dX6_guest_101 : decode cX6_guest 101 = .ok (.invokevirtual 151, 3) := by decide +kernel
theorem dX6_guest_104 : decode cX6_guest 104 = .ok (.ifCond .eq 7, 3) := by decide +kernel
theorem dX6_guest_107 : decode cX6_guest 107 = .ok (.iconst 1, 1) := by decide +kernel
theorem dX6_guest_108 : decode cX6_guest 108 = .ok (.goto 4, 3) := by decide +kernel
theorem dX6_guest_111 : decode cX6_guest 111 = .ok (.iconst 0, 1) := by decide +kernel
theorem dX6_guest_112 : decode cX6_guest 112 = .ok (.ireturn, 1) := by decide +kernel
theorem dX6_guest_113 : decode cX6_guest 113 = .ok (.aload_n 0, 1) := by decide +kernel
theorem dX6_guest_114 : decode cX6_guest 114 = .ok (.getfield 25, 3) := by decide +kernel
theorem dX6_guest_117 : decode cX6_guest 117 = .ok (.getfield 183, 3) := by decide +kernel
theorem dX6_guest_120 : decode cX6_guest 120 = .ok (.iload_n 1, 1) := by decide +kernel
theorem dX6_guest_121 : decode cX6_guest 121 = .ok (.iaload, 1) := by decide +kernel
theorem dX6_guest_122 : decode cX6_guest 122 = .ok (.ireturn, 1) := by decide +kernel
theorem dX6_guest_123 : decode cX6_guest 123 = .ok (.aload_n 0, 1) := by decide +kernel
theorem dX6_guest_124 : decode cX6_guest 124 = .ok (.getfield 25, 3) := by decide +kernel
theorem dX6_guest_127 : decode cX6_guest 127 = .ok (.iload_n 1, 1) := by decide +kernel
theorem dX6_guest_128 : decode cX6_guest 128 = .ok (.invokevirtual 186, 3) := by decide +kernel
theorem dX6_guest_131 : decode cX6_guest 131 = .ok (.ireturn, 1) := by decide +kernel
theorem dX6_guest_132 : decode cX6_guest 132 = .ok (.ldc 63, 2) := by decide +kernel
theorem dX6_guest_134 : decode cX6_guest 134 = .ok (.ireturn, 1) := by decide +kernel
set_option maxRecDepth 20000 in
theorem ggX6_seat_X5_has : GoodIn wsX6_seat wsX5_has := goodIn_r _ [8, 9, 20, 21, 22, 23, 24, 25, 26, 27, 28, 29, 30, 31, 32, 33, 34] (by decide +kernel) (by decide +kernel)
set_option maxRecDepth 20000 in
theorem gX6_seat_X5_has : GoodIn wsX6_seat (wsV RX6 148 RX5 yX5_has wsX5_has) := goodIn_app (goodIn_of _ (by decide +kernel)) ggX6_seat_X5_has
theorem dX6_seat_0 : decode cX6_seat 0 = .ok (.aload_n 0, 1) := by decide +kernel
theorem dX6_seat_1 : decode cX6_seat 1 = .ok (.getfield 25, 3) := by decide +kernel
theorem dX6_seat_4 : decode cX6_seat 4 = .ok (.iload_n 1, 1) := by decide +kernel
theorem dX6_seat_5 : decode cX6_seat 5 = .ok (.invokevirtual 148, 3) := by decide +kernel
theorem dX6_seat_8 : decode cX6_seat 8 = .ok (.ifCond .eq 15, 3) := by decide +kernel
theorem dX6_seat_11 : decode cX6_seat 11 = .ok (.aload_n 0, 1) := by decide +kernel
theorem dX6_seat_12 : decode cX6_seat 12 = .ok (.getfield 25, 3) := by decide +kernel
theorem dX6_seat_15 : decode cX6_seat 15 = .ok (.getfield 189, 3) := by decide +kernel
theorem dX6_seat_18 : decode cX6_seat 18 = .ok (.iload_n 1, 1) := by decide +kernel
theorem dX6_seat_19 : decode cX6_seat 19 = .ok (.iaload, 1) := by decide +kernel
theorem dX6_seat_20 : decode cX6_seat 20 = .ok (.goto 5, 3) := by decide +kernel
theorem dX6_seat_23 : decode cX6_seat 23 = .ok (.ldc 63, 2) := by decide +kernel
theorem dX6_seat_25 : decode cX6_seat 25 = .ok (.ireturn, 1) := by decide +kernel
set_option maxRecDepth 20000 in
theorem ggX6_ahead_X5_has : GoodIn wsX6_ahead wsX5_has := goodIn_r _ [10, 11, 85, 86, 87, 88, 89, 90, 91, 92, 93, 94, 95, 96, 97, 98, 99] (by decide +kernel) (by decide +kernel)
set_option maxRecDepth 20000 in
theorem gX6_ahead_X5_has : GoodIn wsX6_ahead (wsV RX6 148 RX5 yX5_has wsX5_has) := goodIn_app (goodIn_of _ (by decide +kernel)) ggX6_ahead_X5_has
set_option maxRecDepth 20000 in
theorem ggX6_ahead_X6_isWithin : GoodIn wsX6_ahead wsX6_isWithin := goodIn_r _ [15] (by decide +kernel) (by decide +kernel)
set_option maxRecDepth 20000 in
theorem gX6_ahead_X6_isWithin : GoodIn wsX6_ahead (va_wsS RX6 192 yX6_isWithin wsX6_isWithin) := goodIn_app (goodIn_of _ (by decide +kernel)) ggX6_ahead_X6_isWithin
set_option maxRecDepth 20000 in
theorem ggX6_ahead_X6_isFlag : GoodIn wsX6_ahead wsX6_isFlag := goodIn_r _ [18] (by decide +kernel) (by decide +kernel)
set_option maxRecDepth 20000 in
theorem gX6_ahead_X6_isFlag : GoodIn wsX6_ahead (va_wsS RX6 196 yX6_isFlag wsX6_isFlag) := goodIn_app (goodIn_of _ (by decide +kernel)) ggX6_ahead_X6_isFlag
set_option maxRecDepth 20000 in
theorem ggX6_ahead_X1_after : GoodIn wsX6_ahead wsX1_after := goodIn_r _ [23, 24, 25, 26, 27, 9, 28, 11, 29, 30, 31, 32, 33, 34, 35, 36, 37, 38, 39, 40, 41, 42, 43, 44, 45, 46, 47, 48, 49, 50, 51, 52, 53, 54, 55, 56, 57, 58, 59, 60, 61, 62, 63, 64, 65, 66, 67, 68, 69, 70, 71, 72, 73, 74, 100, 101, 102, 103, 85, 86, 87, 88, 89, 90, 91, 92, 93, 94, 95, 96, 97, 98, 99] (by decide +kernel) (by decide +kernel)
set_option maxRecDepth 20000 in
theorem gX6_ahead_X1_after : GoodIn wsX6_ahead (wsV RX6 199 RX1 yX1_after wsX1_after) := goodIn_app (goodIn_of _ (by decide +kernel)) ggX6_ahead_X1_after
theorem dX6_ahead_0 : decode cX6_ahead 0 = .ok (.aload_n 0, 1) := by decide +kernel
theorem dX6_ahead_1 : decode cX6_ahead 1 = .ok (.getfield 25, 3) := by decide +kernel
theorem dX6_ahead_4 : decode cX6_ahead 4 = .ok (.iload_n 1, 1) := by decide +kernel
theorem dX6_ahead_5 : decode cX6_ahead 5 = .ok (.invokevirtual 148, 3) := by decide +kernel
theorem dX6_ahead_8 : decode cX6_ahead 8 = .ok (.ifCond .eq 20, 3) := by decide +kernel
theorem dX6_ahead_11 : decode cX6_ahead 11 = .ok (.iload_n 2, 1) := by decide +kernel
theorem dX6_ahead_12 : decode cX6_ahead 12 = .ok (.iconst 0, 1) := by decide +kernel
theorem dX6_ahead_13 : decode cX6_ahead 13 = .ok (.bipush 60, 2) := by decide +kernel
theorem dX6_ahead_15 : decode cX6_ahead 15 = .ok (.invokestatic 192, 3) := by decide +kernel
theorem dX6_ahead_18 : decode cX6_ahead 18 = .ok (.ifCond .eq 10, 3) := by decide +kernel
theorem dX6_ahead_21 : decode cX6_ahead 21 = .ok (.iload_n 3, 1) := by decide +kernel
theorem dX6_ahead_22 : decode cX6_ahead 22 = .ok (.invokestatic 196, 3) := by decide +kernel
theorem dX6_ahead_25 : decode cX6_ahead 25 = .ok (.ifCond .ne 6, 3) := by decide +kernel
theorem dX6_ahead_28 : decode cX6_ahead 28 = .ok (.ldc 63, 2) := by decide +kernel
theorem dX6_ahead_30 : decode cX6_ahead 30 = .ok (.ireturn, 1) := by decide +kernel
theorem dX6_ahead_31 : decode cX6_ahead 31 = .ok (.aload_n 0, 1) := by decide +kernel
theorem dX6_ahead_32 : decode cX6_ahead 32 = .ok (.getfield 39, 3) := by decide +kernel
theorem dX6_ahead_35 : decode cX6_ahead 35 = .ok (.aload_n 0, 1) := by decide +kernel
theorem dX6_ahead_36 : decode cX6_ahead 36 = .ok (.getfield 25, 3) := by decide +kernel
theorem dX6_ahead_39 : decode cX6_ahead 39 = .ok (.iload_n 2, 1) := by decide +kernel
theorem dX6_ahead_40 : decode cX6_ahead 40 = .ok (.invokevirtual 199, 3) := by decide +kernel
theorem dX6_ahead_43 : decode cX6_ahead 43 = .ok (.astore 4, 2) := by decide +kernel
theorem dX6_ahead_45 : decode cX6_ahead 45 = .ok (.iload_n 3, 1) := by decide +kernel
theorem dX6_ahead_46 : decode cX6_ahead 46 = .ok (.ifCond .ne 13, 3) := by decide +kernel
theorem dX6_ahead_49 : decode cX6_ahead 49 = .ok (.aload 4, 2) := by decide +kernel
theorem dX6_ahead_51 : decode cX6_ahead 51 = .ok (.getfield 183, 3) := by decide +kernel
theorem dX6_ahead_54 : decode cX6_ahead 54 = .ok (.iload_n 1, 1) := by decide +kernel
theorem dX6_ahead_55 : decode cX6_ahead 55 = .ok (.iaload, 1) := by decide +kernel
theorem dX6_ahead_56 : decode cX6_ahead 56 = .ok (.goto 10, 3) := by decide +kernel
theorem dX6_ahead_59 : decode cX6_ahead 59 = .ok (.aload 4, 2) := by decide +kernel
theorem dX6_ahead_61 : decode cX6_ahead 61 = .ok (.getfield 177, 3) := by decide +kernel
theorem dX6_ahead_64 : decode cX6_ahead 64 = .ok (.iload_n 1, 1) := by decide +kernel
theorem dX6_ahead_65 : decode cX6_ahead 65 = .ok (.iaload, 1) := by decide +kernel
theorem dX6_ahead_66 : decode cX6_ahead 66 = .ok (.ireturn, 1) := by decide +kernel
set_option maxRecDepth 20000 in
theorem ggX6_bottle_X6_isNone : GoodIn wsX6_bottle wsX6_isNone := goodIn_r _ [11, 4, 12, 77, 78, 79, 80, 81, 82, 83, 84, 85, 86, 87, 88, 89, 90, 91, 92, 93, 94, 95, 96, 97, 98, 99, 100, 101] (by decide +kernel) (by decide +kernel)
set_option maxRecDepth 20000 in
theorem gX6_bottle_X6_isNone : GoodIn wsX6_bottle (wsV RX6 132 RX6 yX6_isNone wsX6_isNone) := goodIn_app (goodIn_of _ (by decide +kernel)) ggX6_bottle_X6_isNone
set_option maxRecDepth 20000 in
theorem ggX6_bottle_X6_isWithin : GoodIn wsX6_bottle wsX6_isWithin := goodIn_r _ [15] (by decide +kernel) (by decide +kernel)
set_option maxRecDepth 20000 in
theorem gX6_bottle_X6_isWithin : GoodIn wsX6_bottle (va_wsS RX6 192 yX6_isWithin wsX6_isWithin) := goodIn_app (goodIn_of _ (by decide +kernel)) ggX6_bottle_X6_isWithin
set_option maxRecDepth 20000 in
theorem ggX6_bottle_X6_isFlag : GoodIn wsX6_bottle wsX6_isFlag := goodIn_r _ [18] (by decide +kernel) (by decide +kernel)
set_option maxRecDepth 20000 in
theorem gX6_bottle_X6_isFlag : GoodIn wsX6_bottle (va_wsS RX6 196 yX6_isFlag wsX6_isFlag) := goodIn_app (goodIn_of _ (by decide +kernel)) ggX6_bottle_X6_isFlag
set_option maxRecDepth 20000 in
theorem ggX6_bottle_X1_after : GoodIn wsX6_bottle wsX1_after := goodIn_r _ [23, 24, 25, 26, 27, 28, 29, 30, 31, 32, 33, 34, 35, 36, 37, 38, 39, 40, 41, 42, 43, 44, 45, 46, 47, 48, 49, 50, 51, 52, 53, 54, 55, 56, 57, 58, 59, 60, 61, 62, 63, 64, 65, 66, 67, 68, 69, 70, 71, 72, 73, 74, 75, 76, 102, 103, 104, 105, 87, 88, 89, 90, 91, 92, 93, 94, 95, 96, 97, 98, 99, 100, 101] (by decide +kernel) (by decide +kernel)
set_option maxRecDepth 20000 in
theorem gX6_bottle_X1_after : GoodIn wsX6_bottle (wsV RX6 199 RX1 yX1_after wsX1_after) := goodIn_app (goodIn_of _ (by decide +kernel)) ggX6_bottle_X1_after
theorem dX6_bottle_0 : decode cX6_bottle 0 = .ok (.aload_n 0, 1) := by decide +kernel
theorem dX6_bottle_1 : decode cX6_bottle 1 = .ok (.invokevirtual 132, 3) := by decide +kernel
theorem dX6_bottle_4 : decode cX6_bottle 4 = .ok (.ifCond .eq 6, 3) := by decide +kernel
theorem dX6_bottle_7 : decode cX6_bottle 7 = .ok (.ldc 135, 2) := by decide +kernel
theorem dX6_bottle_9 : decode cX6_bottle 9 = .ok (.ireturn, 1) := by decide +kernel
theorem dX6_bottle_10 : decode cX6_bottle 10 = .ok (.iload_n 1, 1) := by decide +kernel
theorem dX6_bottle_11 : decode cX6_bottle 11 = .ok (.iconst 0, 1) := by decide +kernel
theorem dX6_bottle_12 : decode cX6_bottle 12 = .ok (.bipush 60, 2) := by decide +kernel
theorem dX6_bottle_14 : decode cX6_bottle 14 = .ok (.invokestatic 192, 3) := by decide +kernel
theorem dX6_bottle_17 : decode cX6_bottle 17 = .ok (.ifCond .eq 10, 3) := by decide +kernel
theorem dX6_bottle_20 : decode cX6_bottle 20 = .ok (.iload_n 2, 1) := by decide +kernel
theorem dX6_bottle_21 : decode cX6_bottle 21 = .ok (.invokestatic 196, 3) := by decide +kernel
theorem dX6_bottle_24 : decode cX6_bottle 24 = .ok (.ifCond .ne 6, 3) := by decide +kernel
theorem dX6_bottle_27 : decode cX6_bottle 27 = .ok (.ldc 63, 2) := by decide +kernel
theorem dX6_bottle_29 : decode cX6_bottle 29 = .ok (.ireturn, 1) := by decide +kernel
theorem dX6_bottle_30 : decode cX6_bottle 30 = .ok (.aload_n 0, 1) := by decide +kernel
theorem dX6_bottle_31 : decode cX6_bottle 31 = .ok (.getfield 39, 3) := by decide +kernel
theorem dX6_bottle_34 : decode cX6_bottle 34 = .ok (.aload_n 0, 1) := by decide +kernel
theorem dX6_bottle_35 : decode cX6_bottle 35 = .ok (.getfield 25, 3) := by decide +kernel
theorem dX6_bottle_38 : decode cX6_bottle 38 = .ok (.iload_n 1, 1) := by decide +kernel
theorem dX6_bottle_39 : decode cX6_bottle 39 = .ok (.invokevirtual 199, 3) := by decide +kernel
theorem dX6_bottle_42 : decode cX6_bottle 42 = .ok (.astore_n 3, 1) := by decide +kernel
theorem dX6_bottle_43 : decode cX6_bottle 43 = .ok (.iload_n 2, 1) := by decide +kernel
theorem dX6_bottle_44 : decode cX6_bottle 44 = .ok (.ifCond .ne 10, 3) := by decide +kernel
theorem dX6_bottle_47 : decode cX6_bottle 47 = .ok (.aload_n 3, 1) := by decide +kernel
theorem dX6_bottle_48 : decode cX6_bottle 48 = .ok (.getfield 145, 3) := by decide +kernel
theorem dX6_bottle_51 : decode cX6_bottle 51 = .ok (.goto 7, 3) := by decide +kernel
theorem dX6_bottle_54 : decode cX6_bottle 54 = .ok (.aload_n 3, 1) := by decide +kernel
theorem dX6_bottle_55 : decode cX6_bottle 55 = .ok (.getfield 203, 3) := by decide +kernel
theorem dX6_bottle_58 : decode cX6_bottle 58 = .ok (.ireturn, 1) := by decide +kernel
set_option maxRecDepth 20000 in
theorem ggX6_filled_X6_isNone : GoodIn wsX6_filled wsX6_isNone := goodIn_r _ [8, 3, 9, 69, 70, 71, 72, 73, 74, 75, 76, 77, 78, 79, 80, 81, 82, 83, 84, 85, 86, 87, 88, 89, 90, 91, 92, 93] (by decide +kernel) (by decide +kernel)
set_option maxRecDepth 20000 in
theorem gX6_filled_X6_isNone : GoodIn wsX6_filled (wsV RX6 132 RX6 yX6_isNone wsX6_isNone) := goodIn_app (goodIn_of _ (by decide +kernel)) ggX6_filled_X6_isNone
set_option maxRecDepth 20000 in
theorem ggX6_filled_X1_minutesToFull : GoodIn wsX6_filled wsX1_minutesToFull := goodIn_r _ [14, 15, 16, 17, 18, 19, 20, 21, 22, 23, 24, 25, 26, 27, 28, 29, 30, 31, 32, 33, 34, 35, 36, 37, 38, 39, 40, 41, 42, 43, 44, 45, 46, 47, 48, 49, 50, 51, 52, 53, 54, 55, 56, 57, 58, 59, 60, 61, 62, 63, 64, 65, 66, 67, 68, 94, 95, 96, 97, 79, 80, 81, 82, 83, 84, 85, 86, 87, 88, 89, 90, 91, 92, 93] (by decide +kernel) (by decide +kernel)
set_option maxRecDepth 20000 in
theorem gX6_filled_X1_minutesToFull : GoodIn wsX6_filled (wsV RX6 206 RX1 yX1_minutesToFull wsX1_minutesToFull) := goodIn_app (goodIn_of _ (by decide +kernel)) ggX6_filled_X1_minutesToFull
theorem dX6_filled_0 : decode cX6_filled 0 = .ok (.aload_n 0, 1) := by decide +kernel
theorem dX6_filled_1 : decode cX6_filled 1 = .ok (.invokevirtual 132, 3) := by decide +kernel
theorem dX6_filled_4 : decode cX6_filled 4 = .ok (.ifCond .eq 6, 3) := by decide +kernel
theorem dX6_filled_7 : decode cX6_filled 7 = .ok (.ldc 135, 2) := by decide +kernel
theorem dX6_filled_9 : decode cX6_filled 9 = .ok (.ireturn, 1) := by decide +kernel
theorem dX6_filled_10 : decode cX6_filled 10 = .ok (.aload_n 0, 1) := by decide +kernel
theorem dX6_filled_11 : decode cX6_filled 11 = .ok (.getfield 39, 3) := by decide +kernel
theorem dX6_filled_14 : decode cX6_filled 14 = .ok (.aload_n 0, 1) := by decide +kernel
theorem dX6_filled_15 : decode cX6_filled 15 = .ok (.getfield 25, 3) := by decide +kernel
theorem dX6_filled_18 : decode cX6_filled 18 = .ok (.invokevirtual 206, 3) := by decide +kernel
theorem dX6_filled_21 : decode cX6_filled 21 = .ok (.ireturn, 1) := by decide +kernel
set_option maxRecDepth 20000 in
theorem ggX6_dry_X6_isNone : GoodIn wsX6_dry wsX6_isNone := goodIn_r _ [9, 4, 10, 82, 83, 84, 85, 86, 87, 88, 89, 90, 91, 92, 93, 94, 95, 96, 97, 98, 99, 100, 101, 102, 103, 104, 105, 106] (by decide +kernel) (by decide +kernel)
set_option maxRecDepth 20000 in
theorem gX6_dry_X6_isNone : GoodIn wsX6_dry (wsV RX6 132 RX6 yX6_isNone wsX6_isNone) := goodIn_app (goodIn_of _ (by decide +kernel)) ggX6_dry_X6_isNone
set_option maxRecDepth 20000 in
theorem ggX6_dry_X6_isFlag : GoodIn wsX6_dry wsX6_isFlag := goodIn_r _ [13] (by decide +kernel) (by decide +kernel)
set_option maxRecDepth 20000 in
theorem gX6_dry_X6_isFlag : GoodIn wsX6_dry (va_wsS RX6 196 yX6_isFlag wsX6_isFlag) := goodIn_app (goodIn_of _ (by decide +kernel)) ggX6_dry_X6_isFlag
set_option maxRecDepth 20000 in
theorem ggX6_dry_X1_findDry : GoodIn wsX6_dry wsX1_findDry := goodIn_r _ [18, 19, 20, 21, 22, 23, 24, 25, 26, 27, 28, 29, 30, 31, 32, 33, 34, 35, 36, 37, 38, 39, 40, 41, 42, 43, 44, 45, 46, 47, 48, 17, 49, 50, 51, 52, 53, 54, 55, 56, 57, 58, 59, 60, 61, 62, 63, 64, 65, 66, 67, 68, 69, 70, 71, 72, 73, 74, 75, 76, 77, 107, 108, 109, 110, 92, 93, 94, 95, 96, 97, 98, 99, 100, 101, 102, 103, 104, 105, 106] (by decide +kernel) (by decide +kernel)
set_option maxRecDepth 20000 in
theorem gX6_dry_X1_findDry : GoodIn wsX6_dry (wsV RX6 210 RX1 yX1_findDry wsX1_findDry) := goodIn_app (goodIn_of _ (by decide +kernel)) ggX6_dry_X1_findDry
set_option maxRecDepth 20000 in
theorem ggX6_dry_X1_answer : GoodIn wsX6_dry wsX1_answer := goodIn_r _ [81, 20, 21, 107, 108, 109, 110] (by decide +kernel) (by decide +kernel)
set_option maxRecDepth 20000 in
theorem gX6_dry_X1_answer : GoodIn wsX6_dry (wsV RX6 213 RX1 yX1_answer wsX1_answer) := goodIn_app (goodIn_of _ (by decide +kernel)) ggX6_dry_X1_answer
theorem dX6_dry_0 : decode cX6_dry 0 = .ok (.aload_n 0, 1) := by decide +kernel
theorem dX6_dry_1 : decode cX6_dry 1 = .ok (.invokevirtual 132, 3) := by decide +kernel
theorem dX6_dry_4 : decode cX6_dry 4 = .ok (.ifCond .eq 6, 3) := by decide +kernel
theorem dX6_dry_7 : decode cX6_dry 7 = .ok (.ldc 135, 2) := by decide +kernel
theorem dX6_dry_9 : decode cX6_dry 9 = .ok (.ireturn, 1) := by decide +kernel
theorem dX6_dry_10 : decode cX6_dry 10 = .ok (.iload_n 1, 1) := by decide +kernel
theorem dX6_dry_11 : decode cX6_dry 11 = .ok (.invokestatic 196, 3) := by decide +kernel
theorem dX6_dry_14 : decode cX6_dry 14 = .ok (.ifCond .ne 6, 3) := by decide +kernel
theorem dX6_dry_17 : decode cX6_dry 17 = .ok (.ldc 63, 2) := by decide +kernel
theorem dX6_dry_19 : decode cX6_dry 19 = .ok (.ireturn, 1) := by decide +kernel
theorem dX6_dry_20 : decode cX6_dry 20 = .ok (.aload_n 0, 1) := by decide +kernel
theorem dX6_dry_21 : decode cX6_dry 21 = .ok (.getfield 39, 3) := by decide +kernel
theorem dX6_dry_24 : decode cX6_dry 24 = .ok (.aload_n 0, 1) := by decide +kernel
theorem dX6_dry_25 : decode cX6_dry 25 = .ok (.getfield 25, 3) := by decide +kernel
theorem dX6_dry_28 : decode cX6_dry 28 = .ok (.invokevirtual 210, 3) := by decide +kernel
theorem dX6_dry_31 : decode cX6_dry 31 = .ok (.aload_n 0, 1) := by decide +kernel
theorem dX6_dry_32 : decode cX6_dry 32 = .ok (.getfield 39, 3) := by decide +kernel
theorem dX6_dry_35 : decode cX6_dry 35 = .ok (.iload_n 1, 1) := by decide +kernel
theorem dX6_dry_36 : decode cX6_dry 36 = .ok (.invokevirtual 213, 3) := by decide +kernel
theorem dX6_dry_39 : decode cX6_dry 39 = .ok (.ireturn, 1) := by decide +kernel
set_option maxRecDepth 20000 in
theorem ggX6_hiring_X6_isNone : GoodIn wsX6_hiring wsX6_isNone := goodIn_r _ [9, 4, 10, 107, 108, 109, 110, 111, 112, 113, 114, 115, 116, 117, 118, 119, 120, 121, 122, 123, 124, 125, 126, 127, 128, 129, 130, 131] (by decide +kernel) (by decide +kernel)
set_option maxRecDepth 20000 in
theorem gX6_hiring_X6_isNone : GoodIn wsX6_hiring (wsV RX6 132 RX6 yX6_isNone wsX6_isNone) := goodIn_app (goodIn_of _ (by decide +kernel)) ggX6_hiring_X6_isNone
set_option maxRecDepth 20000 in
theorem ggX6_hiring_X6_isWithin : GoodIn wsX6_hiring wsX6_isWithin := goodIn_r _ [13] (by decide +kernel) (by decide +kernel)
set_option maxRecDepth 20000 in
theorem gX6_hiring_X6_isWithin : GoodIn wsX6_hiring (va_wsS RX6 192 yX6_isWithin wsX6_isWithin) := goodIn_app (goodIn_of _ (by decide +kernel)) ggX6_hiring_X6_isWithin
set_option maxRecDepth 20000 in
theorem ggX6_hiring_X6_isFlag : GoodIn wsX6_hiring wsX6_isFlag := goodIn_r _ [16] (by decide +kernel) (by decide +kernel)
set_option maxRecDepth 20000 in
theorem gX6_hiring_X6_isFlag : GoodIn wsX6_hiring (va_wsS RX6 196 yX6_isFlag wsX6_isFlag) := goodIn_app (goodIn_of _ (by decide +kernel)) ggX6_hiring_X6_isFlag
set_option maxRecDepth 20000 in
theorem ggX6_hiring_X1_findCheapest : GoodIn wsX6_hiring wsX1_findCheapest := goodIn_r _ [21, 22, 23, 24, 25, 26, 27, 28, 29, 30, 20, 31, 32, 33, 34, 35, 36, 37, 38, 39, 40, 41, 42, 43, 44, 45, 46, 47, 48, 49, 50, 51, 52, 53, 54, 55, 56, 57, 58, 59, 60, 61, 62, 63, 64, 65, 66, 67, 68, 69, 70, 71, 72, 73, 74, 75, 76, 77, 78, 79, 80, 81, 82, 83, 84, 85, 86, 87, 88, 89, 90, 91, 92, 93, 94, 95, 96, 97, 98, 99, 100, 101, 102, 132, 133, 134, 135, 117, 118, 119, 120, 121, 122, 123, 124, 125, 126, 127, 128, 129, 130, 131] (by decide +kernel) (by decide +kernel)
set_option maxRecDepth 20000 in
theorem gX6_hiring_X1_findCheapest : GoodIn wsX6_hiring (wsV RX6 216 RX1 yX1_findCheapest wsX1_findCheapest) := goodIn_app (goodIn_of _ (by decide +kernel)) ggX6_hiring_X1_findCheapest
set_option maxRecDepth 20000 in
theorem ggX6_hiring_X1_answer : GoodIn wsX6_hiring wsX1_answer := goodIn_r _ [106, 23, 24, 132, 133, 134, 135] (by decide +kernel) (by decide +kernel)
set_option maxRecDepth 20000 in
theorem gX6_hiring_X1_answer : GoodIn wsX6_hiring (wsV RX6 213 RX1 yX1_answer wsX1_answer) := goodIn_app (goodIn_of _ (by decide +kernel)) ggX6_hiring_X1_answer
theorem dX6_hiring_0 : decode cX6_hiring 0 = .ok (.aload_n 0, 1) := by decide +kernel
theorem dX6_hiring_1 : decode cX6_hiring 1 = .ok (.invokevirtual 132, 3) := by decide +kernel
theorem dX6_hiring_4 : decode cX6_hiring 4 = .ok (.ifCond .eq 6, 3) := by decide +kernel
theorem dX6_hiring_7 : decode cX6_hiring 7 = .ok (.ldc 135, 2) := by decide +kernel
theorem dX6_hiring_9 : decode cX6_hiring 9 = .ok (.ireturn, 1) := by decide +kernel
theorem dX6_hiring_10 : decode cX6_hiring 10 = .ok (.iload_n 1, 1) := by decide +kernel
theorem dX6_hiring_11 : decode cX6_hiring 11 = .ok (.iconst 1, 1) := by decide +kernel
theorem dX6_hiring_12 : decode cX6_hiring 12 = .ok (.bipush 30, 2) := by decide +kernel
theorem dX6_hiring_14 : decode cX6_hiring 14 = .ok (.invokestatic 192, 3) := by decide +kernel
theorem dX6_hiring_17 : decode cX6_hiring 17 = .ok (.ifCond .eq 10, 3) := by decide +kernel
theorem dX6_hiring_20 : decode cX6_hiring 20 = .ok (.iload_n 2, 1) := by decide +kernel
theorem dX6_hiring_21 : decode cX6_hiring 21 = .ok (.invokestatic 196, 3) := by decide +kernel
theorem dX6_hiring_24 : decode cX6_hiring 24 = .ok (.ifCond .ne 6, 3) := by decide +kernel
theorem dX6_hiring_27 : decode cX6_hiring 27 = .ok (.ldc 63, 2) := by decide +kernel
theorem dX6_hiring_29 : decode cX6_hiring 29 = .ok (.ireturn, 1) := by decide +kernel
theorem dX6_hiring_30 : decode cX6_hiring 30 = .ok (.aload_n 0, 1) := by decide +kernel
theorem dX6_hiring_31 : decode cX6_hiring 31 = .ok (.getfield 39, 3) := by decide +kernel
theorem dX6_hiring_34 : decode cX6_hiring 34 = .ok (.aload_n 0, 1) := by decide +kernel
theorem dX6_hiring_35 : decode cX6_hiring 35 = .ok (.getfield 25, 3) := by decide +kernel
theorem dX6_hiring_38 : decode cX6_hiring 38 = .ok (.iload_n 1, 1) := by decide +kernel
theorem dX6_hiring_39 : decode cX6_hiring 39 = .ok (.invokevirtual 216, 3) := by decide +kernel
theorem dX6_hiring_42 : decode cX6_hiring 42 = .ok (.aload_n 0, 1) := by decide +kernel
theorem dX6_hiring_43 : decode cX6_hiring 43 = .ok (.getfield 39, 3) := by decide +kernel
theorem dX6_hiring_46 : decode cX6_hiring 46 = .ok (.iload_n 2, 1) := by decide +kernel
theorem dX6_hiring_47 : decode cX6_hiring 47 = .ok (.invokevirtual 213, 3) := by decide +kernel
theorem dX6_hiring_50 : decode cX6_hiring 50 = .ok (.ireturn, 1) := by decide +kernel
set_option maxRecDepth 20000 in
theorem ggX6_order_X6_isNone : GoodIn wsX6_order wsX6_isNone := goodIn_r _ [9, 4, 10, 105, 106, 107, 108, 109, 110, 111, 112, 113, 114, 115, 116, 117, 118, 119, 120, 121, 122, 123, 124, 125, 126, 127, 128, 129] (by decide +kernel) (by decide +kernel)
set_option maxRecDepth 20000 in
theorem gX6_order_X6_isNone : GoodIn wsX6_order (wsV RX6 132 RX6 yX6_isNone wsX6_isNone) := goodIn_app (goodIn_of _ (by decide +kernel)) ggX6_order_X6_isNone
set_option maxRecDepth 20000 in
theorem ggX6_order_X6_isWithin : GoodIn wsX6_order wsX6_isWithin := goodIn_r _ [13] (by decide +kernel) (by decide +kernel)
set_option maxRecDepth 20000 in
theorem gX6_order_X6_isWithin : GoodIn wsX6_order (va_wsS RX6 192 yX6_isWithin wsX6_isWithin) := goodIn_app (goodIn_of _ (by decide +kernel)) ggX6_order_X6_isWithin
set_option maxRecDepth 20000 in
theorem ggX6_order_X6_isFlag : GoodIn wsX6_order wsX6_isFlag := goodIn_r _ [16] (by decide +kernel) (by decide +kernel)
set_option maxRecDepth 20000 in
theorem gX6_order_X6_isFlag : GoodIn wsX6_order (va_wsS RX6 196 yX6_isFlag wsX6_isFlag) := goodIn_app (goodIn_of _ (by decide +kernel)) ggX6_order_X6_isFlag
set_option maxRecDepth 20000 in
theorem ggX6_order_X1_findOrder : GoodIn wsX6_order wsX1_findOrder := goodIn_r _ [21, 22, 23, 24, 25, 26, 27, 28, 29, 20, 30, 31, 32, 33, 34, 35, 36, 37, 38, 39, 40, 41, 42, 43, 44, 45, 46, 47, 48, 49, 50, 51, 52, 53, 54, 55, 56, 57, 58, 59, 60, 61, 62, 63, 64, 65, 66, 67, 68, 69, 70, 71, 72, 73, 74, 75, 76, 77, 78, 79, 80, 81, 82, 83, 84, 85, 86, 87, 88, 89, 90, 91, 92, 93, 94, 95, 96, 97, 98, 99, 100, 130, 131, 132, 133, 115, 116, 117, 118, 119, 120, 121, 122, 123, 124, 125, 126, 127, 128, 129] (by decide +kernel) (by decide +kernel)
set_option maxRecDepth 20000 in
theorem gX6_order_X1_findOrder : GoodIn wsX6_order (wsV RX6 220 RX1 yX1_findOrder wsX1_findOrder) := goodIn_app (goodIn_of _ (by decide +kernel)) ggX6_order_X1_findOrder
set_option maxRecDepth 20000 in
theorem ggX6_order_X1_answer : GoodIn wsX6_order wsX1_answer := goodIn_r _ [104, 23, 24, 130, 131, 132, 133] (by decide +kernel) (by decide +kernel)
set_option maxRecDepth 20000 in
theorem gX6_order_X1_answer : GoodIn wsX6_order (wsV RX6 213 RX1 yX1_answer wsX1_answer) := goodIn_app (goodIn_of _ (by decide +kernel)) ggX6_order_X1_answer
theorem dX6_order_0 : decode cX6_order 0 = .ok (.aload_n 0, 1) := by decide +kernel
theorem dX6_order_1 : decode cX6_order 1 = .ok (.invokevirtual 132, 3) := by decide +kernel
theorem dX6_order_4 : decode cX6_order 4 = .ok (.ifCond .eq 6, 3) := by decide +kernel
theorem dX6_order_7 : decode cX6_order 7 = .ok (.ldc 135, 2) := by decide +kernel
theorem dX6_order_9 : decode cX6_order 9 = .ok (.ireturn, 1) := by decide +kernel
theorem dX6_order_10 : decode cX6_order 10 = .ok (.iload_n 1, 1) := by decide +kernel
theorem dX6_order_11 : decode cX6_order 11 = .ok (.iconst 1, 1) := by decide +kernel
theorem dX6_order_12 : decode cX6_order 12 = .ok (.bipush 10, 2) := by decide +kernel
theorem dX6_order_14 : decode cX6_order 14 = .ok (.invokestatic 192, 3) := by decide +kernel
theorem dX6_order_17 : decode cX6_order 17 = .ok (.ifCond .eq 10, 3) := by decide +kernel
theorem dX6_order_20 : decode cX6_order 20 = .ok (.iload_n 2, 1) := by decide +kernel
theorem dX6_order_21 : decode cX6_order 21 = .ok (.invokestatic 196, 3) := by decide +kernel
theorem dX6_order_24 : decode cX6_order 24 = .ok (.ifCond .ne 6, 3) := by decide +kernel
theorem dX6_order_27 : decode cX6_order 27 = .ok (.ldc 63, 2) := by decide +kernel
theorem dX6_order_29 : decode cX6_order 29 = .ok (.ireturn, 1) := by decide +kernel
theorem dX6_order_30 : decode cX6_order 30 = .ok (.aload_n 0, 1) := by decide +kernel
theorem dX6_order_31 : decode cX6_order 31 = .ok (.getfield 39, 3) := by decide +kernel
theorem dX6_order_34 : decode cX6_order 34 = .ok (.aload_n 0, 1) := by decide +kernel
theorem dX6_order_35 : decode cX6_order 35 = .ok (.getfield 25, 3) := by decide +kernel
theorem dX6_order_38 : decode cX6_order 38 = .ok (.iload_n 1, 1) := by decide +kernel
theorem dX6_order_39 : decode cX6_order 39 = .ok (.invokevirtual 220, 3) := by decide +kernel
theorem dX6_order_42 : decode cX6_order 42 = .ok (.aload_n 0, 1) := by decide +kernel
theorem dX6_order_43 : decode cX6_order 43 = .ok (.getfield 39, 3) := by decide +kernel
theorem dX6_order_46 : decode cX6_order 46 = .ok (.iload_n 2, 1) := by decide +kernel
theorem dX6_order_47 : decode cX6_order 47 = .ok (.invokevirtual 213, 3) := by decide +kernel
theorem dX6_order_50 : decode cX6_order 50 = .ok (.ireturn, 1) := by decide +kernel
set_option maxRecDepth 20000 in
theorem ggX6_change_X6_isNone : GoodIn wsX6_change wsX6_isNone := goodIn_r _ [9, 4, 10, 96, 97, 98, 99, 100, 101, 102, 103, 104, 105, 106, 107, 108, 109, 110, 111, 112, 113, 114, 115, 116, 117, 118, 119, 120] (by decide +kernel) (by decide +kernel)
set_option maxRecDepth 20000 in
theorem gX6_change_X6_isNone : GoodIn wsX6_change (wsV RX6 132 RX6 yX6_isNone wsX6_isNone) := goodIn_app (goodIn_of _ (by decide +kernel)) ggX6_change_X6_isNone
set_option maxRecDepth 20000 in
theorem ggX6_change_X6_isWithin : GoodIn wsX6_change wsX6_isWithin := goodIn_r _ [13] (by decide +kernel) (by decide +kernel)
set_option maxRecDepth 20000 in
theorem gX6_change_X6_isWithin : GoodIn wsX6_change (va_wsS RX6 192 yX6_isWithin wsX6_isWithin) := goodIn_app (goodIn_of _ (by decide +kernel)) ggX6_change_X6_isWithin
set_option maxRecDepth 20000 in
theorem ggX6_change_X6_isFlag : GoodIn wsX6_change wsX6_isFlag := goodIn_r _ [16] (by decide +kernel) (by decide +kernel)
set_option maxRecDepth 20000 in
theorem gX6_change_X6_isFlag : GoodIn wsX6_change (va_wsS RX6 196 yX6_isFlag wsX6_isFlag) := goodIn_app (goodIn_of _ (by decide +kernel)) ggX6_change_X6_isFlag
set_option maxRecDepth 20000 in
theorem ggX6_change_X1_findChange : GoodIn wsX6_change wsX1_findChange := goodIn_r _ [21, 22, 23, 24, 25, 26, 27, 28, 29, 30, 31, 32, 33, 34, 35, 36, 37, 38, 39, 40, 41, 42, 43, 44, 45, 46, 47, 48, 49, 50, 51, 52, 53, 54, 55, 56, 57, 58, 59, 60, 61, 62, 63, 64, 65, 66, 67, 68, 69, 70, 71, 72, 73, 74, 75, 76, 77, 78, 79, 80, 81, 82, 83, 84, 85, 86, 87, 88, 89, 20, 90, 91, 121, 122, 123, 124, 106, 107, 108, 109, 110, 111, 112, 113, 114, 115, 116, 117, 118, 119, 120] (by decide +kernel) (by decide +kernel)
set_option maxRecDepth 20000 in
theorem gX6_change_X1_findChange : GoodIn wsX6_change (wsV RX6 223 RX1 yX1_findChange wsX1_findChange) := goodIn_app (goodIn_of _ (by decide +kernel)) ggX6_change_X1_findChange
set_option maxRecDepth 20000 in
theorem ggX6_change_X1_answer : GoodIn wsX6_change wsX1_answer := goodIn_r _ [95, 23, 24, 121, 122, 123, 124] (by decide +kernel) (by decide +kernel)
set_option maxRecDepth 20000 in
theorem gX6_change_X1_answer : GoodIn wsX6_change (wsV RX6 213 RX1 yX1_answer wsX1_answer) := goodIn_app (goodIn_of _ (by decide +kernel)) ggX6_change_X1_answer
theorem dX6_change_0 : decode cX6_change 0 = .ok (.aload_n 0, 1) := by decide +kernel
theorem dX6_change_1 : decode cX6_change 1 = .ok (.invokevirtual 132, 3) := by decide +kernel
theorem dX6_change_4 : decode cX6_change 4 = .ok (.ifCond .eq 6, 3) := by decide +kernel
theorem dX6_change_7 : decode cX6_change 7 = .ok (.ldc 135, 2) := by decide +kernel
theorem dX6_change_9 : decode cX6_change 9 = .ok (.ireturn, 1) := by decide +kernel
theorem dX6_change_10 : decode cX6_change 10 = .ok (.iload_n 1, 1) := by decide +kernel
theorem dX6_change_11 : decode cX6_change 11 = .ok (.iconst 1, 1) := by decide +kernel
theorem dX6_change_12 : decode cX6_change 12 = .ok (.bipush 30, 2) := by decide +kernel
theorem dX6_change_14 : decode cX6_change 14 = .ok (.invokestatic 192, 3) := by decide +kernel
theorem dX6_change_17 : decode cX6_change 17 = .ok (.ifCond .eq 10, 3) := by decide +kernel
theorem dX6_change_20 : decode cX6_change 20 = .ok (.iload_n 2, 1) := by decide +kernel
theorem dX6_change_21 : decode cX6_change 21 = .ok (.invokestatic 196, 3) := by decide +kernel
theorem dX6_change_24 : decode cX6_change 24 = .ok (.ifCond .ne 6, 3) := by decide +kernel
theorem dX6_change_27 : decode cX6_change 27 = .ok (.ldc 63, 2) := by decide +kernel
theorem dX6_change_29 : decode cX6_change 29 = .ok (.ireturn, 1) := by decide +kernel
theorem dX6_change_30 : decode cX6_change 30 = .ok (.aload_n 0, 1) := by decide +kernel
theorem dX6_change_31 : decode cX6_change 31 = .ok (.getfield 39, 3) := by decide +kernel
theorem dX6_change_34 : decode cX6_change 34 = .ok (.aload_n 0, 1) := by decide +kernel
theorem dX6_change_35 : decode cX6_change 35 = .ok (.getfield 25, 3) := by decide +kernel
theorem dX6_change_38 : decode cX6_change 38 = .ok (.iload_n 1, 1) := by decide +kernel
theorem dX6_change_39 : decode cX6_change 39 = .ok (.invokevirtual 223, 3) := by decide +kernel
theorem dX6_change_42 : decode cX6_change 42 = .ok (.aload_n 0, 1) := by decide +kernel
theorem dX6_change_43 : decode cX6_change 43 = .ok (.getfield 39, 3) := by decide +kernel
theorem dX6_change_46 : decode cX6_change 46 = .ok (.iload_n 2, 1) := by decide +kernel
theorem dX6_change_47 : decode cX6_change 47 = .ok (.invokevirtual 213, 3) := by decide +kernel
theorem dX6_change_50 : decode cX6_change 50 = .ok (.ireturn, 1) := by decide +kernel
set_option maxRecDepth 20000 in
theorem ggX6_fits_X5_has : GoodIn wsX6_fits wsX5_has := goodIn_r _ [12, 13, 136, 137, 138, 139, 140, 141, 142, 143, 144, 145, 146, 147, 148, 149, 150] (by decide +kernel) (by decide +kernel)
set_option maxRecDepth 20000 in
theorem gX6_fits_X5_has : GoodIn wsX6_fits (wsV RX6 148 RX5 yX5_has wsX5_has) := goodIn_app (goodIn_of _ (by decide +kernel)) ggX6_fits_X5_has
set_option maxRecDepth 20000 in
theorem ggX6_fits_X6_isRow : GoodIn wsX6_fits wsX6_isRow := goodIn_r _ [17] (by decide +kernel) (by decide +kernel)
set_option maxRecDepth 20000 in
theorem gX6_fits_X6_isRow : GoodIn wsX6_fits (va_wsS RX6 59 yX6_isRow wsX6_isRow) := goodIn_app (goodIn_of _ (by decide +kernel)) ggX6_fits_X6_isRow
set_option maxRecDepth 20000 in
theorem ggX6_fits_X6_isWithin : GoodIn wsX6_fits wsX6_isWithin := goodIn_r _ [20] (by decide +kernel) (by decide +kernel)
set_option maxRecDepth 20000 in
theorem gX6_fits_X6_isWithin : GoodIn wsX6_fits (va_wsS RX6 192 yX6_isWithin wsX6_isWithin) := goodIn_app (goodIn_of _ (by decide +kernel)) ggX6_fits_X6_isWithin
set_option maxRecDepth 20000 in
theorem ggX6_fits_X6_find : GoodIn wsX6_fits wsX6_find := goodIn_r _ [24, 7, 25, 122, 123, 124, 125, 126, 127, 128, 129, 130, 131] (by decide +kernel) (by decide +kernel)
set_option maxRecDepth 20000 in
theorem gX6_fits_X6_find : GoodIn wsX6_fits (wsV RX6 64 RX6 yX6_find wsX6_find) := goodIn_app (goodIn_of _ (by decide +kernel)) ggX6_fits_X6_find
set_option maxRecDepth 20000 in
theorem ggX6_fits_X4_spans : GoodIn wsX6_fits wsX4_spans := goodIn_r _ [30, 31, 132, 133, 134, 135] (by decide +kernel) (by decide +kernel)
set_option maxRecDepth 20000 in
theorem gX6_fits_X4_spans : GoodIn wsX6_fits (wsV RX6 79 RX4 yX4_spans wsX4_spans) := goodIn_app (goodIn_of _ (by decide +kernel)) ggX6_fits_X4_spans
set_option maxRecDepth 20000 in
theorem ggX6_fits_X2_listen : GoodIn wsX6_fits wsX2_listen := goodIn_r _ [36, 37, 38, 39, 40, 41, 42, 43, 151, 152, 153, 154] (by decide +kernel) (by decide +kernel)
set_option maxRecDepth 20000 in
theorem gX6_fits_X2_listen : GoodIn wsX6_fits (wsV RX6 226 RX2 yX2_listen wsX2_listen) := goodIn_app (goodIn_of _ (by decide +kernel)) ggX6_fits_X2_listen
set_option maxRecDepth 20000 in
theorem ggX6_fits_X2_sorts : GoodIn wsX6_fits wsX2_sorts := goodIn_r _ [47, 48, 49, 43, 50, 51, 52, 11, 53, 13, 54, 55, 56, 57, 58, 59, 60, 61, 39, 40, 41, 62, 63, 64, 65, 66, 67, 68, 69, 70, 35, 71, 42, 72, 37, 73, 74, 75, 76, 77, 78, 79, 80, 81, 82, 83, 84, 85, 86, 87, 88, 89, 90, 91, 92, 93, 94, 95, 96, 97, 151, 152, 153, 154, 136, 137, 138, 139, 140, 141, 142, 143, 144, 145, 146, 147, 148, 149, 150] (by decide +kernel) (by decide +kernel)
set_option maxRecDepth 20000 in
theorem gX6_fits_X2_sorts : GoodIn wsX6_fits (wsV RX6 233 RX2 yX2_sorts wsX2_sorts) := goodIn_app (goodIn_of _ (by decide +kernel)) ggX6_fits_X2_sorts
set_option maxRecDepth 20000 in
theorem ggX6_fits_X2_starts : GoodIn wsX6_fits wsX2_starts := goodIn_r _ [101, 48, 102, 43, 50, 51, 52, 11, 53, 13, 54, 55, 56, 57, 58, 59, 60, 61, 39, 40, 41, 62, 63, 64, 65, 66, 67, 68, 69, 70, 35, 71, 42, 72, 37, 73, 74, 75, 76, 77, 78, 79, 80, 81, 82, 83, 84, 85, 86, 87, 88, 89, 90, 91, 92, 93, 94, 95, 96, 97, 151, 152, 153, 154, 136, 137, 138, 139, 140, 141, 142, 143, 144, 145, 146, 147, 148, 149, 150] (by decide +kernel) (by decide +kernel)
set_option maxRecDepth 20000 in
theorem gX6_fits_X2_starts : GoodIn wsX6_fits (wsV RX6 236 RX2 yX2_starts wsX2_starts) := goodIn_app (goodIn_of _ (by decide +kernel)) ggX6_fits_X2_starts
set_option maxRecDepth 20000 in
theorem ggX6_fits_X2_hymnsHeard : GoodIn wsX6_fits wsX2_hymnsHeard := goodIn_r _ [106, 48, 107, 50, 51, 52, 11, 53, 13, 54, 55, 56, 57, 58, 59, 60, 61, 39, 40, 41, 62, 63, 64, 65, 66, 67, 68, 69, 70, 35, 71, 42, 72, 43, 37, 73, 74, 75, 76, 77, 78, 79, 80, 81, 82, 83, 84, 85, 86, 87, 88, 89, 90, 91, 92, 93, 94, 95, 96, 97, 151, 152, 153, 154, 136, 137, 138, 139, 140, 141, 142, 143, 144, 145, 146, 147, 148, 149, 150] (by decide +kernel) (by decide +kernel)
set_option maxRecDepth 20000 in
theorem gX6_fits_X2_hymnsHeard : GoodIn wsX6_fits (wsV RX6 239 RX2 yX2_hymnsHeard wsX2_hymnsHeard) := goodIn_app (goodIn_of _ (by decide +kernel)) ggX6_fits_X2_hymnsHeard
set_option maxRecDepth 20000 in
theorem ggX6_fits_X2_wells : GoodIn wsX6_fits wsX2_wells := goodIn_r _ [111, 112, 113, 114, 35, 115, 48, 116, 43, 50, 51, 52, 11, 53, 13, 54, 55, 56, 57, 58, 59, 60, 61, 39, 40, 41, 62, 63, 64, 65, 66, 67, 68, 69, 70, 71, 42, 72, 37, 73, 74, 75, 76, 77, 78, 79, 80, 81, 82, 83, 84, 85, 86, 87, 88, 89, 90, 91, 92, 93, 94, 95, 96, 97, 151, 152, 153, 154, 136, 137, 138, 139, 140, 141, 142, 143, 144, 145, 146, 147, 148, 149, 150] (by decide +kernel) (by decide +kernel)
set_option maxRecDepth 20000 in
theorem gX6_fits_X2_wells : GoodIn wsX6_fits (wsV RX6 242 RX2 yX2_wells wsX2_wells) := goodIn_app (goodIn_of _ (by decide +kernel)) ggX6_fits_X2_wells
set_option maxRecDepth 20000 in
theorem ggX6_fits_X2_leastWell : GoodIn wsX6_fits wsX2_leastWell := goodIn_r _ [120, 121, 112, 113, 114, 35, 115, 48, 116, 43, 50, 51, 52, 11, 53, 13, 54, 55, 56, 57, 58, 59, 60, 61, 39, 40, 41, 62, 63, 64, 65, 66, 67, 68, 69, 70, 71, 42, 72, 37, 73, 74, 75, 76, 77, 78, 79, 80, 81, 82, 83, 84, 85, 86, 87, 88, 89, 90, 91, 92, 93, 94, 95, 96, 97, 151, 152, 153, 154, 136, 137, 138, 139, 140, 141, 142, 143, 144, 145, 146, 147, 148, 149, 150] (by decide +kernel) (by decide +kernel)
set_option maxRecDepth 20000 in
theorem gX6_fits_X2_leastWell : GoodIn wsX6_fits (wsV RX6 245 RX2 yX2_leastWell wsX2_leastWell) := goodIn_app (goodIn_of _ (by decide +kernel)) ggX6_fits_X2_leastWell
theorem dX6_fits_0 : decode cX6_fits 0 = .ok (.aload_n 0, 1) := by decide +kernel
theorem dX6_fits_1 : decode cX6_fits 1 = .ok (.getfield 25, 3) := by decide +kernel
theorem dX6_fits_4 : decode cX6_fits 4 = .ok (.iload_n 1, 1) := by decide +kernel
theorem dX6_fits_5 : decode cX6_fits 5 = .ok (.invokevirtual 148, 3) := by decide +kernel
theorem dX6_fits_8 : decode cX6_fits 8 = .ok (.ifCond .eq 31, 3) := by decide +kernel
theorem dX6_fits_11 : decode cX6_fits 11 = .ok (.iload_n 2, 1) := by decide +kernel
theorem dX6_fits_12 : decode cX6_fits 12 = .ok (.invokestatic 59, 3) := by decide +kernel
theorem dX6_fits_15 : decode cX6_fits 15 = .ok (.ifCond .eq 24, 3) := by decide +kernel
theorem dX6_fits_18 : decode cX6_fits 18 = .ok (.iload 4, 2) := by decide +kernel
theorem dX6_fits_20 : decode cX6_fits 20 = .ok (.iconst 1, 1) := by decide +kernel
theorem dX6_fits_21 : decode cX6_fits 21 = .ok (.bipush 12, 2) := by decide +kernel
theorem dX6_fits_23 : decode cX6_fits 23 = .ok (.invokestatic 192, 3) := by decide +kernel
theorem dX6_fits_26 : decode cX6_fits 26 = .ok (.ifCond .eq 13, 3) := by decide +kernel
theorem dX6_fits_29 : decode cX6_fits 29 = .ok (.iload 5, 2) := by decide +kernel
theorem dX6_fits_31 : decode cX6_fits 31 = .ok (.iconst 0, 1) := by decide +kernel
theorem dX6_fits_32 : decode cX6_fits 32 = .ok (.iconst 4, 1) := by decide +kernel
theorem dX6_fits_33 : decode cX6_fits 33 = .ok (.invokestatic 192, 3) := by decide +kernel
theorem dX6_fits_36 : decode cX6_fits 36 = .ok (.ifCond .ne 6, 3) := by decide +kernel
theorem dX6_fits_39 : decode cX6_fits 39 = .ok (.ldc 63, 2) := by decide +kernel
theorem dX6_fits_41 : decode cX6_fits 41 = .ok (.ireturn, 1) := by decide +kernel
theorem dX6_fits_42 : decode cX6_fits 42 = .ok (.aload_n 0, 1) := by decide +kernel
theorem dX6_fits_43 : decode cX6_fits 43 = .ok (.getfield 11, 3) := by decide +kernel
theorem dX6_fits_46 : decode cX6_fits 46 = .ok (.iload_n 2, 1) := by decide +kernel
theorem dX6_fits_47 : decode cX6_fits 47 = .ok (.aaload, 1) := by decide +kernel
theorem dX6_fits_48 : decode cX6_fits 48 = .ok (.getfield 75, 3) := by decide +kernel
theorem dX6_fits_51 : decode cX6_fits 51 = .ok (.ifCond .ne 9, 3) := by decide +kernel
theorem dX6_fits_54 : decode cX6_fits 54 = .ok (.aload_n 0, 1) := by decide +kernel
theorem dX6_fits_55 : decode cX6_fits 55 = .ok (.iconst 1, 1) := by decide +kernel
theorem dX6_fits_56 : decode cX6_fits 56 = .ok (.invokevirtual 64, 3) := by decide +kernel
theorem dX6_fits_59 : decode cX6_fits 59 = .ok (.ireturn, 1) := by decide +kernel
theorem dX6_fits_60 : decode cX6_fits 60 = .ok (.aload_n 0, 1) := by decide +kernel
theorem dX6_fits_61 : decode cX6_fits 61 = .ok (.getfield 11, 3) := by decide +kernel
theorem dX6_fits_64 : decode cX6_fits 64 = .ok (.iload_n 2, 1) := by decide +kernel
theorem dX6_fits_65 : decode cX6_fits 65 = .ok (.aaload, 1) := by decide +kernel
theorem dX6_fits_66 : decode cX6_fits 66 = .ok (.iload_n 3, 1) := by decide +kernel
theorem dX6_fits_67 : decode cX6_fits 67 = .ok (.iload 4, 2) := by decide +kernel
theorem dX6_fits_69 : decode cX6_fits 69 = .ok (.invokevirtual 79, 3) := by decide +kernel
theorem dX6_fits_72 : decode cX6_fits 72 = .ok (.ifCond .ne 9, 3) := by decide +kernel
theorem dX6_fits_75 : decode cX6_fits 75 = .ok (.aload_n 0, 1) := by decide +kernel
theorem dX6_fits_76 : decode cX6_fits 76 = .ok (.iconst 2, 1) := by decide +kernel
theorem dX6_fits_77 : decode cX6_fits 77 = .ok (.invokevirtual 64, 3) := by decide +kernel
theorem dX6_fits_80 : decode cX6_fits 80 = .ok (.ireturn, 1) := by decide +kernel
theorem dX6_fits_81 : decode cX6_fits 81 = .ok (.aload_n 0, 1) := by decide +kernel
theorem dX6_fits_82 : decode cX6_fits 82 = .ok (.getfield 46, 3) := by decide +kernel
theorem dX6_fits_85 : decode cX6_fits 85 = .ok (.iload_n 1, 1) := by decide +kernel
theorem dX6_fits_86 : decode cX6_fits 86 = .ok (.aload_n 0, 1) := by decide +kernel
theorem dX6_fits_87 : decode cX6_fits 87 = .ok (.getfield 11, 3) := by decide +kernel
theorem dX6_fits_90 : decode cX6_fits 90 = .ok (.iload_n 2, 1) := by decide +kernel
theorem dX6_fits_91 : decode cX6_fits 91 = .ok (.aaload, 1) := by decide +kernel
theorem dX6_fits_92 : decode cX6_fits 92 = .ok (.getfield 91, 3) := by decide +kernel
theorem dX6_fits_95 : decode cX6_fits 95 = .ok (.iload_n 3, 1) := by decide +kernel
theorem dX6_fits_96 : decode cX6_fits 96 = .ok (.iload 4, 2) := by decide +kernel
theorem dX6_fits_98 : decode cX6_fits 98 = .ok (.invokevirtual 226, 3) := by decide +kernel
theorem dX6_fits_101 : decode cX6_fits 101 = .ok (.aload_n 0, 1) := by decide +kernel
theorem dX6_fits_102 : decode cX6_fits 102 = .ok (.iconst 0, 1) := by decide +kernel
theorem dX6_fits_103 : decode cX6_fits 103 = .ok (.putfield 230, 3) := by decide +kernel
theorem dX6_fits_106 : decode cX6_fits 106 = .ok (.iload 5, 2) := by decide +kernel
theorem dX6_fits_108 : decode cX6_fits 108 = .ok (.tableswitch 80 0 3 #[32, 44, 56, 68], 32) := by decide +kernel
theorem dX6_fits_140 : decode cX6_fits 140 = .ok (.aload_n 0, 1) := by decide +kernel
theorem dX6_fits_141 : decode cX6_fits 141 = .ok (.getfield 46, 3) := by decide +kernel
theorem dX6_fits_144 : decode cX6_fits 144 = .ok (.aload_n 0, 1) := by decide +kernel
theorem dX6_fits_145 : decode cX6_fits 145 = .ok (.getfield 25, 3) := by decide +kernel
theorem dX6_fits_148 : decode cX6_fits 148 = .ok (.invokevirtual 233, 3) := by decide +kernel
theorem dX6_fits_151 : decode cX6_fits 151 = .ok (.ireturn, 1) := by decide +kernel
theorem dX6_fits_152 : decode cX6_fits 152 = .ok (.aload_n 0, 1) := by decide +kernel
theorem dX6_fits_153 : decode cX6_fits 153 = .ok (.getfield 46, 3) := by decide +kernel
theorem dX6_fits_156 : decode cX6_fits 156 = .ok (.aload_n 0, 1) := by decide +kernel
theorem dX6_fits_157 : decode cX6_fits 157 = .ok (.getfield 25, 3) := by decide +kernel
theorem dX6_fits_160 : decode cX6_fits 160 = .ok (.invokevirtual 236, 3) := by decide +kernel
theorem dX6_fits_163 : decode cX6_fits 163 = .ok (.ireturn, 1) := by decide +kernel
theorem dX6_fits_164 : decode cX6_fits 164 = .ok (.aload_n 0, 1) := by decide +kernel
theorem dX6_fits_165 : decode cX6_fits 165 = .ok (.getfield 46, 3) := by decide +kernel
theorem dX6_fits_168 : decode cX6_fits 168 = .ok (.aload_n 0, 1) := by decide +kernel
theorem dX6_fits_169 : decode cX6_fits 169 = .ok (.getfield 25, 3) := by decide +kernel
theorem dX6_fits_172 : decode cX6_fits 172 = .ok (.invokevirtual 239, 3) := by decide +kernel
theorem dX6_fits_175 : decode cX6_fits 175 = .ok (.ireturn, 1) := by decide +kernel
theorem dX6_fits_176 : decode cX6_fits 176 = .ok (.aload_n 0, 1) := by decide +kernel
theorem dX6_fits_177 : decode cX6_fits 177 = .ok (.getfield 46, 3) := by decide +kernel
theorem dX6_fits_180 : decode cX6_fits 180 = .ok (.aload_n 0, 1) := by decide +kernel
theorem dX6_fits_181 : decode cX6_fits 181 = .ok (.getfield 25, 3) := by decide +kernel
theorem dX6_fits_184 : decode cX6_fits 184 = .ok (.invokevirtual 242, 3) := by decide +kernel
theorem dX6_fits_187 : decode cX6_fits 187 = .ok (.ireturn, 1) := by decide +kernel
theorem dX6_fits_188 : decode cX6_fits 188 = .ok (.aload_n 0, 1) := by decide +kernel
theorem dX6_fits_189 : decode cX6_fits 189 = .ok (.getfield 46, 3) := by decide +kernel
theorem dX6_fits_192 : decode cX6_fits 192 = .ok (.aload_n 0, 1) := by decide +kernel
theorem dX6_fits_193 : decode cX6_fits 193 = .ok (.getfield 25, 3) := by decide +kernel
theorem dX6_fits_196 : decode cX6_fits 196 = .ok (.invokevirtual 245, 3) := by decide +kernel
theorem dX6_fits_199 : decode cX6_fits 199 = .ok (.ireturn, 1) := by decide +kernel
set_option maxRecDepth 20000 in
theorem ggX6_away_X6_isNone : GoodIn wsX6_away wsX6_isNone := goodIn_r _ [9, 4, 10, 102, 103, 104, 105, 106, 107, 108, 109, 110, 111, 112, 113, 114, 115, 116, 117, 118, 119, 120, 121, 122, 123, 124, 125, 126] (by decide +kernel) (by decide +kernel)
set_option maxRecDepth 20000 in
theorem gX6_away_X6_isNone : GoodIn wsX6_away (wsV RX6 132 RX6 yX6_isNone wsX6_isNone) := goodIn_app (goodIn_of _ (by decide +kernel)) ggX6_away_X6_isNone
set_option maxRecDepth 20000 in
theorem ggX6_away_X6_isWithin : GoodIn wsX6_away wsX6_isWithin := goodIn_r _ [13] (by decide +kernel) (by decide +kernel)
set_option maxRecDepth 20000 in
theorem gX6_away_X6_isWithin : GoodIn wsX6_away (va_wsS RX6 192 yX6_isWithin wsX6_isWithin) := goodIn_app (goodIn_of _ (by decide +kernel)) ggX6_away_X6_isWithin
set_option maxRecDepth 20000 in
theorem ggX6_away_X6_isFlag : GoodIn wsX6_away wsX6_isFlag := goodIn_r _ [16] (by decide +kernel) (by decide +kernel)
set_option maxRecDepth 20000 in
theorem gX6_away_X6_isFlag : GoodIn wsX6_away (va_wsS RX6 196 yX6_isFlag wsX6_isFlag) := goodIn_app (goodIn_of _ (by decide +kernel)) ggX6_away_X6_isFlag
set_option maxRecDepth 20000 in
theorem ggX6_away_X1_weighAway : GoodIn wsX6_away wsX1_weighAway := goodIn_r _ [21, 22, 23, 24, 25, 26, 27, 28, 29, 30, 31, 32, 33, 34, 20, 35, 36, 37, 38, 39, 40, 41, 42, 43, 44, 45, 46, 47, 48, 49, 50, 51, 52, 53, 54, 55, 56, 57, 58, 59, 60, 61, 62, 63, 64, 65, 66, 67, 68, 69, 70, 71, 72, 73, 74, 75, 76, 77, 78, 79, 80, 81, 82, 83, 84, 85, 86, 87, 88, 89, 90, 91, 92, 93, 94, 95, 96, 97, 112, 113, 114, 115, 116, 117, 118, 119, 120, 121, 122, 123, 124, 125, 126, 127, 128, 129, 130] (by decide +kernel) (by decide +kernel)
set_option maxRecDepth 20000 in
theorem gX6_away_X1_weighAway : GoodIn wsX6_away (wsV RX6 248 RX1 yX1_weighAway wsX1_weighAway) := goodIn_app (goodIn_of _ (by decide +kernel)) ggX6_away_X1_weighAway
set_option maxRecDepth 20000 in
theorem ggX6_away_X1_answer : GoodIn wsX6_away wsX1_answer := goodIn_r _ [101, 24, 25, 127, 128, 129, 130] (by decide +kernel) (by decide +kernel)
set_option maxRecDepth 20000 in
theorem gX6_away_X1_answer : GoodIn wsX6_away (wsV RX6 213 RX1 yX1_answer wsX1_answer) := goodIn_app (goodIn_of _ (by decide +kernel)) ggX6_away_X1_answer
theorem dX6_away_0 : decode cX6_away 0 = .ok (.aload_n 0, 1) := by decide +kernel
theorem dX6_away_1 : decode cX6_away 1 = .ok (.invokevirtual 132, 3) := by decide +kernel
theorem dX6_away_4 : decode cX6_away 4 = .ok (.ifCond .eq 6, 3) := by decide +kernel
theorem dX6_away_7 : decode cX6_away 7 = .ok (.ldc 135, 2) := by decide +kernel
theorem dX6_away_9 : decode cX6_away 9 = .ok (.ireturn, 1) := by decide +kernel
theorem dX6_away_10 : decode cX6_away 10 = .ok (.iload_n 1, 1) := by decide +kernel
theorem dX6_away_11 : decode cX6_away 11 = .ok (.iconst 0, 1) := by decide +kernel
theorem dX6_away_12 : decode cX6_away 12 = .ok (.bipush 30, 2) := by decide +kernel
theorem dX6_away_14 : decode cX6_away 14 = .ok (.invokestatic 192, 3) := by decide +kernel
theorem dX6_away_17 : decode cX6_away 17 = .ok (.ifCond .eq 20, 3) := by decide +kernel
theorem dX6_away_20 : decode cX6_away 20 = .ok (.iload_n 2, 1) := by decide +kernel
theorem dX6_away_21 : decode cX6_away 21 = .ok (.iconst 0, 1) := by decide +kernel
theorem dX6_away_22 : decode cX6_away 22 = .ok (.bipush 10, 2) := by decide +kernel
theorem dX6_away_24 : decode cX6_away 24 = .ok (.invokestatic 192, 3) := by decide +kernel
theorem dX6_away_27 : decode cX6_away 27 = .ok (.ifCond .eq 10, 3) := by decide +kernel
theorem dX6_away_30 : decode cX6_away 30 = .ok (.iload_n 3, 1) := by decide +kernel
theorem dX6_away_31 : decode cX6_away 31 = .ok (.invokestatic 196, 3) := by decide +kernel
theorem dX6_away_34 : decode cX6_away 34 = .ok (.ifCond .ne 6, 3) := by decide +kernel
theorem dX6_away_37 : decode cX6_away 37 = .ok (.ldc 63, 2) := by decide +kernel
theorem dX6_away_39 : decode cX6_away 39 = .ok (.ireturn, 1) := by decide +kernel
theorem dX6_away_40 : decode cX6_away 40 = .ok (.aload_n 0, 1) := by decide +kernel
theorem dX6_away_41 : decode cX6_away 41 = .ok (.getfield 39, 3) := by decide +kernel
theorem dX6_away_44 : decode cX6_away 44 = .ok (.aload_n 0, 1) := by decide +kernel
theorem dX6_away_45 : decode cX6_away 45 = .ok (.getfield 25, 3) := by decide +kernel
theorem dX6_away_48 : decode cX6_away 48 = .ok (.iload_n 1, 1) := by decide +kernel
theorem dX6_away_49 : decode cX6_away 49 = .ok (.iload_n 2, 1) := by decide +kernel
theorem dX6_away_50 : decode cX6_away 50 = .ok (.invokevirtual 248, 3) := by decide +kernel
theorem dX6_away_53 : decode cX6_away 53 = .ok (.aload_n 0, 1) := by decide +kernel
theorem dX6_away_54 : decode cX6_away 54 = .ok (.getfield 39, 3) := by decide +kernel
theorem dX6_away_57 : decode cX6_away 57 = .ok (.iload_n 3, 1) := by decide +kernel
theorem dX6_away_58 : decode cX6_away 58 = .ok (.invokevirtual 213, 3) := by decide +kernel
theorem dX6_away_61 : decode cX6_away 61 = .ok (.ireturn, 1) := by decide +kernel
set_option maxRecDepth 20000 in
theorem ggX6_drawn_X6_isNone : GoodIn wsX6_drawn wsX6_isNone := goodIn_r _ [12, 5, 13, 96, 97, 98, 99, 100, 101, 102, 103, 104, 105, 106, 107, 108, 109, 110, 111, 112, 113, 114, 115, 116, 117, 118, 119, 120] (by decide +kernel) (by decide +kernel)
set_option maxRecDepth 20000 in
theorem gX6_drawn_X6_isNone : GoodIn wsX6_drawn (wsV RX6 132 RX6 yX6_isNone wsX6_isNone) := goodIn_app (goodIn_of _ (by decide +kernel)) ggX6_drawn_X6_isNone
set_option maxRecDepth 20000 in
theorem ggX6_drawn_X6_isWithin : GoodIn wsX6_drawn wsX6_isWithin := goodIn_r _ [16] (by decide +kernel) (by decide +kernel)
set_option maxRecDepth 20000 in
theorem gX6_drawn_X6_isWithin : GoodIn wsX6_drawn (va_wsS RX6 192 yX6_isWithin wsX6_isWithin) := goodIn_app (goodIn_of _ (by decide +kernel)) ggX6_drawn_X6_isWithin
set_option maxRecDepth 20000 in
theorem ggX6_drawn_X6_isFlag : GoodIn wsX6_drawn wsX6_isFlag := goodIn_r _ [19] (by decide +kernel) (by decide +kernel)
set_option maxRecDepth 20000 in
theorem gX6_drawn_X6_isFlag : GoodIn wsX6_drawn (va_wsS RX6 196 yX6_isFlag wsX6_isFlag) := goodIn_app (goodIn_of _ (by decide +kernel)) ggX6_drawn_X6_isFlag
set_option maxRecDepth 20000 in
theorem ggX6_drawn_X1_season : GoodIn wsX6_drawn wsX1_season := goodIn_r _ [24, 25, 26, 27, 28, 29, 30, 31, 32, 33, 34, 35, 36, 37, 38, 39, 40, 41, 42, 43, 44, 45, 46, 47, 48, 49, 50, 51, 52, 53, 54, 55, 56, 57, 58, 59, 60, 61, 62, 63, 64, 65, 66, 67, 68, 69, 70, 71, 72, 73, 74, 75, 76, 77, 78, 79, 80, 81, 82, 83, 84, 85, 86, 87, 88, 89, 90, 91, 92, 93, 94, 95, 121, 122, 123, 124, 106, 107, 108, 109, 110, 111, 112, 113, 114, 115, 116, 117, 118, 119, 120] (by decide +kernel) (by decide +kernel)
set_option maxRecDepth 20000 in
theorem gX6_drawn_X1_season : GoodIn wsX6_drawn (wsV RX6 253 RX1 yX1_season wsX1_season) := goodIn_app (goodIn_of _ (by decide +kernel)) ggX6_drawn_X1_season
theorem dX6_drawn_0 : decode cX6_drawn 0 = .ok (.aload_n 0, 1) := by decide +kernel
theorem dX6_drawn_1 : decode cX6_drawn 1 = .ok (.invokevirtual 132, 3) := by decide +kernel
theorem dX6_drawn_4 : decode cX6_drawn 4 = .ok (.ifCond .eq 6, 3) := by decide +kernel
theorem dX6_drawn_7 : decode cX6_drawn 7 = .ok (.ldc 135, 2) := by decide +kernel
theorem dX6_drawn_9 : decode cX6_drawn 9 = .ok (.ireturn, 1) := by decide +kernel
theorem dX6_drawn_10 : decode cX6_drawn 10 = .ok (.iload_n 1, 1) := by decide +kernel
theorem dX6_drawn_11 : decode cX6_drawn 11 = .ok (.iconst 0, 1) := by decide +kernel
theorem dX6_drawn_12 : decode cX6_drawn 12 = .ok (.bipush 60, 2) := by decide +kernel
theorem dX6_drawn_14 : decode cX6_drawn 14 = .ok (.invokestatic 192, 3) := by decide +kernel
theorem dX6_drawn_17 : decode cX6_drawn 17 = .ok (.ifCond .eq 20, 3) := by decide +kernel
theorem dX6_drawn_20 : decode cX6_drawn 20 = .ok (.iload_n 2, 1) := by decide +kernel
theorem dX6_drawn_21 : decode cX6_drawn 21 = .ok (.iconst 1, 1) := by decide +kernel
theorem dX6_drawn_22 : decode cX6_drawn 22 = .ok (.ldc 252, 2) := by decide +kernel
theorem dX6_drawn_24 : decode cX6_drawn 24 = .ok (.invokestatic 192, 3) := by decide +kernel
theorem dX6_drawn_27 : decode cX6_drawn 27 = .ok (.ifCond .eq 10, 3) := by decide +kernel
theorem dX6_drawn_30 : decode cX6_drawn 30 = .ok (.iload_n 3, 1) := by decide +kernel
theorem dX6_drawn_31 : decode cX6_drawn 31 = .ok (.invokestatic 196, 3) := by decide +kernel
theorem dX6_drawn_34 : decode cX6_drawn 34 = .ok (.ifCond .ne 6, 3) := by decide +kernel
theorem dX6_drawn_37 : decode cX6_drawn 37 = .ok (.ldc 63, 2) := by decide +kernel
theorem dX6_drawn_39 : decode cX6_drawn 39 = .ok (.ireturn, 1) := by decide +kernel
theorem dX6_drawn_40 : decode cX6_drawn 40 = .ok (.aload_n 0, 1) := by decide +kernel
theorem dX6_drawn_41 : decode cX6_drawn 41 = .ok (.getfield 39, 3) := by decide +kernel
theorem dX6_drawn_44 : decode cX6_drawn 44 = .ok (.aload_n 0, 1) := by decide +kernel
theorem dX6_drawn_45 : decode cX6_drawn 45 = .ok (.getfield 25, 3) := by decide +kernel
theorem dX6_drawn_48 : decode cX6_drawn 48 = .ok (.iload_n 1, 1) := by decide +kernel
theorem dX6_drawn_49 : decode cX6_drawn 49 = .ok (.iload_n 2, 1) := by decide +kernel
theorem dX6_drawn_50 : decode cX6_drawn 50 = .ok (.invokevirtual 253, 3) := by decide +kernel
theorem dX6_drawn_53 : decode cX6_drawn 53 = .ok (.astore 4, 2) := by decide +kernel
theorem dX6_drawn_55 : decode cX6_drawn 55 = .ok (.iload_n 3, 1) := by decide +kernel
theorem dX6_drawn_56 : decode cX6_drawn 56 = .ok (.ifCond .ne 11, 3) := by decide +kernel
theorem dX6_drawn_59 : decode cX6_drawn 59 = .ok (.aload 4, 2) := by decide +kernel
theorem dX6_drawn_61 : decode cX6_drawn 61 = .ok (.getfield 145, 3) := by decide +kernel
theorem dX6_drawn_64 : decode cX6_drawn 64 = .ok (.goto 8, 3) := by decide +kernel
theorem dX6_drawn_67 : decode cX6_drawn 67 = .ok (.aload 4, 2) := by decide +kernel
theorem dX6_drawn_69 : decode cX6_drawn 69 = .ok (.getfield 203, 3) := by decide +kernel
theorem dX6_drawn_72 : decode cX6_drawn 72 = .ok (.ireturn, 1) := by decide +kernel
set_option maxRecDepth 20000 in
theorem ggX6_image_X6_isNone : GoodIn wsX6_image wsX6_isNone := goodIn_r _ [9, 4, 10, 34, 35, 36, 37, 38, 39, 40, 41, 42, 43, 44, 45, 46, 47, 48, 49, 50, 51, 52, 53, 54, 55, 56, 57, 58] (by decide +kernel) (by decide +kernel)
set_option maxRecDepth 20000 in
theorem gX6_image_X6_isNone : GoodIn wsX6_image (wsV RX6 132 RX6 yX6_isNone wsX6_isNone) := goodIn_app (goodIn_of _ (by decide +kernel)) ggX6_image_X6_isNone
set_option maxRecDepth 20000 in
theorem ggX6_image_X5_become : GoodIn wsX6_image wsX5_become := goodIn_r _ [15, 16, 17, 18, 19, 20, 21, 22, 23, 24, 25, 26, 27, 28, 29, 30, 31, 32, 33, 44, 45, 46, 47, 48, 49, 50, 51, 52, 53, 54, 55, 56, 57, 58] (by decide +kernel) (by decide +kernel)
set_option maxRecDepth 20000 in
theorem gX6_image_X5_become : GoodIn wsX6_image (wsV RX6 119 RX5 yX5_become wsX5_become) := goodIn_app (goodIn_of _ (by decide +kernel)) ggX6_image_X5_become
theorem dX6_image_0 : decode cX6_image 0 = .ok (.iload_n 1, 1) := by decide +kernel
theorem dX6_image_1 : decode cX6_image 1 = .ok (.ifCond .lt 8, 3) := by decide +kernel
theorem dX6_image_4 : decode cX6_image 4 = .ok (.iload_n 1, 1) := by decide +kernel
theorem dX6_image_5 : decode cX6_image 5 = .ok (.iconst 2, 1) := by decide +kernel
theorem dX6_image_6 : decode cX6_image 6 = .ok (.if_icmp .lt 6, 3) := by decide +kernel
theorem dX6_image_9 : decode cX6_image 9 = .ok (.ldc 63, 2) := by decide +kernel
theorem dX6_image_11 : decode cX6_image 11 = .ok (.ireturn, 1) := by decide +kernel
theorem dX6_image_12 : decode cX6_image 12 = .ok (.aload_n 0, 1) := by decide +kernel
theorem dX6_image_13 : decode cX6_image 13 = .ok (.invokevirtual 132, 3) := by decide +kernel
theorem dX6_image_16 : decode cX6_image 16 = .ok (.ifCond .eq 6, 3) := by decide +kernel
theorem dX6_image_19 : decode cX6_image 19 = .ok (.ldc 135, 2) := by decide +kernel
theorem dX6_image_21 : decode cX6_image 21 = .ok (.ireturn, 1) := by decide +kernel
theorem dX6_image_22 : decode cX6_image 22 = .ok (.aload_n 0, 1) := by decide +kernel
theorem dX6_image_23 : decode cX6_image 23 = .ok (.getfield 50, 3) := by decide +kernel
theorem dX6_image_26 : decode cX6_image 26 = .ok (.iload_n 1, 1) := by decide +kernel
theorem dX6_image_27 : decode cX6_image 27 = .ok (.aaload, 1) := by decide +kernel
theorem dX6_image_28 : decode cX6_image 28 = .ok (.aload_n 0, 1) := by decide +kernel
theorem dX6_image_29 : decode cX6_image 29 = .ok (.getfield 25, 3) := by decide +kernel
theorem dX6_image_32 : decode cX6_image 32 = .ok (.invokevirtual 119, 3) := by decide +kernel
theorem dX6_image_35 : decode cX6_image 35 = .ok (.iconst 1, 1) := by decide +kernel
theorem dX6_image_36 : decode cX6_image 36 = .ok (.ireturn, 1) := by decide +kernel
set_option maxRecDepth 20000 in
theorem ggX6_restore_X5_become : GoodIn wsX6_restore wsX5_become := goodIn_r _ [11, 12, 13, 14, 15, 16, 17, 18, 19, 20, 21, 22, 23, 24, 25, 26, 27, 28, 29, 46, 47, 48, 49, 50, 51, 52, 53, 54, 55, 56, 57, 58, 59, 60] (by decide +kernel) (by decide +kernel)
set_option maxRecDepth 20000 in
theorem gX6_restore_X5_become : GoodIn wsX6_restore (wsV RX6 119 RX5 yX5_become wsX5_become) := goodIn_app (goodIn_of _ (by decide +kernel)) ggX6_restore_X5_become
set_option maxRecDepth 20000 in
theorem ggX6_restore_X0_forget : GoodIn wsX6_restore wsX0_forget := goodIn_r _ [34, 35, 61, 62, 63] (by decide +kernel) (by decide +kernel)
set_option maxRecDepth 20000 in
theorem gX6_restore_X0_forget : GoodIn wsX6_restore (wsV RX6 123 RX0 yX0_forget wsX0_forget) := goodIn_app (goodIn_of _ (by decide +kernel)) ggX6_restore_X0_forget
theorem dX6_restore_0 : decode cX6_restore 0 = .ok (.iload_n 1, 1) := by decide +kernel
theorem dX6_restore_1 : decode cX6_restore 1 = .ok (.ifCond .lt 8, 3) := by decide +kernel
theorem dX6_restore_4 : decode cX6_restore 4 = .ok (.iload_n 1, 1) := by decide +kernel
theorem dX6_restore_5 : decode cX6_restore 5 = .ok (.iconst 2, 1) := by decide +kernel
theorem dX6_restore_6 : decode cX6_restore 6 = .ok (.if_icmp .lt 6, 3) := by decide +kernel
theorem dX6_restore_9 : decode cX6_restore 9 = .ok (.ldc 63, 2) := by decide +kernel
theorem dX6_restore_11 : decode cX6_restore 11 = .ok (.ireturn, 1) := by decide +kernel
theorem dX6_restore_12 : decode cX6_restore 12 = .ok (.aload_n 0, 1) := by decide +kernel
theorem dX6_restore_13 : decode cX6_restore 13 = .ok (.getfield 50, 3) := by decide +kernel
theorem dX6_restore_16 : decode cX6_restore 16 = .ok (.iload_n 1, 1) := by decide +kernel
theorem dX6_restore_17 : decode cX6_restore 17 = .ok (.aaload, 1) := by decide +kernel
theorem dX6_restore_18 : decode cX6_restore 18 = .ok (.getfield 126, 3) := by decide +kernel
theorem dX6_restore_21 : decode cX6_restore 21 = .ok (.ifCond .ne 6, 3) := by decide +kernel
theorem dX6_restore_24 : decode cX6_restore 24 = .ok (.ldc 135, 2) := by decide +kernel
theorem dX6_restore_26 : decode cX6_restore 26 = .ok (.ireturn, 1) := by decide +kernel
theorem dX6_restore_27 : decode cX6_restore 27 = .ok (.aload_n 0, 1) := by decide +kernel
theorem dX6_restore_28 : decode cX6_restore 28 = .ok (.getfield 25, 3) := by decide +kernel
theorem dX6_restore_31 : decode cX6_restore 31 = .ok (.aload_n 0, 1) := by decide +kernel
theorem dX6_restore_32 : decode cX6_restore 32 = .ok (.getfield 50, 3) := by decide +kernel
theorem dX6_restore_35 : decode cX6_restore 35 = .ok (.iload_n 1, 1) := by decide +kernel
theorem dX6_restore_36 : decode cX6_restore 36 = .ok (.aaload, 1) := by decide +kernel
theorem dX6_restore_37 : decode cX6_restore 37 = .ok (.invokevirtual 119, 3) := by decide +kernel
theorem dX6_restore_40 : decode cX6_restore 40 = .ok (.aload_n 0, 1) := by decide +kernel
theorem dX6_restore_41 : decode cX6_restore 41 = .ok (.getfield 32, 3) := by decide +kernel
theorem dX6_restore_44 : decode cX6_restore 44 = .ok (.invokevirtual 123, 3) := by decide +kernel
theorem dX6_restore_47 : decode cX6_restore 47 = .ok (.iconst 1, 1) := by decide +kernel
theorem dX6_restore_48 : decode cX6_restore 48 = .ok (.ireturn, 1) := by decide +kernel
set_option maxRecDepth 20000 in
theorem ggX6_kind_X5_has : GoodIn wsX6_kind wsX5_has := goodIn_r _ [8, 9, 20, 21, 22, 23, 24, 25, 26, 27, 28, 29, 30, 31, 32, 33, 34] (by decide +kernel) (by decide +kernel)
set_option maxRecDepth 20000 in
theorem gX6_kind_X5_has : GoodIn wsX6_kind (wsV RX6 148 RX5 yX5_has wsX5_has) := goodIn_app (goodIn_of _ (by decide +kernel)) ggX6_kind_X5_has
theorem dX6_kind_0 : decode cX6_kind 0 = .ok (.aload_n 0, 1) := by decide +kernel
theorem dX6_kind_1 : decode cX6_kind 1 = .ok (.getfield 25, 3) := by decide +kernel
theorem dX6_kind_4 : decode cX6_kind 4 = .ok (.iload_n 1, 1) := by decide +kernel
theorem dX6_kind_5 : decode cX6_kind 5 = .ok (.invokevirtual 148, 3) := by decide +kernel
theorem dX6_kind_8 : decode cX6_kind 8 = .ok (.ifCond .eq 15, 3) := by decide +kernel
theorem dX6_kind_11 : decode cX6_kind 11 = .ok (.aload_n 0, 1) := by decide +kernel
theorem dX6_kind_12 : decode cX6_kind 12 = .ok (.getfield 25, 3) := by decide +kernel
theorem dX6_kind_15 : decode cX6_kind 15 = .ok (.getfield 257, 3) := by decide +kernel
theorem dX6_kind_18 : decode cX6_kind 18 = .ok (.iload_n 1, 1) := by decide +kernel
theorem dX6_kind_19 : decode cX6_kind 19 = .ok (.iaload, 1) := by decide +kernel
theorem dX6_kind_20 : decode cX6_kind 20 = .ok (.goto 5, 3) := by decide +kernel
theorem dX6_kind_23 : decode cX6_kind 23 = .ok (.ldc 63, 2) := by decide +kernel
theorem dX6_kind_25 : decode cX6_kind 25 = .ok (.ireturn, 1) := by decide +kernel
set_option maxRecDepth 20000 in
theorem ggX6_as_X5_has : GoodIn wsX6_as wsX5_has := goodIn_r _ [8, 9, 35, 36, 37, 38, 39, 40, 41, 42, 43, 44, 45, 46, 47, 48, 49] (by decide +kernel) (by decide +kernel)
set_option maxRecDepth 20000 in
theorem gX6_as_X5_has : GoodIn wsX6_as (wsV RX6 148 RX5 yX5_has wsX5_has) := goodIn_app (goodIn_of _ (by decide +kernel)) ggX6_as_X5_has
set_option maxRecDepth 20000 in
theorem ggX6_as_X6_isOf : GoodIn wsX6_as wsX6_isOf := goodIn_r _ [13, 14] (by decide +kernel) (by decide +kernel)
set_option maxRecDepth 20000 in
theorem gX6_as_X6_isOf : GoodIn wsX6_as (va_wsS RX6 260 yX6_isOf wsX6_isOf) := goodIn_app (goodIn_of _ (by decide +kernel)) ggX6_as_X6_isOf
set_option maxRecDepth 20000 in
theorem ggX6_as_X6_findNothing : GoodIn wsX6_as wsX6_findNothing := goodIn_r _ [18, 19, 25, 26, 27, 28, 29, 30, 31, 32, 33, 34] (by decide +kernel) (by decide +kernel)
set_option maxRecDepth 20000 in
theorem gX6_as_X6_findNothing : GoodIn wsX6_as (wsV RX6 72 RX6 yX6_findNothing wsX6_findNothing) := goodIn_app (goodIn_of _ (by decide +kernel)) ggX6_as_X6_findNothing
set_option maxRecDepth 20000 in
theorem ggX6_as_X6_find : GoodIn wsX6_as wsX6_find := goodIn_r _ [23, 19, 24, 25, 26, 27, 28, 29, 30, 31, 32, 33, 34] (by decide +kernel) (by decide +kernel)
set_option maxRecDepth 20000 in
theorem gX6_as_X6_find : GoodIn wsX6_as (wsV RX6 64 RX6 yX6_find wsX6_find) := goodIn_app (goodIn_of _ (by decide +kernel)) ggX6_as_X6_find
theorem dX6_as_0 : decode cX6_as 0 = .ok (.aload_n 0, 1) := by decide +kernel
theorem dX6_as_1 : decode cX6_as 1 = .ok (.getfield 25, 3) := by decide +kernel
theorem dX6_as_4 : decode cX6_as 4 = .ok (.iload_n 1, 1) := by decide +kernel
theorem dX6_as_5 : decode cX6_as 5 = .ok (.invokevirtual 148, 3) := by decide +kernel
theorem dX6_as_8 : decode cX6_as 8 = .ok (.ifCond .eq 12, 3) := by decide +kernel
theorem dX6_as_11 : decode cX6_as 11 = .ok (.iload_n 2, 1) := by decide +kernel
theorem dX6_as_12 : decode cX6_as 12 = .ok (.ifCond .lt 8, 3) := by decide +kernel
theorem dX6_as_15 : decode cX6_as 15 = .ok (.iload_n 2, 1) := by decide +kernel
theorem dX6_as_16 : decode cX6_as 16 = .ok (.iconst 5, 1) := by decide +kernel
theorem dX6_as_17 : decode cX6_as 17 = .ok (.if_icmp .le 6, 3) := by decide +kernel
theorem dX6_as_20 : decode cX6_as 20 = .ok (.ldc 63, 2) := by decide +kernel
theorem dX6_as_22 : decode cX6_as 22 = .ok (.ireturn, 1) := by decide +kernel
theorem dX6_as_23 : decode cX6_as 23 = .ok (.aload_n 0, 1) := by decide +kernel
theorem dX6_as_24 : decode cX6_as 24 = .ok (.getfield 25, 3) := by decide +kernel
theorem dX6_as_27 : decode cX6_as 27 = .ok (.getfield 257, 3) := by decide +kernel
theorem dX6_as_30 : decode cX6_as 30 = .ok (.iload_n 1, 1) := by decide +kernel
theorem dX6_as_31 : decode cX6_as 31 = .ok (.iaload, 1) := by decide +kernel
theorem dX6_as_32 : decode cX6_as 32 = .ok (.iload_n 2, 1) := by decide +kernel
theorem dX6_as_33 : decode cX6_as 33 = .ok (.invokestatic 260, 3) := by decide +kernel
theorem dX6_as_36 : decode cX6_as 36 = .ok (.ifCond .eq 11, 3) := by decide +kernel
theorem dX6_as_39 : decode cX6_as 39 = .ok (.aload_n 0, 1) := by decide +kernel
theorem dX6_as_40 : decode cX6_as 40 = .ok (.iload_n 1, 1) := by decide +kernel
theorem dX6_as_41 : decode cX6_as 41 = .ok (.invokevirtual 72, 3) := by decide +kernel
theorem dX6_as_44 : decode cX6_as 44 = .ok (.goto 8, 3) := by decide +kernel
theorem dX6_as_47 : decode cX6_as 47 = .ok (.aload_n 0, 1) := by decide +kernel
theorem dX6_as_48 : decode cX6_as 48 = .ok (.iconst 3, 1) := by decide +kernel
theorem dX6_as_49 : decode cX6_as 49 = .ok (.invokevirtual 64, 3) := by decide +kernel
theorem dX6_as_52 : decode cX6_as 52 = .ok (.ireturn, 1) := by decide +kernel
set_option maxRecDepth 20000 in
theorem ggX6_ask_X5_has : GoodIn wsX6_ask wsX5_has := goodIn_r _ [11, 12, 38, 39, 40, 41, 42, 43, 44, 45, 46, 47, 48, 49, 50, 51, 52] (by decide +kernel) (by decide +kernel)
set_option maxRecDepth 20000 in
theorem gX6_ask_X5_has : GoodIn wsX6_ask (wsV RX6 148 RX5 yX5_has wsX5_has) := goodIn_app (goodIn_of _ (by decide +kernel)) ggX6_ask_X5_has
set_option maxRecDepth 20000 in
theorem ggX6_ask_X6_isFlag : GoodIn wsX6_ask wsX6_isFlag := goodIn_r _ [16] (by decide +kernel) (by decide +kernel)
set_option maxRecDepth 20000 in
theorem gX6_ask_X6_isFlag : GoodIn wsX6_ask (va_wsS RX6 196 yX6_isFlag wsX6_isFlag) := goodIn_app (goodIn_of _ (by decide +kernel)) ggX6_ask_X6_isFlag
set_option maxRecDepth 20000 in
theorem ggX6_ask_X6_give : GoodIn wsX6_ask wsX6_give := goodIn_r _ [20, 1, 4, 21, 6, 22, 5, 23, 24, 25, 15, 26, 3, 27, 17, 18, 19, 28, 29, 30, 31, 32, 33, 34, 35, 36, 37, 38, 39, 40, 41, 42, 43, 44, 45, 46, 47, 48, 49, 50, 51, 52] (by decide +kernel) (by decide +kernel)
set_option maxRecDepth 20000 in
theorem gX6_ask_X6_give : GoodIn wsX6_ask (wsV RX6 272 RX6 yX6_give wsX6_give) := goodIn_app (goodIn_of _ (by decide +kernel)) ggX6_ask_X6_give
theorem dX6_ask_0 : decode cX6_ask 0 = .ok (.aload_n 0, 1) := by decide +kernel
theorem dX6_ask_1 : decode cX6_ask 1 = .ok (.getfield 25, 3) := by decide +kernel
theorem dX6_ask_4 : decode cX6_ask 4 = .ok (.iload_n 1, 1) := by decide +kernel
theorem dX6_ask_5 : decode cX6_ask 5 = .ok (.invokevirtual 148, 3) := by decide +kernel
theorem dX6_ask_8 : decode cX6_ask 8 = .ok (.ifCond .eq 10, 3) := by decide +kernel
theorem dX6_ask_11 : decode cX6_ask 11 = .ok (.iload_n 2, 1) := by decide +kernel
theorem dX6_ask_12 : decode cX6_ask 12 = .ok (.invokestatic 196, 3) := by decide +kernel
theorem dX6_ask_15 : decode cX6_ask 15 = .ok (.ifCond .ne 6, 3) := by decide +kernel
theorem dX6_ask_18 : decode cX6_ask 18 = .ok (.ldc 63, 2) := by decide +kernel
theorem dX6_ask_20 : decode cX6_ask 20 = .ok (.ireturn, 1) := by decide +kernel
theorem dX6_ask_21 : decode cX6_ask 21 = .ok (.aload_n 0, 1) := by decide +kernel
theorem dX6_ask_22 : decode cX6_ask 22 = .ok (.iconst 0, 1) := by decide +kernel
theorem dX6_ask_23 : decode cX6_ask 23 = .ok (.putfield 263, 3) := by decide +kernel
theorem dX6_ask_26 : decode cX6_ask 26 = .ok (.aload_n 0, 1) := by decide +kernel
theorem dX6_ask_27 : decode cX6_ask 27 = .ok (.getfield 25, 3) := by decide +kernel
theorem dX6_ask_30 : decode cX6_ask 30 = .ok (.getfield 257, 3) := by decide +kernel
theorem dX6_ask_33 : decode cX6_ask 33 = .ok (.iload_n 1, 1) := by decide +kernel
theorem dX6_ask_34 : decode cX6_ask 34 = .ok (.iaload, 1) := by decide +kernel
theorem dX6_ask_35 : decode cX6_ask 35 = .ok (.istore_n 3, 1) := by decide +kernel
theorem dX6_ask_36 : decode cX6_ask 36 = .ok (.aload_n 0, 1) := by decide +kernel
theorem dX6_ask_37 : decode cX6_ask 37 = .ok (.iload_n 2, 1) := by decide +kernel
theorem dX6_ask_38 : decode cX6_ask 38 = .ok (.ifCond .ne 11, 3) := by decide +kernel
theorem dX6_ask_41 : decode cX6_ask 41 = .ok (.getstatic 266, 3) := by decide +kernel
theorem dX6_ask_44 : decode cX6_ask 44 = .ok (.iload_n 3, 1) := by decide +kernel
theorem dX6_ask_45 : decode cX6_ask 45 = .ok (.iaload, 1) := by decide +kernel
theorem dX6_ask_46 : decode cX6_ask 46 = .ok (.goto 8, 3) := by decide +kernel
theorem dX6_ask_49 : decode cX6_ask 49 = .ok (.getstatic 269, 3) := by decide +kernel
theorem dX6_ask_52 : decode cX6_ask 52 = .ok (.iload_n 3, 1) := by decide +kernel
theorem dX6_ask_53 : decode cX6_ask 53 = .ok (.iaload, 1) := by decide +kernel
theorem dX6_ask_54 : decode cX6_ask 54 = .ok (.iload_n 1, 1) := by decide +kernel
theorem dX6_ask_55 : decode cX6_ask 55 = .ok (.iconst 0, 1) := by decide +kernel
theorem dX6_ask_56 : decode cX6_ask 56 = .ok (.invokevirtual 272, 3) := by decide +kernel
theorem dX6_ask_59 : decode cX6_ask 59 = .ok (.ireturn, 1) := by decide +kernel
theorem dX6_trace_0 : decode cX6_trace 0 = .ok (.iload_n 1, 1) := by decide +kernel
theorem dX6_trace_1 : decode cX6_trace 1 = .ok (.ifCond .lt 11, 3) := by decide +kernel
theorem dX6_trace_4 : decode cX6_trace 4 = .ok (.iload_n 1, 1) := by decide +kernel
theorem dX6_trace_5 : decode cX6_trace 5 = .ok (.aload_n 0, 1) := by decide +kernel
theorem dX6_trace_6 : decode cX6_trace 6 = .ok (.getfield 263, 3) := by decide +kernel
theorem dX6_trace_9 : decode cX6_trace 9 = .ok (.if_icmp .lt 9, 3) := by decide +kernel
theorem dX6_trace_12 : decode cX6_trace 12 = .ok (.ldc_w 276, 3) := by decide +kernel
theorem dX6_trace_15 : decode cX6_trace 15 = .ok (.goto 9, 3) := by decide +kernel
theorem dX6_trace_18 : decode cX6_trace 18 = .ok (.aload_n 0, 1) := by decide +kernel
theorem dX6_trace_19 : decode cX6_trace 19 = .ok (.getfield 54, 3) := by decide +kernel
theorem dX6_trace_22 : decode cX6_trace 22 = .ok (.iload_n 1, 1) := by decide +kernel
theorem dX6_trace_23 : decode cX6_trace 23 = .ok (.iaload, 1) := by decide +kernel
theorem dX6_trace_24 : decode cX6_trace 24 = .ok (.ireturn, 1) := by decide +kernel
set_option maxRecDepth 20000 in
theorem ggX6_count_X6_rowsThere : GoodIn wsX6_count wsX6_rowsThere := goodIn_r _ [18, 19, 20, 21, 22, 23, 24, 25, 26, 27, 28, 29, 30, 54, 55, 56, 57] (by decide +kernel) (by decide +kernel)
set_option maxRecDepth 20000 in
theorem gX6_count_X6_rowsThere : GoodIn wsX6_count (wsV RX6 277 RX6 yX6_rowsThere wsX6_rowsThere) := goodIn_app (goodIn_of _ (by decide +kernel)) ggX6_count_X6_rowsThere
theorem dX6_count_0 : decode cX6_count 0 = .ok (.iload_n 1, 1) := by decide +kernel
theorem dX6_count_1 : decode cX6_count 1 = .ok (.tableswitch 132 0 9 #[55, 60, 68, 76, 84, 92, 100, 108, 116, 124], 55) := by decide +kernel
theorem dX6_count_56 : decode cX6_count 56 = .ok (.aload_n 0, 1) := by decide +kernel
theorem dX6_count_57 : decode cX6_count 57 = .ok (.invokevirtual 277, 3) := by decide +kernel
theorem dX6_count_60 : decode cX6_count 60 = .ok (.ireturn, 1) := by decide +kernel
theorem dX6_count_61 : decode cX6_count 61 = .ok (.aload_n 0, 1) := by decide +kernel
theorem dX6_count_62 : decode cX6_count 62 = .ok (.getfield 25, 3) := by decide +kernel
theorem dX6_count_65 : decode cX6_count 65 = .ok (.getfield 126, 3) := by decide +kernel
theorem dX6_count_68 : decode cX6_count 68 = .ok (.ireturn, 1) := by decide +kernel
theorem dX6_count_69 : decode cX6_count 69 = .ok (.aload_n 0, 1) := by decide +kernel
theorem dX6_count_70 : decode cX6_count 70 = .ok (.getfield 25, 3) := by decide +kernel
theorem dX6_count_73 : decode cX6_count 73 = .ok (.getfield 136, 3) := by decide +kernel
theorem dX6_count_76 : decode cX6_count 76 = .ok (.ireturn, 1) := by decide +kernel
theorem dX6_count_77 : decode cX6_count 77 = .ok (.aload_n 0, 1) := by decide +kernel
theorem dX6_count_78 : decode cX6_count 78 = .ok (.getfield 25, 3) := by decide +kernel
theorem dX6_count_81 : decode cX6_count 81 = .ok (.getfield 281, 3) := by decide +kernel
theorem dX6_count_84 : decode cX6_count 84 = .ok (.ireturn, 1) := by decide +kernel
theorem dX6_count_85 : decode cX6_count 85 = .ok (.aload_n 0, 1) := by decide +kernel
theorem dX6_count_86 : decode cX6_count 86 = .ok (.getfield 25, 3) := by decide +kernel
theorem dX6_count_89 : decode cX6_count 89 = .ok (.getfield 167, 3) := by decide +kernel
theorem dX6_count_92 : decode cX6_count 92 = .ok (.ireturn, 1) := by decide +kernel
theorem dX6_count_93 : decode cX6_count 93 = .ok (.aload_n 0, 1) := by decide +kernel
theorem dX6_count_94 : decode cX6_count 94 = .ok (.getfield 25, 3) := by decide +kernel
theorem dX6_count_97 : decode cX6_count 97 = .ok (.getfield 145, 3) := by decide +kernel
theorem dX6_count_100 : decode cX6_count 100 = .ok (.ireturn, 1) := by decide +kernel
theorem dX6_count_101 : decode cX6_count 101 = .ok (.aload_n 0, 1) := by decide +kernel
theorem dX6_count_102 : decode cX6_count 102 = .ok (.getfield 25, 3) := by decide +kernel
theorem dX6_count_105 : decode cX6_count 105 = .ok (.getfield 203, 3) := by decide +kernel
theorem dX6_count_108 : decode cX6_count 108 = .ok (.ireturn, 1) := by decide +kernel
theorem dX6_count_109 : decode cX6_count 109 = .ok (.aload_n 0, 1) := by decide +kernel
theorem dX6_count_110 : decode cX6_count 110 = .ok (.getfield 25, 3) := by decide +kernel
theorem dX6_count_113 : decode cX6_count 113 = .ok (.getfield 154, 3) := by decide +kernel
theorem dX6_count_116 : decode cX6_count 116 = .ok (.ireturn, 1) := by decide +kernel
theorem dX6_count_117 : decode cX6_count 117 = .ok (.aload_n 0, 1) := by decide +kernel
theorem dX6_count_118 : decode cX6_count 118 = .ok (.getfield 32, 3) := by decide +kernel
theorem dX6_count_121 : decode cX6_count 121 = .ok (.getfield 170, 3) := by decide +kernel
theorem dX6_count_124 : decode cX6_count 124 = .ok (.ireturn, 1) := by decide +kernel
theorem dX6_count_125 : decode cX6_count 125 = .ok (.aload_n 0, 1) := by decide +kernel
theorem dX6_count_126 : decode cX6_count 126 = .ok (.getfield 18, 3) := by decide +kernel
theorem dX6_count_129 : decode cX6_count 129 = .ok (.getfield 106, 3) := by decide +kernel
theorem dX6_count_132 : decode cX6_count 132 = .ok (.ireturn, 1) := by decide +kernel
theorem dX6_count_133 : decode cX6_count 133 = .ok (.ldc 63, 2) := by decide +kernel
theorem dX6_count_135 : decode cX6_count 135 = .ok (.ireturn, 1) := by decide +kernel
theorem dX6_status_0 : decode cX6_status 0 = .ok (.aload_n 0, 1) := by decide +kernel
theorem dX6_status_1 : decode cX6_status 1 = .ok (.getfield 230, 3) := by decide +kernel
theorem dX6_status_4 : decode cX6_status 4 = .ok (.ireturn, 1) := by decide +kernel
theorem dX6_isWithin_0 : decode cX6_isWithin 0 = .ok (.iload_n 0, 1) := by decide +kernel
theorem dX6_isWithin_1 : decode cX6_isWithin 1 = .ok (.iload_n 1, 1) := by decide +kernel
theorem dX6_isWithin_2 : decode cX6_isWithin 2 = .ok (.if_icmp .lt 12, 3) := by decide +kernel
theorem dX6_isWithin_5 : decode cX6_isWithin 5 = .ok (.iload_n 0, 1) := by decide +kernel
theorem dX6_isWithin_6 : decode cX6_isWithin 6 = .ok (.iload_n 2, 1) := by decide +kernel
theorem dX6_isWithin_7 : decode cX6_isWithin 7 = .ok (.if_icmp .gt 7, 3) := by decide +kernel
theorem dX6_isWithin_10 : decode cX6_isWithin 10 = .ok (.iconst 1, 1) := by decide +kernel
theorem dX6_isWithin_11 : decode cX6_isWithin 11 = .ok (.goto 4, 3) := by decide +kernel
theorem dX6_isWithin_14 : decode cX6_isWithin 14 = .ok (.iconst 0, 1) := by decide +kernel
theorem dX6_isWithin_15 : decode cX6_isWithin 15 = .ok (.ireturn, 1) := by decide +kernel
theorem dX6_isFlag_0 : decode cX6_isFlag 0 = .ok (.iload_n 0, 1) := by decide +kernel
theorem dX6_isFlag_1 : decode cX6_isFlag 1 = .ok (.ifCond .eq 8, 3) := by decide +kernel
theorem dX6_isFlag_4 : decode cX6_isFlag 4 = .ok (.iload_n 0, 1) := by decide +kernel
theorem dX6_isFlag_5 : decode cX6_isFlag 5 = .ok (.iconst 1, 1) := by decide +kernel
theorem dX6_isFlag_6 : decode cX6_isFlag 6 = .ok (.if_icmp .ne 7, 3) := by decide +kernel
theorem dX6_isFlag_9 : decode cX6_isFlag 9 = .ok (.iconst 1, 1) := by decide +kernel
theorem dX6_isFlag_10 : decode cX6_isFlag 10 = .ok (.goto 4, 3) := by decide +kernel
theorem dX6_isFlag_13 : decode cX6_isFlag 13 = .ok (.iconst 0, 1) := by decide +kernel
theorem dX6_isFlag_14 : decode cX6_isFlag 14 = .ok (.ireturn, 1) := by decide +kernel
theorem dX6_isRow_0 : decode cX6_isRow 0 = .ok (.iload_n 0, 1) := by decide +kernel
theorem dX6_isRow_1 : decode cX6_isRow 1 = .ok (.ifCond .lt 13, 3) := by decide +kernel
theorem dX6_isRow_4 : decode cX6_isRow 4 = .ok (.iload_n 0, 1) := by decide +kernel
theorem dX6_isRow_5 : decode cX6_isRow 5 = .ok (.bipush 8, 2) := by decide +kernel
theorem dX6_isRow_7 : decode cX6_isRow 7 = .ok (.if_icmp .ge 7, 3) := by decide +kernel
theorem dX6_isRow_10 : decode cX6_isRow 10 = .ok (.iconst 1, 1) := by decide +kernel
theorem dX6_isRow_11 : decode cX6_isRow 11 = .ok (.goto 4, 3) := by decide +kernel
theorem dX6_isRow_14 : decode cX6_isRow 14 = .ok (.iconst 0, 1) := by decide +kernel
theorem dX6_isRow_15 : decode cX6_isRow 15 = .ok (.ireturn, 1) := by decide +kernel
theorem dX6_isNone_0 : decode cX6_isNone 0 = .ok (.aload_n 0, 1) := by decide +kernel
theorem dX6_isNone_1 : decode cX6_isNone 1 = .ok (.getfield 25, 3) := by decide +kernel
theorem dX6_isNone_4 : decode cX6_isNone 4 = .ok (.getfield 126, 3) := by decide +kernel
theorem dX6_isNone_7 : decode cX6_isNone 7 = .ok (.ifCond .ne 7, 3) := by decide +kernel
theorem dX6_isNone_10 : decode cX6_isNone 10 = .ok (.iconst 1, 1) := by decide +kernel
theorem dX6_isNone_11 : decode cX6_isNone 11 = .ok (.goto 4, 3) := by decide +kernel
theorem dX6_isNone_14 : decode cX6_isNone 14 = .ok (.iconst 0, 1) := by decide +kernel
theorem dX6_isNone_15 : decode cX6_isNone 15 = .ok (.ireturn, 1) := by decide +kernel
theorem dX6_find_0 : decode cX6_find 0 = .ok (.aload_n 0, 1) := by decide +kernel
theorem dX6_find_1 : decode cX6_find 1 = .ok (.iload_n 1, 1) := by decide +kernel
theorem dX6_find_2 : decode cX6_find 2 = .ok (.putfield 230, 3) := by decide +kernel
theorem dX6_find_5 : decode cX6_find 5 = .ok (.ldc_w 284, 3) := by decide +kernel
theorem dX6_find_8 : decode cX6_find 8 = .ok (.iload_n 1, 1) := by decide +kernel
theorem dX6_find_9 : decode cX6_find 9 = .ok (.isub, 1) := by decide +kernel
theorem dX6_find_10 : decode cX6_find 10 = .ok (.ireturn, 1) := by decide +kernel
theorem dX6_findNothing_0 : decode cX6_findNothing 0 = .ok (.aload_n 0, 1) := by decide +kernel
theorem dX6_findNothing_1 : decode cX6_findNothing 1 = .ok (.iconst 0, 1) := by decide +kernel
theorem dX6_findNothing_2 : decode cX6_findNothing 2 = .ok (.putfield 230, 3) := by decide +kernel
theorem dX6_findNothing_5 : decode cX6_findNothing 5 = .ok (.iload_n 1, 1) := by decide +kernel
theorem dX6_findNothing_6 : decode cX6_findNothing 6 = .ok (.ireturn, 1) := by decide +kernel
theorem dX6_rowsThere_0 : decode cX6_rowsThere 0 = .ok (.iconst 0, 1) := by decide +kernel
theorem dX6_rowsThere_1 : decode cX6_rowsThere 1 = .ok (.istore_n 1, 1) := by decide +kernel
theorem dX6_rowsThere_2 : decode cX6_rowsThere 2 = .ok (.iconst 0, 1) := by decide +kernel
theorem dX6_rowsThere_3 : decode cX6_rowsThere 3 = .ok (.istore_n 2, 1) := by decide +kernel
theorem dX6_rowsThere_4 : decode cX6_rowsThere 4 = .ok (.iload_n 2, 1) := by decide +kernel
theorem dX6_rowsThere_5 : decode cX6_rowsThere 5 = .ok (.bipush 8, 2) := by decide +kernel
theorem dX6_rowsThere_7 : decode cX6_rowsThere 7 = .ok (.if_icmp .ge 24, 3) := by decide +kernel
theorem dX6_rowsThere_10 : decode cX6_rowsThere 10 = .ok (.aload_n 0, 1) := by decide +kernel
theorem dX6_rowsThere_11 : decode cX6_rowsThere 11 = .ok (.getfield 11, 3) := by decide +kernel
theorem dX6_rowsThere_14 : decode cX6_rowsThere 14 = .ok (.iload_n 2, 1) := by decide +kernel
theorem dX6_rowsThere_15 : decode cX6_rowsThere 15 = .ok (.aaload, 1) := by decide +kernel
theorem dX6_rowsThere_16 : decode cX6_rowsThere 16 = .ok (.getfield 75, 3) := by decide +kernel
theorem dX6_rowsThere_19 : decode cX6_rowsThere 19 = .ok (.ifCond .eq 6, 3) := by decide +kernel
theorem dX6_rowsThere_22 : decode cX6_rowsThere 22 = .ok (.iinc 1 1, 3) := by decide +kernel
theorem dX6_rowsThere_25 : decode cX6_rowsThere 25 = .ok (.iinc 2 1, 3) := by decide +kernel
theorem dX6_rowsThere_28 : decode cX6_rowsThere 28 = .ok (.goto (-24), 3) := by decide +kernel
theorem dX6_rowsThere_31 : decode cX6_rowsThere 31 = .ok (.iload_n 1, 1) := by decide +kernel
theorem dX6_rowsThere_32 : decode cX6_rowsThere 32 = .ok (.ireturn, 1) := by decide +kernel
theorem dX6_isOf_0 : decode cX6_isOf 0 = .ok (.iload_n 0, 1) := by decide +kernel
theorem dX6_isOf_1 : decode cX6_isOf 1 = .ok (.istore_n 2, 1) := by decide +kernel
theorem dX6_isOf_2 : decode cX6_isOf 2 = .ok (.iconst 0, 1) := by decide +kernel
theorem dX6_isOf_3 : decode cX6_isOf 3 = .ok (.istore_n 3, 1) := by decide +kernel
theorem dX6_isOf_4 : decode cX6_isOf 4 = .ok (.iload_n 3, 1) := by decide +kernel
theorem dX6_isOf_5 : decode cX6_isOf 5 = .ok (.iconst 3, 1) := by decide +kernel
theorem dX6_isOf_6 : decode cX6_isOf 6 = .ok (.if_icmp .ge 22, 3) := by decide +kernel
