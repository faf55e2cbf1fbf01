set_option maxRecDepth 20000 in
theorem ggX0_init_X5_init : GoodIn wsX0_init wsX5_init := goodIn_r _ [9, 10, 2, 3, 11, 12, 13, 14, 15, 16, 17, 18, 19, 23, 24, 25, 26, 27, 28, 29, 30, 31, 32, 33, 34, 35, 36, 37] (by decide +kernel) (by decide +kernel)
set_option maxRecDepth 20000 in
theorem gX0_init_X5_init_n17 : GoodIn wsX0_init (wsX5_init) := ggX0_init_X5_init
theorem dX0_init_0 : decode cX0_init 0 = .ok (.aload_n 0, 1) := by decide +kernel
theorem dX0_init_1 : decode cX0_init 1 = .ok (.invokespecial 3, 3) := by decide +kernel
theorem dX0_init_4 : decode cX0_init 4 = .ok (.aload_n 0, 1) := by decide +kernel
theorem dX0_init_5 : decode cX0_init 5 = .ok (.bipush 24, 2) := by decide +kernel
theorem dX0_init_7 : decode cX0_init 7 = .ok (.anewarray 9, 3) := by decide +kernel
theorem dX0_init_10 : decode cX0_init 10 = .ok (.putfield 11, 3) := by decide +kernel
theorem dX0_init_13 : decode cX0_init 13 = .ok (.iconst 0, 1) := by decide +kernel
theorem dX0_init_14 : decode cX0_init 14 = .ok (.istore_n 1, 1) := by decide +kernel
theorem dX0_init_15 : decode cX0_init 15 = .ok (.iload_n 1, 1) := by decide +kernel
theorem dX0_init_16 : decode cX0_init 16 = .ok (.bipush 24, 2) := by decide +kernel
theorem dX0_init_18 : decode cX0_init 18 = .ok (.if_icmp .ge 22, 3) := by decide +kernel
theorem dX0_init_21 : decode cX0_init 21 = .ok (.aload_n 0, 1) := by decide +kernel
theorem dX0_init_22 : decode cX0_init 22 = .ok (.getfield 11, 3) := by decide +kernel
theorem dX0_init_25 : decode cX0_init 25 = .ok (.iload_n 1, 1) := by decide +kernel
theorem dX0_init_26 : decode cX0_init 26 = .ok (.new 9, 3) := by decide +kernel
theorem dX0_init_29 : decode cX0_init 29 = .ok (.dup, 1) := by decide +kernel
theorem dX0_init_30 : decode cX0_init 30 = .ok (.invokespecial 17, 3) := by decide +kernel
theorem dX0_init_33 : decode cX0_init 33 = .ok (.aastore, 1) := by decide +kernel
theorem dX0_init_34 : decode cX0_init 34 = .ok (.iinc 1 1, 3) := by decide +kernel
theorem dX0_init_37 : decode cX0_init 37 = .ok (.goto (-22), 3) := by decide +kernel
theorem dX0_init_40 : decode cX0_init 40 = .ok (.return_, 1) := by decide +kernel
set_option maxRecDepth 20000 in
theorem ggX0_keep_X5_become : GoodIn wsX0_keep wsX5_become := goodIn_r _ [12, 13, 14, 15, 16, 17, 18, 19, 20, 21, 22, 23, 24, 25, 26, 27, 28, 29, 30, 34, 35, 36, 37, 38, 39, 40, 41, 42, 43, 44, 45, 46, 47, 48] (by decide +kernel) (by decide +kernel)
set_option maxRecDepth 20000 in
theorem gX0_keep_X5_become : GoodIn wsX0_keep (wsV RX0 22 RX5 yX5_become wsX5_become) := goodIn_app (goodIn_of _ (by decide +kernel)) ggX0_keep_X5_become
theorem dX0_keep_0 : decode cX0_keep 0 = .ok (.aload_n 0, 1) := by decide +kernel
theorem dX0_keep_1 : decode cX0_keep 1 = .ok (.getfield 11, 3) := by decide +kernel
theorem dX0_keep_4 : decode cX0_keep 4 = .ok (.aload_n 0, 1) := by decide +kernel
theorem dX0_keep_5 : decode cX0_keep 5 = .ok (.getfield 18, 3) := by decide +kernel
theorem dX0_keep_8 : decode cX0_keep 8 = .ok (.aaload, 1) := by decide +kernel
theorem dX0_keep_9 : decode cX0_keep 9 = .ok (.aload_n 1, 1) := by decide +kernel
theorem dX0_keep_10 : decode cX0_keep 10 = .ok (.invokevirtual 22, 3) := by decide +kernel
theorem dX0_keep_13 : decode cX0_keep 13 = .ok (.aload_n 0, 1) := by decide +kernel
theorem dX0_keep_14 : decode cX0_keep 14 = .ok (.aload_n 0, 1) := by decide +kernel
theorem dX0_keep_15 : decode cX0_keep 15 = .ok (.getfield 18, 3) := by decide +kernel
theorem dX0_keep_18 : decode cX0_keep 18 = .ok (.bipush 23, 2) := by decide +kernel
theorem dX0_keep_20 : decode cX0_keep 20 = .ok (.if_icmp .ne 7, 3) := by decide +kernel
theorem dX0_keep_23 : decode cX0_keep 23 = .ok (.iconst 0, 1) := by decide +kernel
theorem dX0_keep_24 : decode cX0_keep 24 = .ok (.goto 9, 3) := by decide +kernel
theorem dX0_keep_27 : decode cX0_keep 27 = .ok (.aload_n 0, 1) := by decide +kernel
theorem dX0_keep_28 : decode cX0_keep 28 = .ok (.getfield 18, 3) := by decide +kernel
theorem dX0_keep_31 : decode cX0_keep 31 = .ok (.iconst 1, 1) := by decide +kernel
theorem dX0_keep_32 : decode cX0_keep 32 = .ok (.iadd, 1) := by decide +kernel
theorem dX0_keep_33 : decode cX0_keep 33 = .ok (.putfield 18, 3) := by decide +kernel
theorem dX0_keep_36 : decode cX0_keep 36 = .ok (.aload_n 0, 1) := by decide +kernel
theorem dX0_keep_37 : decode cX0_keep 37 = .ok (.bipush 24, 2) := by decide +kernel
theorem dX0_keep_39 : decode cX0_keep 39 = .ok (.aload_n 0, 1) := by decide +kernel
theorem dX0_keep_40 : decode cX0_keep 40 = .ok (.getfield 26, 3) := by decide +kernel
theorem dX0_keep_43 : decode cX0_keep 43 = .ok (.iconst 1, 1) := by decide +kernel
theorem dX0_keep_44 : decode cX0_keep 44 = .ok (.iadd, 1) := by decide +kernel
theorem dX0_keep_45 : decode cX0_keep 45 = .ok (.invokestatic 29, 3) := by decide +kernel
theorem dX0_keep_48 : decode cX0_keep 48 = .ok (.putfield 26, 3) := by decide +kernel
theorem dX0_keep_51 : decode cX0_keep 51 = .ok (.return_, 1) := by decide +kernel
set_option maxRecDepth 20000 in
theorem ggX0_takeBack_X5_become : GoodIn wsX0_takeBack wsX5_become := goodIn_r _ [8, 9, 10, 11, 12, 13, 14, 15, 16, 17, 18, 19, 20, 21, 22, 23, 24, 25, 26, 30, 31, 32, 33, 34, 35, 36, 37, 38, 39, 40, 41, 42, 43, 44] (by decide +kernel) (by decide +kernel)
set_option maxRecDepth 20000 in
theorem gX0_takeBack_X5_become : GoodIn wsX0_takeBack (wsV RX0 22 RX5 yX5_become wsX5_become) := goodIn_app (goodIn_of _ (by decide +kernel)) ggX0_takeBack_X5_become
theorem dX0_takeBack_0 : decode cX0_takeBack 0 = .ok (.aload_n 0, 1) := by decide +kernel
theorem dX0_takeBack_1 : decode cX0_takeBack 1 = .ok (.aload_n 0, 1) := by decide +kernel
theorem dX0_takeBack_2 : decode cX0_takeBack 2 = .ok (.getfield 18, 3) := by decide +kernel
theorem dX0_takeBack_5 : decode cX0_takeBack 5 = .ok (.ifCond .ne 8, 3) := by decide +kernel
theorem dX0_takeBack_8 : decode cX0_takeBack 8 = .ok (.bipush 23, 2) := by decide +kernel
theorem dX0_takeBack_10 : decode cX0_takeBack 10 = .ok (.goto 9, 3) := by decide +kernel
theorem dX0_takeBack_13 : decode cX0_takeBack 13 = .ok (.aload_n 0, 1) := by decide +kernel
theorem dX0_takeBack_14 : decode cX0_takeBack 14 = .ok (.getfield 18, 3) := by decide +kernel
theorem dX0_takeBack_17 : decode cX0_takeBack 17 = .ok (.iconst 1, 1) := by decide +kernel
theorem dX0_takeBack_18 : decode cX0_takeBack 18 = .ok (.isub, 1) := by decide +kernel
theorem dX0_takeBack_19 : decode cX0_takeBack 19 = .ok (.putfield 18, 3) := by decide +kernel
theorem dX0_takeBack_22 : decode cX0_takeBack 22 = .ok (.aload_n 0, 1) := by decide +kernel
theorem dX0_takeBack_23 : decode cX0_takeBack 23 = .ok (.dup, 1) := by decide +kernel
theorem dX0_takeBack_24 : decode cX0_takeBack 24 = .ok (.getfield 26, 3) := by decide +kernel
theorem dX0_takeBack_27 : decode cX0_takeBack 27 = .ok (.iconst 1, 1) := by decide +kernel
theorem dX0_takeBack_28 : decode cX0_takeBack 28 = .ok (.isub, 1) := by decide +kernel
theorem dX0_takeBack_29 : decode cX0_takeBack 29 = .ok (.putfield 26, 3) := by decide +kernel
theorem dX0_takeBack_32 : decode cX0_takeBack 32 = .ok (.aload_n 1, 1) := by decide +kernel
theorem dX0_takeBack_33 : decode cX0_takeBack 33 = .ok (.aload_n 0, 1) := by decide +kernel
theorem dX0_takeBack_34 : decode cX0_takeBack 34 = .ok (.getfield 11, 3) := by decide +kernel
theorem dX0_takeBack_37 : decode cX0_takeBack 37 = .ok (.aload_n 0, 1) := by decide +kernel
theorem dX0_takeBack_38 : decode cX0_takeBack 38 = .ok (.getfield 18, 3) := by decide +kernel
theorem dX0_takeBack_41 : decode cX0_takeBack 41 = .ok (.aaload, 1) := by decide +kernel
theorem dX0_takeBack_42 : decode cX0_takeBack 42 = .ok (.invokevirtual 22, 3) := by decide +kernel
theorem dX0_takeBack_45 : decode cX0_takeBack 45 = .ok (.return_, 1) := by decide +kernel
theorem dX0_forget_0 : decode cX0_forget 0 = .ok (.aload_n 0, 1) := by decide +kernel
theorem dX0_forget_1 : decode cX0_forget 1 = .ok (.iconst 0, 1) := by decide +kernel
theorem dX0_forget_2 : decode cX0_forget 2 = .ok (.putfield 26, 3) := by decide +kernel
theorem dX0_forget_5 : decode cX0_forget 5 = .ok (.return_, 1) := by decide +kernel
set_option maxRecDepth 20000 in
theorem ggX1_init_X5_init : GoodIn wsX1_init wsX5_init := goodIn_r _ [11, 12, 2, 3, 8, 13, 14, 15, 16, 17, 18, 19, 20, 21, 22, 23, 24, 25, 26, 27, 28, 29, 30, 31, 32, 33, 34, 35] (by decide +kernel) (by decide +kernel)
set_option maxRecDepth 20000 in
theorem gX1_init_X5_init_n11 : GoodIn wsX1_init (wsX5_init) := ggX1_init_X5_init
theorem dX1_init_0 : decode cX1_init 0 = .ok (.aload_n 0, 1) := by decide +kernel
theorem dX1_init_1 : decode cX1_init 1 = .ok (.invokespecial 3, 3) := by decide +kernel
theorem dX1_init_4 : decode cX1_init 4 = .ok (.aload_n 0, 1) := by decide +kernel
theorem dX1_init_5 : decode cX1_init 5 = .ok (.new 9, 3) := by decide +kernel
theorem dX1_init_8 : decode cX1_init 8 = .ok (.dup, 1) := by decide +kernel
theorem dX1_init_9 : decode cX1_init 9 = .ok (.invokespecial 11, 3) := by decide +kernel
theorem dX1_init_12 : decode cX1_init 12 = .ok (.putfield 12, 3) := by decide +kernel
theorem dX1_init_15 : decode cX1_init 15 = .ok (.aload_n 0, 1) := by decide +kernel
theorem dX1_init_16 : decode cX1_init 16 = .ok (.bipush 7, 2) := by decide +kernel
theorem dX1_init_18 : decode cX1_init 18 = .ok (.newarray .int, 2) := by decide +kernel
theorem dX1_init_20 : decode cX1_init 20 = .ok (.putfield 18, 3) := by decide +kernel
theorem dX1_init_23 : decode cX1_init 23 = .ok (.return_, 1) := by decide +kernel
theorem dX1_answer_0 : decode cX1_answer 0 = .ok (.iload_n 1, 1) := by decide +kernel
theorem dX1_answer_1 : decode cX1_answer 1 = .ok (.ifCond .ne 10, 3) := by decide +kernel
theorem dX1_answer_4 : decode cX1_answer 4 = .ok (.aload_n 0, 1) := by decide +kernel
theorem dX1_answer_5 : decode cX1_answer 5 = .ok (.getfield 22, 3) := by decide +kernel
theorem dX1_answer_8 : decode cX1_answer 8 = .ok (.goto 7, 3) := by decide +kernel
theorem dX1_answer_11 : decode cX1_answer 11 = .ok (.aload_n 0, 1) := by decide +kernel
theorem dX1_answer_12 : decode cX1_answer 12 = .ok (.getfield 26, 3) := by decide +kernel
theorem dX1_answer_15 : decode cX1_answer 15 = .ok (.ireturn, 1) := by decide +kernel
set_option maxRecDepth 20000 in
theorem ggX1_after_X5_become : GoodIn wsX1_after wsX5_become := goodIn_r _ [6, 7, 8, 9, 10, 11, 12, 13, 14, 15, 16, 17, 18, 19, 20, 21, 22, 23, 24, 58, 59, 60, 61, 62, 63, 64, 65, 66, 67, 68, 69, 70, 71, 72] (by decide +kernel) (by decide +kernel)
set_option maxRecDepth 20000 in
theorem gX1_after_X5_become : GoodIn wsX1_after (wsV RX1 29 RX5 yX5_become wsX5_become) := goodIn_app (goodIn_of _ (by decide +kernel)) ggX1_after_X5_become
set_option maxRecDepth 20000 in
theorem ggX1_after_X5_run : GoodIn wsX1_after wsX5_run := goodIn_r _ [28, 29, 30, 31, 5, 32, 7, 33, 22, 21, 14, 20, 11, 34, 35, 36, 37, 38, 39, 40, 41, 12, 10, 42, 43, 44, 45, 13, 46, 47, 48, 49, 23, 19, 9, 50, 51, 52, 53, 24, 58, 59, 60, 61, 62, 63, 64, 65, 66, 67, 68, 69, 70, 71, 72] (by decide +kernel) (by decide +kernel)
set_option maxRecDepth 20000 in
theorem gX1_after_X5_run : GoodIn wsX1_after (wsV RX1 33 RX5 yX5_run wsX5_run) := goodIn_app (goodIn_of _ (by decide +kernel)) ggX1_after_X5_run
theorem dX1_after_0 : decode cX1_after 0 = .ok (.aload_n 0, 1) := by decide +kernel
theorem dX1_after_1 : decode cX1_after 1 = .ok (.getfield 12, 3) := by decide +kernel
theorem dX1_after_4 : decode cX1_after 4 = .ok (.aload_n 1, 1) := by decide +kernel
theorem dX1_after_5 : decode cX1_after 5 = .ok (.invokevirtual 29, 3) := by decide +kernel
theorem dX1_after_8 : decode cX1_after 8 = .ok (.aload_n 0, 1) := by decide +kernel
theorem dX1_after_9 : decode cX1_after 9 = .ok (.getfield 12, 3) := by decide +kernel
theorem dX1_after_12 : decode cX1_after 12 = .ok (.iload_n 2, 1) := by decide +kernel
theorem dX1_after_13 : decode cX1_after 13 = .ok (.invokevirtual 33, 3) := by decide +kernel
theorem dX1_after_16 : decode cX1_after 16 = .ok (.aload_n 0, 1) := by decide +kernel
theorem dX1_after_17 : decode cX1_after 17 = .ok (.getfield 12, 3) := by decide +kernel
theorem dX1_after_20 : decode cX1_after 20 = .ok (.areturn, 1) := by decide +kernel
set_option maxRecDepth 20000 in
theorem ggX1_minutesToFull_X5_become : GoodIn wsX1_minutesToFull wsX5_become := goodIn_r _ [7, 8, 9, 10, 11, 12, 13, 14, 15, 16, 17, 18, 19, 20, 21, 22, 23, 24, 25, 59, 60, 61, 62, 63, 64, 65, 66, 67, 68, 69, 70, 71, 72, 73] (by decide +kernel) (by decide +kernel)
set_option maxRecDepth 20000 in
theorem gX1_minutesToFull_X5_become : GoodIn wsX1_minutesToFull (wsV RX1 29 RX5 yX5_become wsX5_become) := goodIn_app (goodIn_of _ (by decide +kernel)) ggX1_minutesToFull_X5_become
set_option maxRecDepth 20000 in
theorem ggX1_minutesToFull_X5_isFull : GoodIn wsX1_minutesToFull wsX5_isFull := goodIn_r _ [29, 12, 9, 59, 60, 61, 62, 63, 64, 65, 66, 67, 68, 69, 70, 71, 72, 73] (by decide +kernel) (by decide +kernel)
set_option maxRecDepth 20000 in
theorem gX1_minutesToFull_X5_isFull : GoodIn wsX1_minutesToFull (wsV RX1 37 RX5 yX5_isFull wsX5_isFull) := goodIn_app (goodIn_of _ (by decide +kernel)) ggX1_minutesToFull_X5_isFull
set_option maxRecDepth 20000 in
theorem ggX1_minutesToFull_X5_pass : GoodIn wsX1_minutesToFull wsX5_pass := goodIn_r _ [33, 8, 34, 23, 22, 15, 21, 12, 35, 36, 37, 38, 39, 40, 41, 42, 13, 11, 43, 44, 45, 6, 46, 14, 47, 48, 49, 50, 24, 20, 10, 51, 52, 53, 54, 25, 59, 60, 61, 62, 63, 64, 65, 66, 67, 68, 69, 70, 71, 72, 73] (by decide +kernel) (by decide +kernel)
set_option maxRecDepth 20000 in
theorem gX1_minutesToFull_X5_pass : GoodIn wsX1_minutesToFull (wsV RX1 41 RX5 yX5_pass wsX5_pass) := goodIn_app (goodIn_of _ (by decide +kernel)) ggX1_minutesToFull_X5_pass
theorem dX1_minutesToFull_0 : decode cX1_minutesToFull 0 = .ok (.aload_n 0, 1) := by decide +kernel
theorem dX1_minutesToFull_1 : decode cX1_minutesToFull 1 = .ok (.getfield 12, 3) := by decide +kernel
theorem dX1_minutesToFull_4 : decode cX1_minutesToFull 4 = .ok (.aload_n 1, 1) := by decide +kernel
theorem dX1_minutesToFull_5 : decode cX1_minutesToFull 5 = .ok (.invokevirtual 29, 3) := by decide +kernel
theorem dX1_minutesToFull_8 : decode cX1_minutesToFull 8 = .ok (.iconst 0, 1) := by decide +kernel
theorem dX1_minutesToFull_9 : decode cX1_minutesToFull 9 = .ok (.istore_n 2, 1) := by decide +kernel
theorem dX1_minutesToFull_10 : decode cX1_minutesToFull 10 = .ok (.iload_n 2, 1) := by decide +kernel
theorem dX1_minutesToFull_11 : decode cX1_minutesToFull 11 = .ok (.bipush 60, 2) := by decide +kernel
theorem dX1_minutesToFull_13 : decode cX1_minutesToFull 13 = .ok (.if_icmp .gt 28, 3) := by decide +kernel
theorem dX1_minutesToFull_16 : decode cX1_minutesToFull 16 = .ok (.aload_n 0, 1) := by decide +kernel
theorem dX1_minutesToFull_17 : decode cX1_minutesToFull 17 = .ok (.getfield 12, 3) := by decide +kernel
theorem dX1_minutesToFull_20 : decode cX1_minutesToFull 20 = .ok (.invokevirtual 37, 3) := by decide +kernel
theorem dX1_minutesToFull_23 : decode cX1_minutesToFull 23 = .ok (.ifCond .eq 5, 3) := by decide +kernel
theorem dX1_minutesToFull_26 : decode cX1_minutesToFull 26 = .ok (.iload_n 2, 1) := by decide +kernel
theorem dX1_minutesToFull_27 : decode cX1_minutesToFull 27 = .ok (.ireturn, 1) := by decide +kernel
theorem dX1_minutesToFull_28 : decode cX1_minutesToFull 28 = .ok (.aload_n 0, 1) := by decide +kernel
theorem dX1_minutesToFull_29 : decode cX1_minutesToFull 29 = .ok (.getfield 12, 3) := by decide +kernel
theorem dX1_minutesToFull_32 : decode cX1_minutesToFull 32 = .ok (.invokevirtual 41, 3) := by decide +kernel
theorem dX1_minutesToFull_35 : decode cX1_minutesToFull 35 = .ok (.iinc 2 1, 3) := by decide +kernel
theorem dX1_minutesToFull_38 : decode cX1_minutesToFull 38 = .ok (.goto (-28), 3) := by decide +kernel
theorem dX1_minutesToFull_41 : decode cX1_minutesToFull 41 = .ok (.ldc 44, 2) := by decide +kernel
theorem dX1_minutesToFull_43 : decode cX1_minutesToFull 43 = .ok (.ireturn, 1) := by decide +kernel
set_option maxRecDepth 20000 in
theorem ggX1_findDry_X5_become : GoodIn wsX1_findDry wsX5_become := goodIn_r _ [9, 10, 11, 12, 13, 14, 15, 16, 17, 18, 19, 20, 21, 22, 23, 24, 25, 26, 27, 65, 66, 67, 68, 69, 70, 71, 72, 73, 74, 75, 76, 77, 78, 79] (by decide +kernel) (by decide +kernel)
set_option maxRecDepth 20000 in
theorem gX1_findDry_X5_become : GoodIn wsX1_findDry (wsV RX1 29 RX5 yX5_become wsX5_become) := goodIn_app (goodIn_of _ (by decide +kernel)) ggX1_findDry_X5_become
set_option maxRecDepth 20000 in
theorem ggX1_findDry_X1_firstDry : GoodIn wsX1_findDry wsX1_firstDry := goodIn_r _ [32, 4, 33, 34, 1, 35, 36, 37, 8, 38, 16, 61, 62, 63, 64, 65, 66, 67, 68, 69, 70, 71, 72, 73, 74, 75, 76, 77, 78, 79] (by decide +kernel) (by decide +kernel)
set_option maxRecDepth 20000 in
theorem gX1_findDry_X1_firstDry : GoodIn wsX1_findDry (wsV RX1 45 RX1 yX1_firstDry wsX1_firstDry) := goodIn_app (goodIn_of _ (by decide +kernel)) ggX1_findDry_X1_firstDry
set_option maxRecDepth 20000 in
theorem ggX1_findDry_X5_pass : GoodIn wsX1_findDry wsX5_pass := goodIn_r _ [42, 10, 43, 25, 24, 17, 23, 14, 44, 45, 46, 47, 48, 49, 50, 51, 15, 13, 52, 36, 37, 8, 38, 16, 53, 54, 55, 56, 26, 22, 12, 57, 58, 59, 60, 27, 65, 66, 67, 68, 69, 70, 71, 72, 73, 74, 75, 76, 77, 78, 79] (by decide +kernel) (by decide +kernel)
set_option maxRecDepth 20000 in
theorem gX1_findDry_X5_pass : GoodIn wsX1_findDry (wsV RX1 41 RX5 yX5_pass wsX5_pass) := goodIn_app (goodIn_of _ (by decide +kernel)) ggX1_findDry_X5_pass
theorem dX1_findDry_0 : decode cX1_findDry 0 = .ok (.aload_n 0, 1) := by decide +kernel
theorem dX1_findDry_1 : decode cX1_findDry 1 = .ok (.ldc 44, 2) := by decide +kernel
theorem dX1_findDry_3 : decode cX1_findDry 3 = .ok (.putfield 22, 3) := by decide +kernel
theorem dX1_findDry_6 : decode cX1_findDry 6 = .ok (.aload_n 0, 1) := by decide +kernel
theorem dX1_findDry_7 : decode cX1_findDry 7 = .ok (.ldc 44, 2) := by decide +kernel
theorem dX1_findDry_9 : decode cX1_findDry 9 = .ok (.putfield 26, 3) := by decide +kernel
theorem dX1_findDry_12 : decode cX1_findDry 12 = .ok (.aload_n 0, 1) := by decide +kernel
theorem dX1_findDry_13 : decode cX1_findDry 13 = .ok (.getfield 12, 3) := by decide +kernel
theorem dX1_findDry_16 : decode cX1_findDry 16 = .ok (.aload_n 1, 1) := by decide +kernel
theorem dX1_findDry_17 : decode cX1_findDry 17 = .ok (.invokevirtual 29, 3) := by decide +kernel
theorem dX1_findDry_20 : decode cX1_findDry 20 = .ok (.iconst 0, 1) := by decide +kernel
theorem dX1_findDry_21 : decode cX1_findDry 21 = .ok (.istore_n 2, 1) := by decide +kernel
theorem dX1_findDry_22 : decode cX1_findDry 22 = .ok (.iload_n 2, 1) := by decide +kernel
theorem dX1_findDry_23 : decode cX1_findDry 23 = .ok (.bipush 60, 2) := by decide +kernel
theorem dX1_findDry_25 : decode cX1_findDry 25 = .ok (.if_icmp .gt 52, 3) := by decide +kernel
theorem dX1_findDry_28 : decode cX1_findDry 28 = .ok (.aload_n 0, 1) := by decide +kernel
theorem dX1_findDry_29 : decode cX1_findDry 29 = .ok (.getfield 22, 3) := by decide +kernel
theorem dX1_findDry_32 : decode cX1_findDry 32 = .ok (.ldc 44, 2) := by decide +kernel
theorem dX1_findDry_34 : decode cX1_findDry 34 = .ok (.if_icmp .ne 43, 3) := by decide +kernel
theorem dX1_findDry_37 : decode cX1_findDry 37 = .ok (.aload_n 0, 1) := by decide +kernel
theorem dX1_findDry_38 : decode cX1_findDry 38 = .ok (.aload_n 0, 1) := by decide +kernel
theorem dX1_findDry_39 : decode cX1_findDry 39 = .ok (.invokevirtual 45, 3) := by decide +kernel
theorem dX1_findDry_42 : decode cX1_findDry 42 = .ok (.putfield 22, 3) := by decide +kernel
theorem dX1_findDry_45 : decode cX1_findDry 45 = .ok (.aload_n 0, 1) := by decide +kernel
theorem dX1_findDry_46 : decode cX1_findDry 46 = .ok (.aload_n 0, 1) := by decide +kernel
theorem dX1_findDry_47 : decode cX1_findDry 47 = .ok (.getfield 22, 3) := by decide +kernel
theorem dX1_findDry_50 : decode cX1_findDry 50 = .ok (.ldc 44, 2) := by decide +kernel
theorem dX1_findDry_52 : decode cX1_findDry 52 = .ok (.if_icmp .ne 8, 3) := by decide +kernel
theorem dX1_findDry_55 : decode cX1_findDry 55 = .ok (.ldc 44, 2) := by decide +kernel
theorem dX1_findDry_57 : decode cX1_findDry 57 = .ok (.goto 4, 3) := by decide +kernel
theorem dX1_findDry_60 : decode cX1_findDry 60 = .ok (.iload_n 2, 1) := by decide +kernel
theorem dX1_findDry_61 : decode cX1_findDry 61 = .ok (.putfield 26, 3) := by decide +kernel
theorem dX1_findDry_64 : decode cX1_findDry 64 = .ok (.aload_n 0, 1) := by decide +kernel
theorem dX1_findDry_65 : decode cX1_findDry 65 = .ok (.getfield 12, 3) := by decide +kernel
theorem dX1_findDry_68 : decode cX1_findDry 68 = .ok (.invokevirtual 41, 3) := by decide +kernel
theorem dX1_findDry_71 : decode cX1_findDry 71 = .ok (.iinc 2 1, 3) := by decide +kernel
theorem dX1_findDry_74 : decode cX1_findDry 74 = .ok (.goto (-52), 3) := by decide +kernel
theorem dX1_findDry_77 : decode cX1_findDry 77 = .ok (.return_, 1) := by decide +kernel
set_option maxRecDepth 20000 in
theorem ggX1_firstDry_X5_isHired : GoodIn wsX1_firstDry wsX5_isHired := goodIn_r _ [9, 10, 15, 16, 17, 18, 19, 20, 21, 22, 23, 24, 25, 26, 27, 28, 29] (by decide +kernel) (by decide +kernel)
set_option maxRecDepth 20000 in
theorem gX1_firstDry_X5_isHired : GoodIn wsX1_firstDry (wsV RX1 52 RX5 yX5_isHired wsX5_isHired) := goodIn_app (goodIn_of _ (by decide +kernel)) ggX1_firstDry_X5_isHired
theorem dX1_firstDry_0 : decode cX1_firstDry 0 = .ok (.iconst 0, 1) := by decide +kernel
theorem dX1_firstDry_1 : decode cX1_firstDry 1 = .ok (.istore_n 1, 1) := by decide +kernel
theorem dX1_firstDry_2 : decode cX1_firstDry 2 = .ok (.iload_n 1, 1) := by decide +kernel
theorem dX1_firstDry_3 : decode cX1_firstDry 3 = .ok (.aload_n 0, 1) := by decide +kernel
theorem dX1_firstDry_4 : decode cX1_firstDry 4 = .ok (.getfield 12, 3) := by decide +kernel
theorem dX1_firstDry_7 : decode cX1_firstDry 7 = .ok (.getfield 49, 3) := by decide +kernel
theorem dX1_firstDry_10 : decode cX1_firstDry 10 = .ok (.if_icmp .ge 34, 3) := by decide +kernel
theorem dX1_firstDry_13 : decode cX1_firstDry 13 = .ok (.aload_n 0, 1) := by decide +kernel
theorem dX1_firstDry_14 : decode cX1_firstDry 14 = .ok (.getfield 12, 3) := by decide +kernel
theorem dX1_firstDry_17 : decode cX1_firstDry 17 = .ok (.iload_n 1, 1) := by decide +kernel
theorem dX1_firstDry_18 : decode cX1_firstDry 18 = .ok (.invokevirtual 52, 3) := by decide +kernel
theorem dX1_firstDry_21 : decode cX1_firstDry 21 = .ok (.ifCond .eq 17, 3) := by decide +kernel
theorem dX1_firstDry_24 : decode cX1_firstDry 24 = .ok (.aload_n 0, 1) := by decide +kernel
theorem dX1_firstDry_25 : decode cX1_firstDry 25 = .ok (.getfield 12, 3) := by decide +kernel
theorem dX1_firstDry_28 : decode cX1_firstDry 28 = .ok (.getfield 56, 3) := by decide +kernel
theorem dX1_firstDry_31 : decode cX1_firstDry 31 = .ok (.iload_n 1, 1) := by decide +kernel
theorem dX1_firstDry_32 : decode cX1_firstDry 32 = .ok (.iaload, 1) := by decide +kernel
theorem dX1_firstDry_33 : decode cX1_firstDry 33 = .ok (.ifCond .ne 5, 3) := by decide +kernel
theorem dX1_firstDry_36 : decode cX1_firstDry 36 = .ok (.iload_n 1, 1) := by decide +kernel
theorem dX1_firstDry_37 : decode cX1_firstDry 37 = .ok (.ireturn, 1) := by decide +kernel
theorem dX1_firstDry_38 : decode cX1_firstDry 38 = .ok (.iinc 1 1, 3) := by decide +kernel
theorem dX1_firstDry_41 : decode cX1_firstDry 41 = .ok (.goto (-39), 3) := by decide +kernel
theorem dX1_firstDry_44 : decode cX1_firstDry 44 = .ok (.ldc 44, 2) := by decide +kernel
theorem dX1_firstDry_46 : decode cX1_firstDry 46 = .ok (.ireturn, 1) := by decide +kernel
set_option maxRecDepth 20000 in
theorem ggX1_findCheapest_X1_fillsWith : GoodIn wsX1_findCheapest wsX1_fillsWith := goodIn_r _ [11, 5, 12, 13, 14, 15, 16, 17, 18, 19, 20, 21, 22, 23, 24, 25, 26, 27, 28, 29, 30, 31, 32, 33, 34, 35, 36, 37, 38, 39, 40, 41, 42, 43, 44, 45, 46, 47, 48, 49, 50, 51, 52, 53, 54, 55, 56, 57, 58, 59, 60, 61, 62, 63, 64, 65, 66, 67, 68, 69, 70, 71, 83, 84, 85, 86, 87, 88, 89, 90, 91, 92, 93, 94, 95, 96, 97, 98, 99, 100, 101] (by decide +kernel) (by decide +kernel)
set_option maxRecDepth 20000 in
theorem gX1_findCheapest_X1_fillsWith : GoodIn wsX1_findCheapest (wsV RX1 59 RX1 yX1_fillsWith wsX1_fillsWith) := goodIn_app (goodIn_of _ (by decide +kernel)) ggX1_findCheapest_X1_fillsWith
set_option maxRecDepth 20000 in
theorem ggX1_findCheapest_X1_isCheaper : GoodIn wsX1_findCheapest wsX1_isCheaper := goodIn_r _ [75, 2, 1, 3, 76, 77, 78, 79, 80, 81, 82, 83, 84, 85, 86] (by decide +kernel) (by decide +kernel)
set_option maxRecDepth 20000 in
theorem gX1_findCheapest_X1_isCheaper : GoodIn wsX1_findCheapest (wsV RX1 66 RX1 yX1_isCheaper wsX1_isCheaper) := goodIn_app (goodIn_of _ (by decide +kernel)) ggX1_findCheapest_X1_isCheaper
theorem dX1_findCheapest_0 : decode cX1_findCheapest 0 = .ok (.aload_n 0, 1) := by decide +kernel
theorem dX1_findCheapest_1 : decode cX1_findCheapest 1 = .ok (.ldc 44, 2) := by decide +kernel
theorem dX1_findCheapest_3 : decode cX1_findCheapest 3 = .ok (.putfield 22, 3) := by decide +kernel
theorem dX1_findCheapest_6 : decode cX1_findCheapest 6 = .ok (.aload_n 0, 1) := by decide +kernel
theorem dX1_findCheapest_7 : decode cX1_findCheapest 7 = .ok (.ldc 44, 2) := by decide +kernel
theorem dX1_findCheapest_9 : decode cX1_findCheapest 9 = .ok (.putfield 26, 3) := by decide +kernel
theorem dX1_findCheapest_12 : decode cX1_findCheapest 12 = .ok (.iconst 1, 1) := by decide +kernel
theorem dX1_findCheapest_13 : decode cX1_findCheapest 13 = .ok (.aload_n 1, 1) := by decide +kernel
theorem dX1_findCheapest_14 : decode cX1_findCheapest 14 = .ok (.getfield 49, 3) := by decide +kernel
theorem dX1_findCheapest_17 : decode cX1_findCheapest 17 = .ok (.ishl, 1) := by decide +kernel
theorem dX1_findCheapest_18 : decode cX1_findCheapest 18 = .ok (.istore_n 3, 1) := by decide +kernel
theorem dX1_findCheapest_19 : decode cX1_findCheapest 19 = .ok (.iconst 0, 1) := by decide +kernel
theorem dX1_findCheapest_20 : decode cX1_findCheapest 20 = .ok (.istore 4, 2) := by decide +kernel
theorem dX1_findCheapest_22 : decode cX1_findCheapest 22 = .ok (.iload 4, 2) := by decide +kernel
theorem dX1_findCheapest_24 : decode cX1_findCheapest 24 = .ok (.iload_n 3, 1) := by decide +kernel
theorem dX1_findCheapest_25 : decode cX1_findCheapest 25 = .ok (.if_icmp .ge 53, 3) := by decide +kernel
theorem dX1_findCheapest_28 : decode cX1_findCheapest 28 = .ok (.aload_n 0, 1) := by decide +kernel
theorem dX1_findCheapest_29 : decode cX1_findCheapest 29 = .ok (.aload_n 1, 1) := by decide +kernel
theorem dX1_findCheapest_30 : decode cX1_findCheapest 30 = .ok (.iload 4, 2) := by decide +kernel
theorem dX1_findCheapest_32 : decode cX1_findCheapest 32 = .ok (.iload_n 2, 1) := by decide +kernel
theorem dX1_findCheapest_33 : decode cX1_findCheapest 33 = .ok (.invokevirtual 59, 3) := by decide +kernel
theorem dX1_findCheapest_36 : decode cX1_findCheapest 36 = .ok (.ifCond .eq 36, 3) := by decide +kernel
theorem dX1_findCheapest_39 : decode cX1_findCheapest 39 = .ok (.aload_n 0, 1) := by decide +kernel
theorem dX1_findCheapest_40 : decode cX1_findCheapest 40 = .ok (.iload 4, 2) := by decide +kernel
theorem dX1_findCheapest_42 : decode cX1_findCheapest 42 = .ok (.aload_n 0, 1) := by decide +kernel
theorem dX1_findCheapest_43 : decode cX1_findCheapest 43 = .ok (.getfield 12, 3) := by decide +kernel
theorem dX1_findCheapest_46 : decode cX1_findCheapest 46 = .ok (.getfield 63, 3) := by decide +kernel
theorem dX1_findCheapest_49 : decode cX1_findCheapest 49 = .ok (.invokevirtual 66, 3) := by decide +kernel
theorem dX1_findCheapest_52 : decode cX1_findCheapest 52 = .ok (.ifCond .eq 20, 3) := by decide +kernel
theorem dX1_findCheapest_55 : decode cX1_findCheapest 55 = .ok (.aload_n 0, 1) := by decide +kernel
theorem dX1_findCheapest_56 : decode cX1_findCheapest 56 = .ok (.iload 4, 2) := by decide +kernel
theorem dX1_findCheapest_58 : decode cX1_findCheapest 58 = .ok (.putfield 22, 3) := by decide +kernel
theorem dX1_findCheapest_61 : decode cX1_findCheapest 61 = .ok (.aload_n 0, 1) := by decide +kernel
theorem dX1_findCheapest_62 : decode cX1_findCheapest 62 = .ok (.aload_n 0, 1) := by decide +kernel
theorem dX1_findCheapest_63 : decode cX1_findCheapest 63 = .ok (.getfield 12, 3) := by decide +kernel
theorem dX1_findCheapest_66 : decode cX1_findCheapest 66 = .ok (.getfield 63, 3) := by decide +kernel
theorem dX1_findCheapest_69 : decode cX1_findCheapest 69 = .ok (.putfield 26, 3) := by decide +kernel
theorem dX1_findCheapest_72 : decode cX1_findCheapest 72 = .ok (.iinc 4 1, 3) := by decide +kernel
theorem dX1_findCheapest_75 : decode cX1_findCheapest 75 = .ok (.goto (-53), 3) := by decide +kernel
theorem dX1_findCheapest_78 : decode cX1_findCheapest 78 = .ok (.return_, 1) := by decide +kernel
set_option maxRecDepth 20000 in
theorem ggX1_fillsWith_X5_become : GoodIn wsX1_fillsWith wsX5_become := goodIn_r _ [6, 7, 8, 9, 10, 11, 12, 13, 14, 15, 16, 17, 18, 19, 20, 21, 22, 23, 24, 66, 67, 68, 69, 70, 71, 72, 73, 74, 75, 76, 77, 78, 79, 80] (by decide +kernel) (by decide +kernel)
set_option maxRecDepth 20000 in
theorem gX1_fillsWith_X5_become : GoodIn wsX1_fillsWith (wsV RX1 29 RX5 yX5_become wsX5_become) := goodIn_app (goodIn_of _ (by decide +kernel)) ggX1_fillsWith_X5_become
set_option maxRecDepth 20000 in
theorem ggX1_fillsWith_X5_engage : GoodIn wsX1_fillsWith wsX5_engage := goodIn_r _ [28, 13, 7, 22, 29, 30, 31, 5, 32, 66, 67, 68, 69, 70, 71, 72, 73, 74, 75, 76, 77, 78, 79, 80] (by decide +kernel) (by decide +kernel)
set_option maxRecDepth 20000 in
theorem gX1_fillsWith_X5_engage : GoodIn wsX1_fillsWith (wsV RX1 70 RX5 yX5_engage wsX5_engage) := goodIn_app (goodIn_of _ (by decide +kernel)) ggX1_fillsWith_X5_engage
set_option maxRecDepth 20000 in
theorem ggX1_fillsWith_X5_run : GoodIn wsX1_fillsWith wsX5_run := goodIn_r _ [36, 37, 38, 39, 5, 40, 7, 41, 22, 21, 14, 20, 11, 42, 43, 44, 45, 46, 47, 48, 49, 12, 10, 29, 30, 31, 32, 13, 50, 51, 52, 53, 23, 19, 9, 54, 55, 56, 57, 24, 66, 67, 68, 69, 70, 71, 72, 73, 74, 75, 76, 77, 78, 79, 80] (by decide +kernel) (by decide +kernel)
set_option maxRecDepth 20000 in
theorem gX1_fillsWith_X5_run : GoodIn wsX1_fillsWith (wsV RX1 33 RX5 yX5_run wsX5_run) := goodIn_app (goodIn_of _ (by decide +kernel)) ggX1_fillsWith_X5_run
set_option maxRecDepth 20000 in
theorem ggX1_fillsWith_X5_isFull : GoodIn wsX1_fillsWith wsX5_isFull := goodIn_r _ [61, 11, 8, 66, 67, 68, 69, 70, 71, 72, 73, 74, 75, 76, 77, 78, 79, 80] (by decide +kernel) (by decide +kernel)
set_option maxRecDepth 20000 in
theorem gX1_fillsWith_X5_isFull : GoodIn wsX1_fillsWith (wsV RX1 37 RX5 yX5_isFull wsX5_isFull) := goodIn_app (goodIn_of _ (by decide +kernel)) ggX1_fillsWith_X5_isFull
theorem dX1_fillsWith_0 : decode cX1_fillsWith 0 = .ok (.aload_n 0, 1) := by decide +kernel
theorem dX1_fillsWith_1 : decode cX1_fillsWith 1 = .ok (.getfield 12, 3) := by decide +kernel
theorem dX1_fillsWith_4 : decode cX1_fillsWith 4 = .ok (.aload_n 1, 1) := by decide +kernel
theorem dX1_fillsWith_5 : decode cX1_fillsWith 5 = .ok (.invokevirtual 29, 3) := by decide +kernel
theorem dX1_fillsWith_8 : decode cX1_fillsWith 8 = .ok (.aload_n 0, 1) := by decide +kernel
theorem dX1_fillsWith_9 : decode cX1_fillsWith 9 = .ok (.getfield 12, 3) := by decide +kernel
theorem dX1_fillsWith_12 : decode cX1_fillsWith 12 = .ok (.iload_n 2, 1) := by decide +kernel
theorem dX1_fillsWith_13 : decode cX1_fillsWith 13 = .ok (.invokevirtual 70, 3) := by decide +kernel
theorem dX1_fillsWith_16 : decode cX1_fillsWith 16 = .ok (.aload_n 0, 1) := by decide +kernel
theorem dX1_fillsWith_17 : decode cX1_fillsWith 17 = .ok (.getfield 12, 3) := by decide +kernel
theorem dX1_fillsWith_20 : decode cX1_fillsWith 20 = .ok (.iload_n 3, 1) := by decide +kernel
theorem dX1_fillsWith_21 : decode cX1_fillsWith 21 = .ok (.invokevirtual 33, 3) := by decide +kernel
theorem dX1_fillsWith_24 : decode cX1_fillsWith 24 = .ok (.aload_n 0, 1) := by decide +kernel
theorem dX1_fillsWith_25 : decode cX1_fillsWith 25 = .ok (.getfield 12, 3) := by decide +kernel
theorem dX1_fillsWith_28 : decode cX1_fillsWith 28 = .ok (.invokevirtual 37, 3) := by decide +kernel
theorem dX1_fillsWith_31 : decode cX1_fillsWith 31 = .ok (.ireturn, 1) := by decide +kernel
set_option maxRecDepth 20000 in
theorem ggX1_isCheaper_J6_bitCount_0f7a4 : GoodIn wsX1_isCheaper wsJ6_bitCount_0f7a4 := goodIn_r _ [7, 8, 9, 10] (by decide +kernel) (by decide +kernel)
set_option maxRecDepth 20000 in
theorem gX1_isCheaper_J6_bitCount_0f7a4 : GoodIn wsX1_isCheaper (va_wsS RX1 73 yJ6_bitCount_0f7a4 wsJ6_bitCount_0f7a4) := goodIn_app (goodIn_of _ (by decide +kernel)) ggX1_isCheaper_J6_bitCount_0f7a4
theorem dX1_isCheaper_0 : decode cX1_isCheaper 0 = .ok (.aload_n 0, 1) := by decide +kernel
theorem dX1_isCheaper_1 : decode cX1_isCheaper 1 = .ok (.getfield 22, 3) := by decide +kernel
theorem dX1_isCheaper_4 : decode cX1_isCheaper 4 = .ok (.ldc 44, 2) := by decide +kernel
theorem dX1_isCheaper_6 : decode cX1_isCheaper 6 = .ok (.if_icmp .eq 11, 3) := by decide +kernel
theorem dX1_isCheaper_9 : decode cX1_isCheaper 9 = .ok (.iload_n 2, 1) := by decide +kernel
theorem dX1_isCheaper_10 : decode cX1_isCheaper 10 = .ok (.aload_n 0, 1) := by decide +kernel
theorem dX1_isCheaper_11 : decode cX1_isCheaper 11 = .ok (.getfield 26, 3) := by decide +kernel
theorem dX1_isCheaper_14 : decode cX1_isCheaper 14 = .ok (.if_icmp .eq 26, 3) := by decide +kernel
theorem dX1_isCheaper_17 : decode cX1_isCheaper 17 = .ok (.aload_n 0, 1) := by decide +kernel
theorem dX1_isCheaper_18 : decode cX1_isCheaper 18 = .ok (.getfield 22, 3) := by decide +kernel
theorem dX1_isCheaper_21 : decode cX1_isCheaper 21 = .ok (.ldc 44, 2) := by decide +kernel
theorem dX1_isCheaper_23 : decode cX1_isCheaper 23 = .ok (.if_icmp .eq 11, 3) := by decide +kernel
theorem dX1_isCheaper_26 : decode cX1_isCheaper 26 = .ok (.iload_n 2, 1) := by decide +kernel
theorem dX1_isCheaper_27 : decode cX1_isCheaper 27 = .ok (.aload_n 0, 1) := by decide +kernel
theorem dX1_isCheaper_28 : decode cX1_isCheaper 28 = .ok (.getfield 26, 3) := by decide +kernel
theorem dX1_isCheaper_31 : decode cX1_isCheaper 31 = .ok (.if_icmp .ge 7, 3) := by decide +kernel
theorem dX1_isCheaper_34 : decode cX1_isCheaper 34 = .ok (.iconst 1, 1) := by decide +kernel
theorem dX1_isCheaper_35 : decode cX1_isCheaper 35 = .ok (.goto 4, 3) := by decide +kernel
theorem dX1_isCheaper_38 : decode cX1_isCheaper 38 = .ok (.iconst 0, 1) := by decide +kernel
theorem dX1_isCheaper_39 : decode cX1_isCheaper 39 = .ok (.ireturn, 1) := by decide +kernel
theorem dX1_isCheaper_40 : decode cX1_isCheaper 40 = .ok (.iload_n 1, 1) := by decide +kernel
theorem dX1_isCheaper_41 : decode cX1_isCheaper 41 = .ok (.invokestatic 73, 3) := by decide +kernel
theorem dX1_isCheaper_44 : decode cX1_isCheaper 44 = .ok (.aload_n 0, 1) := by decide +kernel
theorem dX1_isCheaper_45 : decode cX1_isCheaper 45 = .ok (.getfield 22, 3) := by decide +kernel
theorem dX1_isCheaper_48 : decode cX1_isCheaper 48 = .ok (.invokestatic 73, 3) := by decide +kernel
theorem dX1_isCheaper_51 : decode cX1_isCheaper 51 = .ok (.if_icmp .ge 7, 3) := by decide +kernel
theorem dX1_isCheaper_54 : decode cX1_isCheaper 54 = .ok (.iconst 1, 1) := by decide +kernel
theorem dX1_isCheaper_55 : decode cX1_isCheaper 55 = .ok (.goto 4, 3) := by decide +kernel
theorem dX1_isCheaper_58 : decode cX1_isCheaper 58 = .ok (.iconst 0, 1) := by decide +kernel
theorem dX1_isCheaper_59 : decode cX1_isCheaper 59 = .ok (.ireturn, 1) := by decide +kernel
set_option maxRecDepth 20000 in
theorem ggX1_findOrder_X1_tryOrder : GoodIn wsX1_findOrder wsX1_tryOrder := goodIn_r _ [10, 11, 4, 5, 12, 13, 14, 15, 16, 17, 18, 19, 20, 21, 22, 23, 24, 25, 26, 27, 28, 29, 30, 31, 32, 33, 34, 35, 36, 37, 38, 39, 40, 41, 42, 43, 44, 45, 46, 47, 48, 49, 50, 51, 52, 53, 54, 55, 56, 57, 58, 59, 60, 61, 62, 63, 64, 65, 66, 67, 68, 69, 70, 9, 71, 72, 3, 2, 81, 82, 83, 84, 85, 86, 87, 88, 89, 90, 91, 92, 93, 94, 95, 96, 97, 98, 99] (by decide +kernel) (by decide +kernel)
set_option maxRecDepth 20000 in
theorem gX1_findOrder_X1_tryOrder : GoodIn wsX1_findOrder (wsV RX1 79 RX1 yX1_tryOrder wsX1_tryOrder) := goodIn_app (goodIn_of _ (by decide +kernel)) ggX1_findOrder_X1_tryOrder
set_option maxRecDepth 20000 in
theorem ggX1_findOrder_X1_nextOrder : GoodIn wsX1_findOrder wsX1_nextOrder := goodIn_r _ [76, 5, 77, 78, 79, 9, 80, 81, 82, 83, 84] (by decide +kernel) (by decide +kernel)
set_option maxRecDepth 20000 in
theorem gX1_findOrder_X1_nextOrder : GoodIn wsX1_findOrder (wsV RX1 83 RX1 yX1_nextOrder wsX1_nextOrder) := goodIn_app (goodIn_of _ (by decide +kernel)) ggX1_findOrder_X1_nextOrder
theorem dX1_findOrder_0 : decode cX1_findOrder 0 = .ok (.aload_n 0, 1) := by decide +kernel
theorem dX1_findOrder_1 : decode cX1_findOrder 1 = .ok (.ldc 44, 2) := by decide +kernel
theorem dX1_findOrder_3 : decode cX1_findOrder 3 = .ok (.putfield 22, 3) := by decide +kernel
theorem dX1_findOrder_6 : decode cX1_findOrder 6 = .ok (.aload_n 0, 1) := by decide +kernel
theorem dX1_findOrder_7 : decode cX1_findOrder 7 = .ok (.ldc 44, 2) := by decide +kernel
theorem dX1_findOrder_9 : decode cX1_findOrder 9 = .ok (.putfield 26, 3) := by decide +kernel
theorem dX1_findOrder_12 : decode cX1_findOrder 12 = .ok (.iconst 1, 1) := by decide +kernel
theorem dX1_findOrder_13 : decode cX1_findOrder 13 = .ok (.istore_n 3, 1) := by decide +kernel
theorem dX1_findOrder_14 : decode cX1_findOrder 14 = .ok (.iconst 0, 1) := by decide +kernel
theorem dX1_findOrder_15 : decode cX1_findOrder 15 = .ok (.istore 4, 2) := by decide +kernel
theorem dX1_findOrder_17 : decode cX1_findOrder 17 = .ok (.iload 4, 2) := by decide +kernel
theorem dX1_findOrder_19 : decode cX1_findOrder 19 = .ok (.aload_n 1, 1) := by decide +kernel
theorem dX1_findOrder_20 : decode cX1_findOrder 20 = .ok (.getfield 49, 3) := by decide +kernel
theorem dX1_findOrder_23 : decode cX1_findOrder 23 = .ok (.if_icmp .ge 25, 3) := by decide +kernel
theorem dX1_findOrder_26 : decode cX1_findOrder 26 = .ok (.aload_n 0, 1) := by decide +kernel
theorem dX1_findOrder_27 : decode cX1_findOrder 27 = .ok (.getfield 18, 3) := by decide +kernel
theorem dX1_findOrder_30 : decode cX1_findOrder 30 = .ok (.iload 4, 2) := by decide +kernel
theorem dX1_findOrder_32 : decode cX1_findOrder 32 = .ok (.iload 4, 2) := by decide +kernel
theorem dX1_findOrder_34 : decode cX1_findOrder 34 = .ok (.iastore, 1) := by decide +kernel
theorem dX1_findOrder_35 : decode cX1_findOrder 35 = .ok (.iload_n 3, 1) := by decide +kernel
theorem dX1_findOrder_36 : decode cX1_findOrder 36 = .ok (.iload 4, 2) := by decide +kernel
theorem dX1_findOrder_38 : decode cX1_findOrder 38 = .ok (.iconst 1, 1) := by decide +kernel
theorem dX1_findOrder_39 : decode cX1_findOrder 39 = .ok (.iadd, 1) := by decide +kernel
theorem dX1_findOrder_40 : decode cX1_findOrder 40 = .ok (.imul, 1) := by decide +kernel
theorem dX1_findOrder_41 : decode cX1_findOrder 41 = .ok (.istore_n 3, 1) := by decide +kernel
theorem dX1_findOrder_42 : decode cX1_findOrder 42 = .ok (.iinc 4 1, 3) := by decide +kernel
theorem dX1_findOrder_45 : decode cX1_findOrder 45 = .ok (.goto (-28), 3) := by decide +kernel
theorem dX1_findOrder_48 : decode cX1_findOrder 48 = .ok (.iconst 0, 1) := by decide +kernel
theorem dX1_findOrder_49 : decode cX1_findOrder 49 = .ok (.istore 4, 2) := by decide +kernel
theorem dX1_findOrder_51 : decode cX1_findOrder 51 = .ok (.iload 4, 2) := by decide +kernel
theorem dX1_findOrder_53 : decode cX1_findOrder 53 = .ok (.iload_n 3, 1) := by decide +kernel
theorem dX1_findOrder_54 : decode cX1_findOrder 54 = .ok (.if_icmp .ge 50, 3) := by decide +kernel
theorem dX1_findOrder_57 : decode cX1_findOrder 57 = .ok (.aload_n 1, 1) := by decide +kernel
theorem dX1_findOrder_58 : decode cX1_findOrder 58 = .ok (.getfield 49, 3) := by decide +kernel
theorem dX1_findOrder_61 : decode cX1_findOrder 61 = .ok (.ifCond .le 29, 3) := by decide +kernel
theorem dX1_findOrder_64 : decode cX1_findOrder 64 = .ok (.aload_n 0, 1) := by decide +kernel
theorem dX1_findOrder_65 : decode cX1_findOrder 65 = .ok (.getfield 18, 3) := by decide +kernel
theorem dX1_findOrder_68 : decode cX1_findOrder 68 = .ok (.iconst 0, 1) := by decide +kernel
theorem dX1_findOrder_69 : decode cX1_findOrder 69 = .ok (.iaload, 1) := by decide +kernel
theorem dX1_findOrder_70 : decode cX1_findOrder 70 = .ok (.aload_n 0, 1) := by decide +kernel
theorem dX1_findOrder_71 : decode cX1_findOrder 71 = .ok (.getfield 18, 3) := by decide +kernel
theorem dX1_findOrder_74 : decode cX1_findOrder 74 = .ok (.aload_n 1, 1) := by decide +kernel
theorem dX1_findOrder_75 : decode cX1_findOrder 75 = .ok (.getfield 49, 3) := by decide +kernel
theorem dX1_findOrder_78 : decode cX1_findOrder 78 = .ok (.iconst 1, 1) := by decide +kernel
theorem dX1_findOrder_79 : decode cX1_findOrder 79 = .ok (.isub, 1) := by decide +kernel
theorem dX1_findOrder_80 : decode cX1_findOrder 80 = .ok (.iaload, 1) := by decide +kernel
theorem dX1_findOrder_81 : decode cX1_findOrder 81 = .ok (.if_icmp .gt 9, 3) := by decide +kernel
theorem dX1_findOrder_84 : decode cX1_findOrder 84 = .ok (.aload_n 0, 1) := by decide +kernel
theorem dX1_findOrder_85 : decode cX1_findOrder 85 = .ok (.aload_n 1, 1) := by decide +kernel
theorem dX1_findOrder_86 : decode cX1_findOrder 86 = .ok (.iload_n 2, 1) := by decide +kernel
theorem dX1_findOrder_87 : decode cX1_findOrder 87 = .ok (.invokevirtual 79, 3) := by decide +kernel
theorem dX1_findOrder_90 : decode cX1_findOrder 90 = .ok (.aload_n 0, 1) := by decide +kernel
theorem dX1_findOrder_91 : decode cX1_findOrder 91 = .ok (.aload_n 1, 1) := by decide +kernel
theorem dX1_findOrder_92 : decode cX1_findOrder 92 = .ok (.getfield 49, 3) := by decide +kernel
theorem dX1_findOrder_95 : decode cX1_findOrder 95 = .ok (.invokevirtual 83, 3) := by decide +kernel
theorem dX1_findOrder_98 : decode cX1_findOrder 98 = .ok (.iinc 4 1, 3) := by decide +kernel
theorem dX1_findOrder_101 : decode cX1_findOrder 101 = .ok (.goto (-50), 3) := by decide +kernel
theorem dX1_findOrder_104 : decode cX1_findOrder 104 = .ok (.return_, 1) := by decide +kernel
set_option maxRecDepth 20000 in
theorem ggX1_tryOrder_X5_become : GoodIn wsX1_tryOrder wsX5_become := goodIn_r _ [8, 9, 10, 11, 12, 13, 14, 15, 16, 17, 18, 19, 20, 21, 22, 23, 24, 25, 26, 72, 73, 74, 75, 76, 77, 78, 79, 80, 81, 82, 83, 84, 85, 86] (by decide +kernel) (by decide +kernel)
set_option maxRecDepth 20000 in
theorem gX1_tryOrder_X5_become : GoodIn wsX1_tryOrder (wsV RX1 29 RX5 yX5_become wsX5_become) := goodIn_app (goodIn_of _ (by decide +kernel)) ggX1_tryOrder_X5_become
set_option maxRecDepth 20000 in
theorem ggX1_tryOrder_X5_sit : GoodIn wsX1_tryOrder wsX5_sit := goodIn_r _ [30, 25, 26, 72, 73, 74, 75, 76, 77, 78, 79, 80, 81, 82, 83, 84, 85, 86] (by decide +kernel) (by decide +kernel)
set_option maxRecDepth 20000 in
theorem gX1_tryOrder_X5_sit : GoodIn wsX1_tryOrder (wsV RX1 86 RX5 yX5_sit wsX5_sit) := goodIn_app (goodIn_of _ (by decide +kernel)) ggX1_tryOrder_X5_sit
set_option maxRecDepth 20000 in
theorem ggX1_tryOrder_X5_run : GoodIn wsX1_tryOrder wsX5_run := goodIn_r _ [34, 35, 36, 37, 7, 38, 9, 39, 24, 23, 16, 22, 13, 40, 41, 42, 43, 44, 45, 46, 47, 14, 12, 48, 49, 50, 51, 15, 52, 53, 54, 55, 25, 21, 11, 56, 57, 58, 59, 26, 72, 73, 74, 75, 76, 77, 78, 79, 80, 81, 82, 83, 84, 85, 86] (by decide +kernel) (by decide +kernel)
set_option maxRecDepth 20000 in
theorem gX1_tryOrder_X5_run : GoodIn wsX1_tryOrder (wsV RX1 33 RX5 yX5_run wsX5_run) := goodIn_app (goodIn_of _ (by decide +kernel)) ggX1_tryOrder_X5_run
set_option maxRecDepth 20000 in
theorem ggX1_tryOrder_X1_keepIfMore : GoodIn wsX1_tryOrder wsX1_keepIfMore := goodIn_r _ [64, 1, 65, 66, 67, 68, 69, 70, 71, 72, 73, 74, 75, 76, 77, 78, 79, 80, 81, 82, 83, 84, 85, 86] (by decide +kernel) (by decide +kernel)
set_option maxRecDepth 20000 in
theorem gX1_tryOrder_X1_keepIfMore : GoodIn wsX1_tryOrder (wsV RX1 90 RX1 yX1_keepIfMore wsX1_keepIfMore) := goodIn_app (goodIn_of _ (by decide +kernel)) ggX1_tryOrder_X1_keepIfMore
theorem dX1_tryOrder_0 : decode cX1_tryOrder 0 = .ok (.aload_n 0, 1) := by decide +kernel
theorem dX1_tryOrder_1 : decode cX1_tryOrder 1 = .ok (.getfield 12, 3) := by decide +kernel
theorem dX1_tryOrder_4 : decode cX1_tryOrder 4 = .ok (.aload_n 1, 1) := by decide +kernel
theorem dX1_tryOrder_5 : decode cX1_tryOrder 5 = .ok (.invokevirtual 29, 3) := by decide +kernel
theorem dX1_tryOrder_8 : decode cX1_tryOrder 8 = .ok (.iconst 0, 1) := by decide +kernel
theorem dX1_tryOrder_9 : decode cX1_tryOrder 9 = .ok (.istore_n 3, 1) := by decide +kernel
theorem dX1_tryOrder_10 : decode cX1_tryOrder 10 = .ok (.iconst 0, 1) := by decide +kernel
theorem dX1_tryOrder_11 : decode cX1_tryOrder 11 = .ok (.istore 4, 2) := by decide +kernel
theorem dX1_tryOrder_13 : decode cX1_tryOrder 13 = .ok (.iload 4, 2) := by decide +kernel
theorem dX1_tryOrder_15 : decode cX1_tryOrder 15 = .ok (.aload_n 1, 1) := by decide +kernel
theorem dX1_tryOrder_16 : decode cX1_tryOrder 16 = .ok (.getfield 49, 3) := by decide +kernel
theorem dX1_tryOrder_19 : decode cX1_tryOrder 19 = .ok (.if_icmp .ge 38, 3) := by decide +kernel
theorem dX1_tryOrder_22 : decode cX1_tryOrder 22 = .ok (.aload_n 0, 1) := by decide +kernel
theorem dX1_tryOrder_23 : decode cX1_tryOrder 23 = .ok (.getfield 12, 3) := by decide +kernel
theorem dX1_tryOrder_26 : decode cX1_tryOrder 26 = .ok (.aload_n 0, 1) := by decide +kernel
theorem dX1_tryOrder_27 : decode cX1_tryOrder 27 = .ok (.getfield 18, 3) := by decide +kernel
theorem dX1_tryOrder_30 : decode cX1_tryOrder 30 = .ok (.iload 4, 2) := by decide +kernel
theorem dX1_tryOrder_32 : decode cX1_tryOrder 32 = .ok (.iaload, 1) := by decide +kernel
theorem dX1_tryOrder_33 : decode cX1_tryOrder 33 = .ok (.iload 4, 2) := by decide +kernel
theorem dX1_tryOrder_35 : decode cX1_tryOrder 35 = .ok (.invokevirtual 86, 3) := by decide +kernel
theorem dX1_tryOrder_38 : decode cX1_tryOrder 38 = .ok (.iload_n 3, 1) := by decide +kernel
theorem dX1_tryOrder_39 : decode cX1_tryOrder 39 = .ok (.bipush 10, 2) := by decide +kernel
theorem dX1_tryOrder_41 : decode cX1_tryOrder 41 = .ok (.imul, 1) := by decide +kernel
theorem dX1_tryOrder_42 : decode cX1_tryOrder 42 = .ok (.aload_n 0, 1) := by decide +kernel
theorem dX1_tryOrder_43 : decode cX1_tryOrder 43 = .ok (.getfield 18, 3) := by decide +kernel
theorem dX1_tryOrder_46 : decode cX1_tryOrder 46 = .ok (.iload 4, 2) := by decide +kernel
theorem dX1_tryOrder_48 : decode cX1_tryOrder 48 = .ok (.iaload, 1) := by decide +kernel
theorem dX1_tryOrder_49 : decode cX1_tryOrder 49 = .ok (.iadd, 1) := by decide +kernel
theorem dX1_tryOrder_50 : decode cX1_tryOrder 50 = .ok (.istore_n 3, 1) := by decide +kernel
theorem dX1_tryOrder_51 : decode cX1_tryOrder 51 = .ok (.iinc 4 1, 3) := by decide +kernel
theorem dX1_tryOrder_54 : decode cX1_tryOrder 54 = .ok (.goto (-41), 3) := by decide +kernel
theorem dX1_tryOrder_57 : decode cX1_tryOrder 57 = .ok (.aload_n 0, 1) := by decide +kernel
theorem dX1_tryOrder_58 : decode cX1_tryOrder 58 = .ok (.getfield 12, 3) := by decide +kernel
theorem dX1_tryOrder_61 : decode cX1_tryOrder 61 = .ok (.iload_n 2, 1) := by decide +kernel
theorem dX1_tryOrder_62 : decode cX1_tryOrder 62 = .ok (.invokevirtual 33, 3) := by decide +kernel
theorem dX1_tryOrder_65 : decode cX1_tryOrder 65 = .ok (.aload_n 0, 1) := by decide +kernel
theorem dX1_tryOrder_66 : decode cX1_tryOrder 66 = .ok (.iload_n 3, 1) := by decide +kernel
theorem dX1_tryOrder_67 : decode cX1_tryOrder 67 = .ok (.invokevirtual 90, 3) := by decide +kernel
theorem dX1_tryOrder_70 : decode cX1_tryOrder 70 = .ok (.return_, 1) := by decide +kernel
theorem dX1_keepIfMore_0 : decode cX1_keepIfMore 0 = .ok (.aload_n 0, 1) := by decide +kernel
theorem dX1_keepIfMore_1 : decode cX1_keepIfMore 1 = .ok (.getfield 12, 3) := by decide +kernel
theorem dX1_keepIfMore_4 : decode cX1_keepIfMore 4 = .ok (.getfield 93, 3) := by decide +kernel
theorem dX1_keepIfMore_7 : decode cX1_keepIfMore 7 = .ok (.aload_n 0, 1) := by decide +kernel
theorem dX1_keepIfMore_8 : decode cX1_keepIfMore 8 = .ok (.getfield 26, 3) := by decide +kernel
theorem dX1_keepIfMore_11 : decode cX1_keepIfMore 11 = .ok (.if_icmp .le 19, 3) := by decide +kernel
theorem dX1_keepIfMore_14 : decode cX1_keepIfMore 14 = .ok (.aload_n 0, 1) := by decide +kernel
theorem dX1_keepIfMore_15 : decode cX1_keepIfMore 15 = .ok (.iload_n 1, 1) := by decide +kernel
theorem dX1_keepIfMore_16 : decode cX1_keepIfMore 16 = .ok (.putfield 22, 3) := by decide +kernel
theorem dX1_keepIfMore_19 : decode cX1_keepIfMore 19 = .ok (.aload_n 0, 1) := by decide +kernel
theorem dX1_keepIfMore_20 : decode cX1_keepIfMore 20 = .ok (.aload_n 0, 1) := by decide +kernel
theorem dX1_keepIfMore_21 : decode cX1_keepIfMore 21 = .ok (.getfield 12, 3) := by decide +kernel
theorem dX1_keepIfMore_24 : decode cX1_keepIfMore 24 = .ok (.getfield 93, 3) := by decide +kernel
theorem dX1_keepIfMore_27 : decode cX1_keepIfMore 27 = .ok (.putfield 26, 3) := by decide +kernel
theorem dX1_keepIfMore_30 : decode cX1_keepIfMore 30 = .ok (.return_, 1) := by decide +kernel
set_option maxRecDepth 20000 in
theorem ggX1_nextOrder_X1_exchange : GoodIn wsX1_nextOrder wsX1_exchange := goodIn_r _ [6, 1, 7, 8, 9, 10] (by decide +kernel) (by decide +kernel)
set_option maxRecDepth 20000 in
theorem gX1_nextOrder_X1_exchange : GoodIn wsX1_nextOrder (wsV RX1 96 RX1 yX1_exchange wsX1_exchange) := goodIn_app (goodIn_of _ (by decide +kernel)) ggX1_nextOrder_X1_exchange
theorem dX1_nextOrder_0 : decode cX1_nextOrder 0 = .ok (.iload_n 1, 1) := by decide +kernel
theorem dX1_nextOrder_1 : decode cX1_nextOrder 1 = .ok (.iconst 2, 1) := by decide +kernel
theorem dX1_nextOrder_2 : decode cX1_nextOrder 2 = .ok (.isub, 1) := by decide +kernel
theorem dX1_nextOrder_3 : decode cX1_nextOrder 3 = .ok (.istore_n 2, 1) := by decide +kernel
theorem dX1_nextOrder_4 : decode cX1_nextOrder 4 = .ok (.iload_n 2, 1) := by decide +kernel
theorem dX1_nextOrder_5 : decode cX1_nextOrder 5 = .ok (.ifCond .lt 26, 3) := by decide +kernel
theorem dX1_nextOrder_8 : decode cX1_nextOrder 8 = .ok (.aload_n 0, 1) := by decide +kernel
theorem dX1_nextOrder_9 : decode cX1_nextOrder 9 = .ok (.getfield 18, 3) := by decide +kernel
theorem dX1_nextOrder_12 : decode cX1_nextOrder 12 = .ok (.iload_n 2, 1) := by decide +kernel
theorem dX1_nextOrder_13 : decode cX1_nextOrder 13 = .ok (.iaload, 1) := by decide +kernel
theorem dX1_nextOrder_14 : decode cX1_nextOrder 14 = .ok (.aload_n 0, 1) := by decide +kernel
theorem dX1_nextOrder_15 : decode cX1_nextOrder 15 = .ok (.getfield 18, 3) := by decide +kernel
theorem dX1_nextOrder_18 : decode cX1_nextOrder 18 = .ok (.iload_n 2, 1) := by decide +kernel
theorem dX1_nextOrder_19 : decode cX1_nextOrder 19 = .ok (.iconst 1, 1) := by decide +kernel
theorem dX1_nextOrder_20 : decode cX1_nextOrder 20 = .ok (.iadd, 1) := by decide +kernel
theorem dX1_nextOrder_21 : decode cX1_nextOrder 21 = .ok (.iaload, 1) := by decide +kernel
theorem dX1_nextOrder_22 : decode cX1_nextOrder 22 = .ok (.if_icmp .le 9, 3) := by decide +kernel
theorem dX1_nextOrder_25 : decode cX1_nextOrder 25 = .ok (.iinc 2 (-1), 3) := by decide +kernel
theorem dX1_nextOrder_28 : decode cX1_nextOrder 28 = .ok (.goto (-24), 3) := by decide +kernel
theorem dX1_nextOrder_31 : decode cX1_nextOrder 31 = .ok (.iload_n 2, 1) := by decide +kernel
theorem dX1_nextOrder_32 : decode cX1_nextOrder 32 = .ok (.ifCond .ge 4, 3) := by decide +kernel
theorem dX1_nextOrder_35 : decode cX1_nextOrder 35 = .ok (.return_, 1) := by decide +kernel
theorem dX1_nextOrder_36 : decode cX1_nextOrder 36 = .ok (.iload_n 1, 1) := by decide +kernel
theorem dX1_nextOrder_37 : decode cX1_nextOrder 37 = .ok (.iconst 1, 1) := by decide +kernel
theorem dX1_nextOrder_38 : decode cX1_nextOrder 38 = .ok (.isub, 1) := by decide +kernel
theorem dX1_nextOrder_39 : decode cX1_nextOrder 39 = .ok (.istore_n 3, 1) := by decide +kernel
theorem dX1_nextOrder_40 : decode cX1_nextOrder 40 = .ok (.iload_n 3, 1) := by decide +kernel
theorem dX1_nextOrder_41 : decode cX1_nextOrder 41 = .ok (.iload_n 2, 1) := by decide +kernel
theorem dX1_nextOrder_42 : decode cX1_nextOrder 42 = .ok (.if_icmp .le 24, 3) := by decide +kernel
theorem dX1_nextOrder_45 : decode cX1_nextOrder 45 = .ok (.aload_n 0, 1) := by decide +kernel
theorem dX1_nextOrder_46 : decode cX1_nextOrder 46 = .ok (.getfield 18, 3) := by decide +kernel
theorem dX1_nextOrder_49 : decode cX1_nextOrder 49 = .ok (.iload_n 3, 1) := by decide +kernel
theorem dX1_nextOrder_50 : decode cX1_nextOrder 50 = .ok (.iaload, 1) := by decide +kernel
theorem dX1_nextOrder_51 : decode cX1_nextOrder 51 = .ok (.aload_n 0, 1) := by decide +kernel
theorem dX1_nextOrder_52 : decode cX1_nextOrder 52 = .ok (.getfield 18, 3) := by decide +kernel
theorem dX1_nextOrder_55 : decode cX1_nextOrder 55 = .ok (.iload_n 2, 1) := by decide +kernel
theorem dX1_nextOrder_56 : decode cX1_nextOrder 56 = .ok (.iaload, 1) := by decide +kernel
theorem dX1_nextOrder_57 : decode cX1_nextOrder 57 = .ok (.if_icmp .ge 9, 3) := by decide +kernel
theorem dX1_nextOrder_60 : decode cX1_nextOrder 60 = .ok (.iinc 3 (-1), 3) := by decide +kernel
theorem dX1_nextOrder_63 : decode cX1_nextOrder 63 = .ok (.goto (-23), 3) := by decide +kernel
theorem dX1_nextOrder_66 : decode cX1_nextOrder 66 = .ok (.aload_n 0, 1) := by decide +kernel
theorem dX1_nextOrder_67 : decode cX1_nextOrder 67 = .ok (.iload_n 2, 1) := by decide +kernel
theorem dX1_nextOrder_68 : decode cX1_nextOrder 68 = .ok (.iload_n 3, 1) := by decide +kernel
theorem dX1_nextOrder_69 : decode cX1_nextOrder 69 = .ok (.invokevirtual 96, 3) := by decide +kernel
theorem dX1_nextOrder_72 : decode cX1_nextOrder 72 = .ok (.iload_n 1, 1) := by decide +kernel
theorem dX1_nextOrder_73 : decode cX1_nextOrder 73 = .ok (.iconst 1, 1) := by decide +kernel
theorem dX1_nextOrder_74 : decode cX1_nextOrder 74 = .ok (.isub, 1) := by decide +kernel
theorem dX1_nextOrder_75 : decode cX1_nextOrder 75 = .ok (.istore 4, 2) := by decide +kernel
theorem dX1_nextOrder_77 : decode cX1_nextOrder 77 = .ok (.iload_n 2, 1) := by decide +kernel
theorem dX1_nextOrder_78 : decode cX1_nextOrder 78 = .ok (.iconst 1, 1) := by decide +kernel
theorem dX1_nextOrder_79 : decode cX1_nextOrder 79 = .ok (.iadd, 1) := by decide +kernel
theorem dX1_nextOrder_80 : decode cX1_nextOrder 80 = .ok (.istore 5, 2) := by decide +kernel
theorem dX1_nextOrder_82 : decode cX1_nextOrder 82 = .ok (.iload 5, 2) := by decide +kernel
theorem dX1_nextOrder_84 : decode cX1_nextOrder 84 = .ok (.iload 4, 2) := by decide +kernel
theorem dX1_nextOrder_86 : decode cX1_nextOrder 86 = .ok (.if_icmp .ge 20, 3) := by decide +kernel
theorem dX1_nextOrder_89 : decode cX1_nextOrder 89 = .ok (.aload_n 0, 1) := by decide +kernel
theorem dX1_nextOrder_90 : decode cX1_nextOrder 90 = .ok (.iload 5, 2) := by decide +kernel
theorem dX1_nextOrder_92 : decode cX1_nextOrder 92 = .ok (.iload 4, 2) := by decide +kernel
theorem dX1_nextOrder_94 : decode cX1_nextOrder 94 = .ok (.invokevirtual 96, 3) := by decide +kernel
theorem dX1_nextOrder_97 : decode cX1_nextOrder 97 = .ok (.iinc 4 (-1), 3) := by decide +kernel
theorem dX1_nextOrder_100 : decode cX1_nextOrder 100 = .ok (.iinc 5 1, 3) := by decide +kernel
theorem dX1_nextOrder_103 : decode cX1_nextOrder 103 = .ok (.goto (-21), 3) := by decide +kernel
theorem dX1_nextOrder_106 : decode cX1_nextOrder 106 = .ok (.return_, 1) := by decide +kernel
theorem dX1_exchange_0 : decode cX1_exchange 0 = .ok (.aload_n 0, 1) := by decide +kernel
theorem dX1_exchange_1 : decode cX1_exchange 1 = .ok (.getfield 18, 3) := by decide +kernel
theorem dX1_exchange_4 : decode cX1_exchange 4 = .ok (.iload_n 1, 1) := by decide +kernel
theorem dX1_exchange_5 : decode cX1_exchange 5 = .ok (.iaload, 1) := by decide +kernel
theorem dX1_exchange_6 : decode cX1_exchange 6 = .ok (.istore_n 3, 1) := by decide +kernel
theorem dX1_exchange_7 : decode cX1_exchange 7 = .ok (.aload_n 0, 1) := by decide +kernel
theorem dX1_exchange_8 : decode cX1_exchange 8 = .ok (.getfield 18, 3) := by decide +kernel
theorem dX1_exchange_11 : decode cX1_exchange 11 = .ok (.iload_n 1, 1) := by decide +kernel
theorem dX1_exchange_12 : decode cX1_exchange 12 = .ok (.aload_n 0, 1) := by decide +kernel
theorem dX1_exchange_13 : decode cX1_exchange 13 = .ok (.getfield 18, 3) := by decide +kernel
theorem dX1_exchange_16 : decode cX1_exchange 16 = .ok (.iload_n 2, 1) := by decide +kernel
theorem dX1_exchange_17 : decode cX1_exchange 17 = .ok (.iaload, 1) := by decide +kernel
theorem dX1_exchange_18 : decode cX1_exchange 18 = .ok (.iastore, 1) := by decide +kernel
theorem dX1_exchange_19 : decode cX1_exchange 19 = .ok (.aload_n 0, 1) := by decide +kernel
theorem dX1_exchange_20 : decode cX1_exchange 20 = .ok (.getfield 18, 3) := by decide +kernel
theorem dX1_exchange_23 : decode cX1_exchange 23 = .ok (.iload_n 2, 1) := by decide +kernel
theorem dX1_exchange_24 : decode cX1_exchange 24 = .ok (.iload_n 3, 1) := by decide +kernel
theorem dX1_exchange_25 : decode cX1_exchange 25 = .ok (.iastore, 1) := by decide +kernel
theorem dX1_exchange_26 : decode cX1_exchange 26 = .ok (.return_, 1) := by decide +kernel
set_option maxRecDepth 20000 in
theorem ggX1_findChange_X5_become : GoodIn wsX1_findChange wsX5_become := goodIn_r _ [10, 11, 12, 13, 14, 15, 16, 17, 18, 19, 20, 21, 22, 23, 24, 25, 26, 27, 28, 76, 77, 78, 79, 80, 81, 82, 83, 84, 85, 86, 87, 88, 89, 90] (by decide +kernel) (by decide +kernel)
set_option maxRecDepth 20000 in
theorem gX1_findChange_X5_become : GoodIn wsX1_findChange (wsV RX1 29 RX5 yX5_become wsX5_become) := goodIn_app (goodIn_of _ (by decide +kernel)) ggX1_findChange_X5_become
set_option maxRecDepth 20000 in
theorem ggX1_findChange_X5_trade : GoodIn wsX1_findChange wsX5_trade := goodIn_r _ [32, 27, 33, 34, 35, 9, 36, 28, 76, 77, 78, 79, 80, 81, 82, 83, 84, 85, 86, 87, 88, 89, 90] (by decide +kernel) (by decide +kernel)
set_option maxRecDepth 20000 in
theorem gX1_findChange_X5_trade : GoodIn wsX1_findChange (wsV RX1 99 RX5 yX5_trade wsX5_trade) := goodIn_app (goodIn_of _ (by decide +kernel)) ggX1_findChange_X5_trade
set_option maxRecDepth 20000 in
theorem ggX1_findChange_X5_run : GoodIn wsX1_findChange wsX5_run := goodIn_r _ [40, 41, 42, 43, 9, 44, 11, 45, 26, 25, 18, 24, 15, 46, 47, 48, 49, 50, 51, 52, 53, 16, 14, 54, 55, 56, 57, 17, 58, 59, 60, 61, 27, 23, 13, 62, 63, 64, 65, 28, 76, 77, 78, 79, 80, 81, 82, 83, 84, 85, 86, 87, 88, 89, 90] (by decide +kernel) (by decide +kernel)
set_option maxRecDepth 20000 in
theorem gX1_findChange_X5_run : GoodIn wsX1_findChange (wsV RX1 33 RX5 yX5_run wsX5_run) := goodIn_app (goodIn_of _ (by decide +kernel)) ggX1_findChange_X5_run
set_option maxRecDepth 20000 in
theorem ggX1_findChange_X1_keepIfMore : GoodIn wsX1_findChange wsX1_keepIfMore := goodIn_r _ [70, 5, 71, 3, 2, 72, 73, 74, 75, 76, 77, 78, 79, 80, 81, 82, 83, 84, 85, 86, 87, 88, 89, 90] (by decide +kernel) (by decide +kernel)
set_option maxRecDepth 20000 in
theorem gX1_findChange_X1_keepIfMore : GoodIn wsX1_findChange (wsV RX1 90 RX1 yX1_keepIfMore wsX1_keepIfMore) := goodIn_app (goodIn_of _ (by decide +kernel)) ggX1_findChange_X1_keepIfMore
theorem dX1_findChange_0 : decode cX1_findChange 0 = .ok (.aload_n 0, 1) := by decide +kernel
theorem dX1_findChange_1 : decode cX1_findChange 1 = .ok (.ldc 44, 2) := by decide +kernel
theorem dX1_findChange_3 : decode cX1_findChange 3 = .ok (.putfield 22, 3) := by decide +kernel
theorem dX1_findChange_6 : decode cX1_findChange 6 = .ok (.aload_n 0, 1) := by decide +kernel
theorem dX1_findChange_7 : decode cX1_findChange 7 = .ok (.ldc 44, 2) := by decide +kernel
theorem dX1_findChange_9 : decode cX1_findChange 9 = .ok (.putfield 26, 3) := by decide +kernel
theorem dX1_findChange_12 : decode cX1_findChange 12 = .ok (.iconst 0, 1) := by decide +kernel
theorem dX1_findChange_13 : decode cX1_findChange 13 = .ok (.istore_n 3, 1) := by decide +kernel
theorem dX1_findChange_14 : decode cX1_findChange 14 = .ok (.iload_n 3, 1) := by decide +kernel
theorem dX1_findChange_15 : decode cX1_findChange 15 = .ok (.aload_n 1, 1) := by decide +kernel
theorem dX1_findChange_16 : decode cX1_findChange 16 = .ok (.getfield 49, 3) := by decide +kernel
theorem dX1_findChange_19 : decode cX1_findChange 19 = .ok (.if_icmp .ge 66, 3) := by decide +kernel
theorem dX1_findChange_22 : decode cX1_findChange 22 = .ok (.iload_n 3, 1) := by decide +kernel
theorem dX1_findChange_23 : decode cX1_findChange 23 = .ok (.iconst 1, 1) := by decide +kernel
theorem dX1_findChange_24 : decode cX1_findChange 24 = .ok (.iadd, 1) := by decide +kernel
theorem dX1_findChange_25 : decode cX1_findChange 25 = .ok (.istore 4, 2) := by decide +kernel
theorem dX1_findChange_27 : decode cX1_findChange 27 = .ok (.iload 4, 2) := by decide +kernel
theorem dX1_findChange_29 : decode cX1_findChange 29 = .ok (.aload_n 1, 1) := by decide +kernel
theorem dX1_findChange_30 : decode cX1_findChange 30 = .ok (.getfield 49, 3) := by decide +kernel
theorem dX1_findChange_33 : decode cX1_findChange 33 = .ok (.if_icmp .ge 46, 3) := by decide +kernel
theorem dX1_findChange_36 : decode cX1_findChange 36 = .ok (.aload_n 0, 1) := by decide +kernel
theorem dX1_findChange_37 : decode cX1_findChange 37 = .ok (.getfield 12, 3) := by decide +kernel
theorem dX1_findChange_40 : decode cX1_findChange 40 = .ok (.aload_n 1, 1) := by decide +kernel
theorem dX1_findChange_41 : decode cX1_findChange 41 = .ok (.invokevirtual 29, 3) := by decide +kernel
theorem dX1_findChange_44 : decode cX1_findChange 44 = .ok (.aload_n 0, 1) := by decide +kernel
theorem dX1_findChange_45 : decode cX1_findChange 45 = .ok (.getfield 12, 3) := by decide +kernel
theorem dX1_findChange_48 : decode cX1_findChange 48 = .ok (.iload_n 3, 1) := by decide +kernel
theorem dX1_findChange_49 : decode cX1_findChange 49 = .ok (.iload 4, 2) := by decide +kernel
theorem dX1_findChange_51 : decode cX1_findChange 51 = .ok (.invokevirtual 99, 3) := by decide +kernel
theorem dX1_findChange_54 : decode cX1_findChange 54 = .ok (.aload_n 0, 1) := by decide +kernel
theorem dX1_findChange_55 : decode cX1_findChange 55 = .ok (.getfield 12, 3) := by decide +kernel
theorem dX1_findChange_58 : decode cX1_findChange 58 = .ok (.iload_n 2, 1) := by decide +kernel
theorem dX1_findChange_59 : decode cX1_findChange 59 = .ok (.invokevirtual 33, 3) := by decide +kernel
theorem dX1_findChange_62 : decode cX1_findChange 62 = .ok (.aload_n 0, 1) := by decide +kernel
theorem dX1_findChange_63 : decode cX1_findChange 63 = .ok (.bipush 10, 2) := by decide +kernel
theorem dX1_findChange_65 : decode cX1_findChange 65 = .ok (.iload_n 3, 1) := by decide +kernel
theorem dX1_findChange_66 : decode cX1_findChange 66 = .ok (.imul, 1) := by decide +kernel
theorem dX1_findChange_67 : decode cX1_findChange 67 = .ok (.iload 4, 2) := by decide +kernel
theorem dX1_findChange_69 : decode cX1_findChange 69 = .ok (.iadd, 1) := by decide +kernel
theorem dX1_findChange_70 : decode cX1_findChange 70 = .ok (.invokevirtual 90, 3) := by decide +kernel
theorem dX1_findChange_73 : decode cX1_findChange 73 = .ok (.iinc 4 1, 3) := by decide +kernel
theorem dX1_findChange_76 : decode cX1_findChange 76 = .ok (.goto (-49), 3) := by decide +kernel
theorem dX1_findChange_79 : decode cX1_findChange 79 = .ok (.iinc 3 1, 3) := by decide +kernel
theorem dX1_findChange_82 : decode cX1_findChange 82 = .ok (.goto (-68), 3) := by decide +kernel
theorem dX1_findChange_85 : decode cX1_findChange 85 = .ok (.return_, 1) := by decide +kernel
set_option maxRecDepth 20000 in
theorem ggX1_weighAway_X5_isHired : GoodIn wsX1_weighAway wsX5_isHired := goodIn_r _ [9, 10, 78, 79, 80, 81, 82, 83, 84, 85, 86, 87, 88, 89, 90, 91, 92] (by decide +kernel) (by decide +kernel)
set_option maxRecDepth 20000 in
theorem gX1_weighAway_X5_isHired : GoodIn wsX1_weighAway (wsV RX1 52 RX5 yX5_isHired wsX5_isHired) := goodIn_app (goodIn_of _ (by decide +kernel)) ggX1_weighAway_X5_isHired
set_option maxRecDepth 20000 in
theorem ggX1_weighAway_X1_fillsWith : GoodIn wsX1_weighAway wsX1_fillsWith := goodIn_r _ [15, 16, 17, 18, 19, 8, 20, 21, 22, 23, 24, 25, 26, 10, 27, 28, 29, 30, 31, 32, 33, 34, 35, 36, 37, 38, 39, 40, 41, 42, 6, 7, 9, 43, 44, 45, 46, 47, 48, 49, 50, 51, 52, 53, 54, 55, 56, 57, 58, 59, 60, 61, 62, 63, 64, 65, 66, 67, 68, 69, 70, 71, 93, 94, 95, 96, 78, 79, 80, 81, 82, 83, 84, 85, 86, 87, 88, 89, 90, 91, 92] (by decide +kernel) (by decide +kernel)
set_option maxRecDepth 20000 in
theorem gX1_weighAway_X1_fillsWith : GoodIn wsX1_weighAway (wsV RX1 59 RX1 yX1_fillsWith wsX1_fillsWith) := goodIn_app (goodIn_of _ (by decide +kernel)) ggX1_weighAway_X1_fillsWith
set_option maxRecDepth 20000 in
theorem ggX1_weighAway_X1_waysToStay : GoodIn wsX1_weighAway wsX1_waysToStay := goodIn_r _ [74, 1, 5, 6, 7, 8, 9, 10, 78, 79, 80, 81, 82, 83, 84, 85, 86, 87, 88, 89, 90, 91, 92] (by decide +kernel) (by decide +kernel)
set_option maxRecDepth 20000 in
theorem gX1_weighAway_X1_waysToStay : GoodIn wsX1_weighAway (va_wsS RX1 105 yX1_waysToStay wsX1_waysToStay) := goodIn_app (goodIn_of _ (by decide +kernel)) ggX1_weighAway_X1_waysToStay
set_option maxRecDepth 20000 in
theorem ggX1_weighAway_X1_commonDivisor : GoodIn wsX1_weighAway wsX1_commonDivisor := goodIn_r _ [77] (by decide +kernel) (by decide +kernel)
set_option maxRecDepth 20000 in
theorem gX1_weighAway_X1_commonDivisor : GoodIn wsX1_weighAway (va_wsS RX1 109 yX1_commonDivisor wsX1_commonDivisor) := goodIn_app (goodIn_of _ (by decide +kernel)) ggX1_weighAway_X1_commonDivisor
theorem dX1_weighAway_0 : decode cX1_weighAway 0 = .ok (.iconst 0, 1) := by decide +kernel
theorem dX1_weighAway_1 : decode cX1_weighAway 1 = .ok (.istore 4, 2) := by decide +kernel
theorem dX1_weighAway_3 : decode cX1_weighAway 3 = .ok (.iconst 1, 1) := by decide +kernel
theorem dX1_weighAway_4 : decode cX1_weighAway 4 = .ok (.istore 5, 2) := by decide +kernel
theorem dX1_weighAway_6 : decode cX1_weighAway 6 = .ok (.iconst 0, 1) := by decide +kernel
theorem dX1_weighAway_7 : decode cX1_weighAway 7 = .ok (.istore 6, 2) := by decide +kernel
theorem dX1_weighAway_9 : decode cX1_weighAway 9 = .ok (.iload 6, 2) := by decide +kernel
theorem dX1_weighAway_11 : decode cX1_weighAway 11 = .ok (.aload_n 1, 1) := by decide +kernel
theorem dX1_weighAway_12 : decode cX1_weighAway 12 = .ok (.getfield 49, 3) := by decide +kernel
theorem dX1_weighAway_15 : decode cX1_weighAway 15 = .ok (.if_icmp .ge 29, 3) := by decide +kernel
theorem dX1_weighAway_18 : decode cX1_weighAway 18 = .ok (.iload 5, 2) := by decide +kernel
theorem dX1_weighAway_20 : decode cX1_weighAway 20 = .ok (.aload_n 1, 1) := by decide +kernel
theorem dX1_weighAway_21 : decode cX1_weighAway 21 = .ok (.iload 6, 2) := by decide +kernel
theorem dX1_weighAway_23 : decode cX1_weighAway 23 = .ok (.invokevirtual 52, 3) := by decide +kernel
theorem dX1_weighAway_26 : decode cX1_weighAway 26 = .ok (.ifCond .eq 8, 3) := by decide +kernel
theorem dX1_weighAway_29 : decode cX1_weighAway 29 = .ok (.bipush 10, 2) := by decide +kernel
theorem dX1_weighAway_31 : decode cX1_weighAway 31 = .ok (.goto 4, 3) := by decide +kernel
theorem dX1_weighAway_34 : decode cX1_weighAway 34 = .ok (.iconst 1, 1) := by decide +kernel
theorem dX1_weighAway_35 : decode cX1_weighAway 35 = .ok (.imul, 1) := by decide +kernel
theorem dX1_weighAway_36 : decode cX1_weighAway 36 = .ok (.istore 5, 2) := by decide +kernel
theorem dX1_weighAway_38 : decode cX1_weighAway 38 = .ok (.iinc 6 1, 3) := by decide +kernel
theorem dX1_weighAway_41 : decode cX1_weighAway 41 = .ok (.goto (-32), 3) := by decide +kernel
theorem dX1_weighAway_44 : decode cX1_weighAway 44 = .ok (.iconst 1, 1) := by decide +kernel
theorem dX1_weighAway_45 : decode cX1_weighAway 45 = .ok (.aload_n 1, 1) := by decide +kernel
theorem dX1_weighAway_46 : decode cX1_weighAway 46 = .ok (.getfield 49, 3) := by decide +kernel
theorem dX1_weighAway_49 : decode cX1_weighAway 49 = .ok (.ishl, 1) := by decide +kernel
theorem dX1_weighAway_50 : decode cX1_weighAway 50 = .ok (.istore 6, 2) := by decide +kernel
theorem dX1_weighAway_52 : decode cX1_weighAway 52 = .ok (.iconst 0, 1) := by decide +kernel
theorem dX1_weighAway_53 : decode cX1_weighAway 53 = .ok (.istore 7, 2) := by decide +kernel
theorem dX1_weighAway_55 : decode cX1_weighAway 55 = .ok (.iload 7, 2) := by decide +kernel
theorem dX1_weighAway_57 : decode cX1_weighAway 57 = .ok (.iload 6, 2) := by decide +kernel
theorem dX1_weighAway_59 : decode cX1_weighAway 59 = .ok (.if_icmp .ge 44, 3) := by decide +kernel
theorem dX1_weighAway_62 : decode cX1_weighAway 62 = .ok (.iload 7, 2) := by decide +kernel
theorem dX1_weighAway_64 : decode cX1_weighAway 64 = .ok (.aload_n 1, 1) := by decide +kernel
theorem dX1_weighAway_65 : decode cX1_weighAway 65 = .ok (.getfield 102, 3) := by decide +kernel
theorem dX1_weighAway_68 : decode cX1_weighAway 68 = .ok (.iconst (-1), 1) := by decide +kernel
theorem dX1_weighAway_69 : decode cX1_weighAway 69 = .ok (.ixor, 1) := by decide +kernel
theorem dX1_weighAway_70 : decode cX1_weighAway 70 = .ok (.iand, 1) := by decide +kernel
theorem dX1_weighAway_71 : decode cX1_weighAway 71 = .ok (.ifCond .ne 26, 3) := by decide +kernel
theorem dX1_weighAway_74 : decode cX1_weighAway 74 = .ok (.aload_n 0, 1) := by decide +kernel
theorem dX1_weighAway_75 : decode cX1_weighAway 75 = .ok (.aload_n 1, 1) := by decide +kernel
theorem dX1_weighAway_76 : decode cX1_weighAway 76 = .ok (.iload 7, 2) := by decide +kernel
theorem dX1_weighAway_78 : decode cX1_weighAway 78 = .ok (.iload_n 2, 1) := by decide +kernel
theorem dX1_weighAway_79 : decode cX1_weighAway 79 = .ok (.invokevirtual 59, 3) := by decide +kernel
theorem dX1_weighAway_82 : decode cX1_weighAway 82 = .ok (.ifCond .eq 15, 3) := by decide +kernel
theorem dX1_weighAway_85 : decode cX1_weighAway 85 = .ok (.iload 4, 2) := by decide +kernel
theorem dX1_weighAway_87 : decode cX1_weighAway 87 = .ok (.aload_n 1, 1) := by decide +kernel
theorem dX1_weighAway_88 : decode cX1_weighAway 88 = .ok (.iload 7, 2) := by decide +kernel
theorem dX1_weighAway_90 : decode cX1_weighAway 90 = .ok (.iload_n 3, 1) := by decide +kernel
theorem dX1_weighAway_91 : decode cX1_weighAway 91 = .ok (.invokestatic 105, 3) := by decide +kernel
theorem dX1_weighAway_94 : decode cX1_weighAway 94 = .ok (.iadd, 1) := by decide +kernel
theorem dX1_weighAway_95 : decode cX1_weighAway 95 = .ok (.istore 4, 2) := by decide +kernel
theorem dX1_weighAway_97 : decode cX1_weighAway 97 = .ok (.iinc 7 1, 3) := by decide +kernel
theorem dX1_weighAway_100 : decode cX1_weighAway 100 = .ok (.goto (-45), 3) := by decide +kernel
theorem dX1_weighAway_103 : decode cX1_weighAway 103 = .ok (.iload 4, 2) := by decide +kernel
theorem dX1_weighAway_105 : decode cX1_weighAway 105 = .ok (.iload 5, 2) := by decide +kernel
theorem dX1_weighAway_107 : decode cX1_weighAway 107 = .ok (.invokestatic 109, 3) := by decide +kernel
theorem dX1_weighAway_110 : decode cX1_weighAway 110 = .ok (.istore 7, 2) := by decide +kernel
theorem dX1_weighAway_112 : decode cX1_weighAway 112 = .ok (.aload_n 0, 1) := by decide +kernel
theorem dX1_weighAway_113 : decode cX1_weighAway 113 = .ok (.iload 7, 2) := by decide +kernel
theorem dX1_weighAway_115 : decode cX1_weighAway 115 = .ok (.ifCond .ne 8, 3) := by decide +kernel
theorem dX1_weighAway_118 : decode cX1_weighAway 118 = .ok (.iload 4, 2) := by decide +kernel
theorem dX1_weighAway_120 : decode cX1_weighAway 120 = .ok (.goto 8, 3) := by decide +kernel
theorem dX1_weighAway_123 : decode cX1_weighAway 123 = .ok (.iload 4, 2) := by decide +kernel
theorem dX1_weighAway_125 : decode cX1_weighAway 125 = .ok (.iload 7, 2) := by decide +kernel
theorem dX1_weighAway_127 : decode cX1_weighAway 127 = .ok (.idiv, 1) := by decide +kernel
theorem dX1_weighAway_128 : decode cX1_weighAway 128 = .ok (.putfield 22, 3) := by decide +kernel
theorem dX1_weighAway_131 : decode cX1_weighAway 131 = .ok (.aload_n 0, 1) := by decide +kernel
theorem dX1_weighAway_132 : decode cX1_weighAway 132 = .ok (.iload 7, 2) := by decide +kernel
theorem dX1_weighAway_134 : decode cX1_weighAway 134 = .ok (.ifCond .ne 8, 3) := by decide +kernel
theorem dX1_weighAway_137 : decode cX1_weighAway 137 = .ok (.iload 5, 2) := by decide +kernel
theorem dX1_weighAway_139 : decode cX1_weighAway 139 = .ok (.goto 8, 3) := by decide +kernel
theorem dX1_weighAway_142 : decode cX1_weighAway 142 = .ok (.iload 5, 2) := by decide +kernel
theorem dX1_weighAway_144 : decode cX1_weighAway 144 = .ok (.iload 7, 2) := by decide +kernel
theorem dX1_weighAway_146 : decode cX1_weighAway 146 = .ok (.idiv, 1) := by decide +kernel
theorem dX1_weighAway_147 : decode cX1_weighAway 147 = .ok (.putfield 26, 3) := by decide +kernel
theorem dX1_weighAway_150 : decode cX1_weighAway 150 = .ok (.return_, 1) := by decide +kernel
set_option maxRecDepth 20000 in
theorem ggX1_waysToStay_X5_isHired : GoodIn wsX1_waysToStay wsX5_isHired := goodIn_r _ [6, 7, 8, 9, 10, 11, 12, 13, 14, 15, 16, 17, 18, 19, 20, 21, 22] (by decide +kernel) (by decide +kernel)
set_option maxRecDepth 20000 in
theorem gX1_waysToStay_X5_isHired : GoodIn wsX1_waysToStay (wsV RX1 52 RX5 yX5_isHired wsX5_isHired) := goodIn_app (goodIn_of _ (by decide +kernel)) ggX1_waysToStay_X5_isHired
theorem dX1_waysToStay_0 : decode cX1_waysToStay 0 = .ok (.iconst 1, 1) := by decide +kernel
theorem dX1_waysToStay_1 : decode cX1_waysToStay 1 = .ok (.istore_n 3, 1) := by decide +kernel
theorem dX1_waysToStay_2 : decode cX1_waysToStay 2 = .ok (.iconst 0, 1) := by decide +kernel
theorem dX1_waysToStay_3 : decode cX1_waysToStay 3 = .ok (.istore 4, 2) := by decide +kernel
theorem dX1_waysToStay_5 : decode cX1_waysToStay 5 = .ok (.iload 4, 2) := by decide +kernel
theorem dX1_waysToStay_7 : decode cX1_waysToStay 7 = .ok (.aload_n 0, 1) := by decide +kernel
theorem dX1_waysToStay_8 : decode cX1_waysToStay 8 = .ok (.getfield 49, 3) := by decide +kernel
theorem dX1_waysToStay_11 : decode cX1_waysToStay 11 = .ok (.if_icmp .ge 39, 3) := by decide +kernel
theorem dX1_waysToStay_14 : decode cX1_waysToStay 14 = .ok (.aload_n 0, 1) := by decide +kernel
theorem dX1_waysToStay_15 : decode cX1_waysToStay 15 = .ok (.iload 4, 2) := by decide +kernel
theorem dX1_waysToStay_17 : decode cX1_waysToStay 17 = .ok (.invokevirtual 52, 3) := by decide +kernel
theorem dX1_waysToStay_20 : decode cX1_waysToStay 20 = .ok (.ifCond .eq 24, 3) := by decide +kernel
theorem dX1_waysToStay_23 : decode cX1_waysToStay 23 = .ok (.iload_n 3, 1) := by decide +kernel
theorem dX1_waysToStay_24 : decode cX1_waysToStay 24 = .ok (.iload_n 1, 1) := by decide +kernel
theorem dX1_waysToStay_25 : decode cX1_waysToStay 25 = .ok (.iload 4, 2) := by decide +kernel
theorem dX1_waysToStay_27 : decode cX1_waysToStay 27 = .ok (.ishr, 1) := by decide +kernel
theorem dX1_waysToStay_28 : decode cX1_waysToStay 28 = .ok (.iconst 1, 1) := by decide +kernel
theorem dX1_waysToStay_29 : decode cX1_waysToStay 29 = .ok (.iand, 1) := by decide +kernel
theorem dX1_waysToStay_30 : decode cX1_waysToStay 30 = .ok (.iconst 1, 1) := by decide +kernel
theorem dX1_waysToStay_31 : decode cX1_waysToStay 31 = .ok (.if_icmp .ne 10, 3) := by decide +kernel
theorem dX1_waysToStay_34 : decode cX1_waysToStay 34 = .ok (.bipush 10, 2) := by decide +kernel
theorem dX1_waysToStay_36 : decode cX1_waysToStay 36 = .ok (.iload_n 2, 1) := by decide +kernel
theorem dX1_waysToStay_37 : decode cX1_waysToStay 37 = .ok (.isub, 1) := by decide +kernel
theorem dX1_waysToStay_38 : decode cX1_waysToStay 38 = .ok (.goto 4, 3) := by decide +kernel
theorem dX1_waysToStay_41 : decode cX1_waysToStay 41 = .ok (.iload_n 2, 1) := by decide +kernel
theorem dX1_waysToStay_42 : decode cX1_waysToStay 42 = .ok (.imul, 1) := by decide +kernel
theorem dX1_waysToStay_43 : decode cX1_waysToStay 43 = .ok (.istore_n 3, 1) := by decide +kernel
theorem dX1_waysToStay_44 : decode cX1_waysToStay 44 = .ok (.iinc 4 1, 3) := by decide +kernel
theorem dX1_waysToStay_47 : decode cX1_waysToStay 47 = .ok (.goto (-42), 3) := by decide +kernel
theorem dX1_waysToStay_50 : decode cX1_waysToStay 50 = .ok (.iload_n 3, 1) := by decide +kernel
theorem dX1_waysToStay_51 : decode cX1_waysToStay 51 = .ok (.ireturn, 1) := by decide +kernel
theorem dX1_commonDivisor_0 : decode cX1_commonDivisor 0 = .ok (.iload_n 0, 1) := by decide +kernel
theorem dX1_commonDivisor_1 : decode cX1_commonDivisor 1 = .ok (.istore_n 2, 1) := by decide +kernel
theorem dX1_commonDivisor_2 : decode cX1_commonDivisor 2 = .ok (.iload_n 1, 1) := by decide +kernel
theorem dX1_commonDivisor_3 : decode cX1_commonDivisor 3 = .ok (.istore_n 3, 1) := by decide +kernel
theorem dX1_commonDivisor_4 : decode cX1_commonDivisor 4 = .ok (.iconst 0, 1) := by decide +kernel
theorem dX1_commonDivisor_5 : decode cX1_commonDivisor 5 = .ok (.istore 4, 2) := by decide +kernel
theorem dX1_commonDivisor_7 : decode cX1_commonDivisor 7 = .ok (.iload 4, 2) := by decide +kernel
theorem dX1_commonDivisor_9 : decode cX1_commonDivisor 9 = .ok (.bipush 64, 2) := by decide +kernel
theorem dX1_commonDivisor_11 : decode cX1_commonDivisor 11 = .ok (.if_icmp .ge 23, 3) := by decide +kernel
theorem dX1_commonDivisor_14 : decode cX1_commonDivisor 14 = .ok (.iload_n 3, 1) := by decide +kernel
theorem dX1_commonDivisor_15 : decode cX1_commonDivisor 15 = .ok (.ifCond .eq 19, 3) := by decide +kernel
theorem dX1_commonDivisor_18 : decode cX1_commonDivisor 18 = .ok (.iload_n 2, 1) := by decide +kernel
theorem dX1_commonDivisor_19 : decode cX1_commonDivisor 19 = .ok (.iload_n 3, 1) := by decide +kernel
theorem dX1_commonDivisor_20 : decode cX1_commonDivisor 20 = .ok (.irem, 1) := by decide +kernel
theorem dX1_commonDivisor_21 : decode cX1_commonDivisor 21 = .ok (.istore 5, 2) := by decide +kernel
theorem dX1_commonDivisor_23 : decode cX1_commonDivisor 23 = .ok (.iload_n 3, 1) := by decide +kernel
theorem dX1_commonDivisor_24 : decode cX1_commonDivisor 24 = .ok (.istore_n 2, 1) := by decide +kernel
theorem dX1_commonDivisor_25 : decode cX1_commonDivisor 25 = .ok (.iload 5, 2) := by decide +kernel
theorem dX1_commonDivisor_27 : decode cX1_commonDivisor 27 = .ok (.istore_n 3, 1) := by decide +kernel
theorem dX1_commonDivisor_28 : decode cX1_commonDivisor 28 = .ok (.iinc 4 1, 3) := by decide +kernel
theorem dX1_commonDivisor_31 : decode cX1_commonDivisor 31 = .ok (.goto (-24), 3) := by decide +kernel
theorem dX1_commonDivisor_34 : decode cX1_commonDivisor 34 = .ok (.iload_n 2, 1) := by decide +kernel
theorem dX1_commonDivisor_35 : decode cX1_commonDivisor 35 = .ok (.ireturn, 1) := by decide +kernel
set_option maxRecDepth 20000 in
theorem ggX1_season_X5_become : GoodIn wsX1_season wsX5_become := goodIn_r _ [12, 13, 14, 15, 16, 17, 18, 19, 20, 21, 22, 23, 24, 25, 26, 27, 28, 29, 30, 76, 77, 78, 79, 80, 81, 82, 83, 84, 85, 86, 87, 88, 89, 90] (by decide +kernel) (by decide +kernel)
set_option maxRecDepth 20000 in
theorem gX1_season_X5_become : GoodIn wsX1_season (wsV RX1 29 RX5 yX5_become wsX5_become) := goodIn_app (goodIn_of _ (by decide +kernel)) ggX1_season_X5_become
set_option maxRecDepth 20000 in
theorem ggX1_season_X5_engage : GoodIn wsX1_season wsX5_engage := goodIn_r _ [34, 19, 13, 28, 35, 36, 37, 11, 38, 76, 77, 78, 79, 80, 81, 82, 83, 84, 85, 86, 87, 88, 89, 90] (by decide +kernel) (by decide +kernel)
set_option maxRecDepth 20000 in
theorem gX1_season_X5_engage : GoodIn wsX1_season (wsV RX1 70 RX5 yX5_engage wsX5_engage) := goodIn_app (goodIn_of _ (by decide +kernel)) ggX1_season_X5_engage
set_option maxRecDepth 20000 in
theorem ggX1_season_X5_has : GoodIn wsX1_season wsX5_has := goodIn_r _ [42, 13, 76, 77, 78, 79, 80, 81, 82, 83, 84, 85, 86, 87, 88, 89, 90] (by decide +kernel) (by decide +kernel)
set_option maxRecDepth 20000 in
theorem gX1_season_X5_has : GoodIn wsX1_season (wsV RX1 119 RX5 yX5_has wsX5_has) := goodIn_app (goodIn_of _ (by decide +kernel)) ggX1_season_X5_has
set_option maxRecDepth 20000 in
theorem ggX1_season_X5_trade : GoodIn wsX1_season wsX5_trade := goodIn_r _ [46, 29, 47, 48, 49, 11, 50, 30, 76, 77, 78, 79, 80, 81, 82, 83, 84, 85, 86, 87, 88, 89, 90] (by decide +kernel) (by decide +kernel)
set_option maxRecDepth 20000 in
theorem gX1_season_X5_trade : GoodIn wsX1_season (wsV RX1 99 RX5 yX5_trade wsX5_trade) := goodIn_app (goodIn_of _ (by decide +kernel)) ggX1_season_X5_trade
set_option maxRecDepth 20000 in
theorem ggX1_season_X5_pass : GoodIn wsX1_season wsX5_pass := goodIn_r _ [54, 13, 55, 28, 27, 20, 26, 17, 56, 57, 58, 59, 60, 61, 62, 63, 18, 16, 35, 36, 37, 11, 38, 19, 64, 65, 66, 67, 29, 25, 15, 68, 69, 70, 71, 30, 76, 77, 78, 79, 80, 81, 82, 83, 84, 85, 86, 87, 88, 89, 90] (by decide +kernel) (by decide +kernel)
set_option maxRecDepth 20000 in
theorem gX1_season_X5_pass : GoodIn wsX1_season (wsV RX1 41 RX5 yX5_pass wsX5_pass) := goodIn_app (goodIn_of _ (by decide +kernel)) ggX1_season_X5_pass
theorem dX1_season_0 : decode cX1_season 0 = .ok (.aload_n 0, 1) := by decide +kernel
theorem dX1_season_1 : decode cX1_season 1 = .ok (.getfield 12, 3) := by decide +kernel
theorem dX1_season_4 : decode cX1_season 4 = .ok (.aload_n 1, 1) := by decide +kernel
theorem dX1_season_5 : decode cX1_season 5 = .ok (.invokevirtual 29, 3) := by decide +kernel
theorem dX1_season_8 : decode cX1_season 8 = .ok (.iload_n 3, 1) := by decide +kernel
theorem dX1_season_9 : decode cX1_season 9 = .ok (.i2l, 1) := by decide +kernel
theorem dX1_season_10 : decode cX1_season 10 = .ok (.lstore 4, 2) := by decide +kernel
theorem dX1_season_12 : decode cX1_season 12 = .ok (.iconst 0, 1) := by decide +kernel
theorem dX1_season_13 : decode cX1_season 13 = .ok (.istore 6, 2) := by decide +kernel
theorem dX1_season_15 : decode cX1_season 15 = .ok (.iload 6, 2) := by decide +kernel
theorem dX1_season_17 : decode cX1_season 17 = .ok (.iload_n 2, 1) := by decide +kernel
theorem dX1_season_18 : decode cX1_season 18 = .ok (.if_icmp .ge 119, 3) := by decide +kernel
theorem dX1_season_21 : decode cX1_season 21 = .ok (.aload_n 0, 1) := by decide +kernel
theorem dX1_season_22 : decode cX1_season 22 = .ok (.getfield 12, 3) := by decide +kernel
theorem dX1_season_25 : decode cX1_season 25 = .ok (.getfield 49, 3) := by decide +kernel
theorem dX1_season_28 : decode cX1_season 28 = .ok (.ifCond .le 109, 3) := by decide +kernel
theorem dX1_season_31 : decode cX1_season 31 = .ok (.lload 4, 2) := by decide +kernel
theorem dX1_season_33 : decode cX1_season 33 = .ok (.ldc2_w 113, 3) := by decide +kernel
theorem dX1_season_36 : decode cX1_season 36 = .ok (.lmul, 1) := by decide +kernel
theorem dX1_season_37 : decode cX1_season 37 = .ok (.ldc2_w 115, 3) := by decide +kernel
theorem dX1_season_40 : decode cX1_season 40 = .ok (.lrem, 1) := by decide +kernel
theorem dX1_season_41 : decode cX1_season 41 = .ok (.lstore 4, 2) := by decide +kernel
theorem dX1_season_43 : decode cX1_season 43 = .ok (.aload_n 0, 1) := by decide +kernel
theorem dX1_season_44 : decode cX1_season 44 = .ok (.getfield 12, 3) := by decide +kernel
theorem dX1_season_47 : decode cX1_season 47 = .ok (.aload_n 0, 1) := by decide +kernel
theorem dX1_season_48 : decode cX1_season 48 = .ok (.getfield 12, 3) := by decide +kernel
theorem dX1_season_51 : decode cX1_season 51 = .ok (.getfield 102, 3) := by decide +kernel
theorem dX1_season_54 : decode cX1_season 54 = .ok (.iconst 1, 1) := by decide +kernel
theorem dX1_season_55 : decode cX1_season 55 = .ok (.lload 4, 2) := by decide +kernel
theorem dX1_season_57 : decode cX1_season 57 = .ok (.aload_n 0, 1) := by decide +kernel
theorem dX1_season_58 : decode cX1_season 58 = .ok (.getfield 12, 3) := by decide +kernel
theorem dX1_season_61 : decode cX1_season 61 = .ok (.getfield 49, 3) := by decide +kernel
theorem dX1_season_64 : decode cX1_season 64 = .ok (.i2l, 1) := by decide +kernel
theorem dX1_season_65 : decode cX1_season 65 = .ok (.lrem, 1) := by decide +kernel
theorem dX1_season_66 : decode cX1_season 66 = .ok (.l2i, 1) := by decide +kernel
theorem dX1_season_67 : decode cX1_season 67 = .ok (.ishl, 1) := by decide +kernel
theorem dX1_season_68 : decode cX1_season 68 = .ok (.ixor, 1) := by decide +kernel
theorem dX1_season_69 : decode cX1_season 69 = .ok (.invokevirtual 70, 3) := by decide +kernel
theorem dX1_season_72 : decode cX1_season 72 = .ok (.lload 4, 2) := by decide +kernel
theorem dX1_season_74 : decode cX1_season 74 = .ok (.ldc2_w 117, 3) := by decide +kernel
theorem dX1_season_77 : decode cX1_season 77 = .ok (.lrem, 1) := by decide +kernel
theorem dX1_season_78 : decode cX1_season 78 = .ok (.l2i, 1) := by decide +kernel
theorem dX1_season_79 : decode cX1_season 79 = .ok (.istore 7, 2) := by decide +kernel
theorem dX1_season_81 : decode cX1_season 81 = .ok (.aload_n 0, 1) := by decide +kernel
theorem dX1_season_82 : decode cX1_season 82 = .ok (.getfield 12, 3) := by decide +kernel
theorem dX1_season_85 : decode cX1_season 85 = .ok (.iload 7, 2) := by decide +kernel
theorem dX1_season_87 : decode cX1_season 87 = .ok (.iconst 1, 1) := by decide +kernel
theorem dX1_season_88 : decode cX1_season 88 = .ok (.iadd, 1) := by decide +kernel
theorem dX1_season_89 : decode cX1_season 89 = .ok (.invokevirtual 119, 3) := by decide +kernel
theorem dX1_season_92 : decode cX1_season 92 = .ok (.ifCond .eq 32, 3) := by decide +kernel
theorem dX1_season_95 : decode cX1_season 95 = .ok (.aload_n 0, 1) := by decide +kernel
theorem dX1_season_96 : decode cX1_season 96 = .ok (.getfield 12, 3) := by decide +kernel
theorem dX1_season_99 : decode cX1_season 99 = .ok (.aload_n 0, 1) := by decide +kernel
theorem dX1_season_100 : decode cX1_season 100 = .ok (.getfield 12, 3) := by decide +kernel
theorem dX1_season_103 : decode cX1_season 103 = .ok (.getfield 122, 3) := by decide +kernel
theorem dX1_season_106 : decode cX1_season 106 = .ok (.iload 7, 2) := by decide +kernel
theorem dX1_season_108 : decode cX1_season 108 = .ok (.iaload, 1) := by decide +kernel
theorem dX1_season_109 : decode cX1_season 109 = .ok (.aload_n 0, 1) := by decide +kernel
theorem dX1_season_110 : decode cX1_season 110 = .ok (.getfield 12, 3) := by decide +kernel
theorem dX1_season_113 : decode cX1_season 113 = .ok (.getfield 122, 3) := by decide +kernel
theorem dX1_season_116 : decode cX1_season 116 = .ok (.iload 7, 2) := by decide +kernel
theorem dX1_season_118 : decode cX1_season 118 = .ok (.iconst 1, 1) := by decide +kernel
theorem dX1_season_119 : decode cX1_season 119 = .ok (.iadd, 1) := by decide +kernel
theorem dX1_season_120 : decode cX1_season 120 = .ok (.iaload, 1) := by decide +kernel
theorem dX1_season_121 : decode cX1_season 121 = .ok (.invokevirtual 99, 3) := by decide +kernel
theorem dX1_season_124 : decode cX1_season 124 = .ok (.aload_n 0, 1) := by decide +kernel
theorem dX1_season_125 : decode cX1_season 125 = .ok (.getfield 12, 3) := by decide +kernel
theorem dX1_season_128 : decode cX1_season 128 = .ok (.invokevirtual 41, 3) := by decide +kernel
theorem dX1_season_131 : decode cX1_season 131 = .ok (.iinc 6 1, 3) := by decide +kernel
theorem dX1_season_134 : decode cX1_season 134 = .ok (.goto (-119), 3) := by decide +kernel
theorem dX1_season_137 : decode cX1_season 137 = .ok (.aload_n 0, 1) := by decide +kernel
theorem dX1_season_138 : decode cX1_season 138 = .ok (.getfield 12, 3) := by decide +kernel
theorem dX1_season_141 : decode cX1_season 141 = .ok (.areturn, 1) := by decide +kernel
set_option maxRecDepth 20000 in
theorem ggX2_init_X5_init : GoodIn wsX2_init wsX5_init := goodIn_r _ [11, 12, 2, 3, 8, 13, 14, 15, 16, 17, 18, 19, 20, 21, 22, 23, 24, 25, 26, 27, 28, 29, 30, 31, 32, 33, 34, 35] (by decide +kernel) (by decide +kernel)
set_option maxRecDepth 20000 in
theorem gX2_init_X5_init_n11 : GoodIn wsX2_init (wsX5_init) := ggX2_init_X5_init
theorem dX2_init_0 : decode cX2_init 0 = .ok (.aload_n 0, 1) := by decide +kernel
theorem dX2_init_1 : decode cX2_init 1 = .ok (.invokespecial 3, 3) := by decide +kernel
theorem dX2_init_4 : decode cX2_init 4 = .ok (.aload_n 0, 1) := by decide +kernel
theorem dX2_init_5 : decode cX2_init 5 = .ok (.new 9, 3) := by decide +kernel
theorem dX2_init_8 : decode cX2_init 8 = .ok (.dup, 1) := by decide +kernel
theorem dX2_init_9 : decode cX2_init 9 = .ok (.invokespecial 11, 3) := by decide +kernel
theorem dX2_init_12 : decode cX2_init 12 = .ok (.putfield 12, 3) := by decide +kernel
theorem dX2_init_15 : decode cX2_init 15 = .ok (.aload_n 0, 1) := by decide +kernel
theorem dX2_init_16 : decode cX2_init 16 = .ok (.bipush 12, 2) := by decide +kernel
theorem dX2_init_18 : decode cX2_init 18 = .ok (.newarray .int, 2) := by decide +kernel
theorem dX2_init_20 : decode cX2_init 20 = .ok (.putfield 18, 3) := by decide +kernel
theorem dX2_init_23 : decode cX2_init 23 = .ok (.return_, 1) := by decide +kernel
theorem dX2_listen_0 : decode cX2_listen 0 = .ok (.aload_n 2, 1) := by decide +kernel
theorem dX2_listen_1 : decode cX2_listen 1 = .ok (.iload_n 3, 1) := by decide +kernel
theorem dX2_listen_2 : decode cX2_listen 2 = .ok (.aload_n 0, 1) := by decide +kernel
theorem dX2_listen_3 : decode cX2_listen 3 = .ok (.getfield 18, 3) := by decide +kernel
theorem dX2_listen_6 : decode cX2_listen 6 = .ok (.iconst 0, 1) := by decide +kernel
theorem dX2_listen_7 : decode cX2_listen 7 = .ok (.iload 4, 2) := by decide +kernel
theorem dX2_listen_9 : decode cX2_listen 9 = .ok (.invokestatic 22, 3) := by decide +kernel
theorem dX2_listen_12 : decode cX2_listen 12 = .ok (.aload_n 0, 1) := by decide +kernel
theorem dX2_listen_13 : decode cX2_listen 13 = .ok (.iload 4, 2) := by decide +kernel
theorem dX2_listen_15 : decode cX2_listen 15 = .ok (.putfield 28, 3) := by decide +kernel
theorem dX2_listen_18 : decode cX2_listen 18 = .ok (.aload_n 0, 1) := by decide +kernel
theorem dX2_listen_19 : decode cX2_listen 19 = .ok (.iload_n 1, 1) := by decide +kernel
theorem dX2_listen_20 : decode cX2_listen 20 = .ok (.putfield 32, 3) := by decide +kernel
theorem dX2_listen_23 : decode cX2_listen 23 = .ok (.return_, 1) := by decide +kernel
set_option maxRecDepth 20000 in
theorem ggX2_isAsTold_X5_pass : GoodIn wsX2_isAsTold wsX5_pass := goodIn_r _ [10, 11, 12, 13, 14, 15, 16, 17, 18, 19, 20, 21, 22, 23, 24, 25, 26, 27, 28, 29, 30, 9, 31, 32, 33, 34, 35, 36, 37, 38, 39, 40, 41, 42, 43, 44, 49, 50, 51, 52, 53, 54, 55, 56, 57, 58, 59, 60, 61, 62, 63] (by decide +kernel) (by decide +kernel)
set_option maxRecDepth 20000 in
theorem gX2_isAsTold_X5_pass : GoodIn wsX2_isAsTold (wsV RX2 35 RX5 yX5_pass wsX5_pass) := goodIn_app (goodIn_of _ (by decide +kernel)) ggX2_isAsTold_X5_pass
theorem dX2_isAsTold_0 : decode cX2_isAsTold 0 = .ok (.iconst 0, 1) := by decide +kernel
theorem dX2_isAsTold_1 : decode cX2_isAsTold 1 = .ok (.istore_n 1, 1) := by decide +kernel
theorem dX2_isAsTold_2 : decode cX2_isAsTold 2 = .ok (.iload_n 1, 1) := by decide +kernel
theorem dX2_isAsTold_3 : decode cX2_isAsTold 3 = .ok (.aload_n 0, 1) := by decide +kernel
theorem dX2_isAsTold_4 : decode cX2_isAsTold 4 = .ok (.getfield 28, 3) := by decide +kernel
theorem dX2_isAsTold_7 : decode cX2_isAsTold 7 = .ok (.if_icmp .ge 39, 3) := by decide +kernel
theorem dX2_isAsTold_10 : decode cX2_isAsTold 10 = .ok (.aload_n 0, 1) := by decide +kernel
theorem dX2_isAsTold_11 : decode cX2_isAsTold 11 = .ok (.getfield 12, 3) := by decide +kernel
theorem dX2_isAsTold_14 : decode cX2_isAsTold 14 = .ok (.invokevirtual 35, 3) := by decide +kernel
theorem dX2_isAsTold_17 : decode cX2_isAsTold 17 = .ok (.aload_n 0, 1) := by decide +kernel
theorem dX2_isAsTold_18 : decode cX2_isAsTold 18 = .ok (.getfield 12, 3) := by decide +kernel
theorem dX2_isAsTold_21 : decode cX2_isAsTold 21 = .ok (.getfield 38, 3) := by decide +kernel
theorem dX2_isAsTold_24 : decode cX2_isAsTold 24 = .ok (.aload_n 0, 1) := by decide +kernel
theorem dX2_isAsTold_25 : decode cX2_isAsTold 25 = .ok (.getfield 32, 3) := by decide +kernel
theorem dX2_isAsTold_28 : decode cX2_isAsTold 28 = .ok (.iaload, 1) := by decide +kernel
theorem dX2_isAsTold_29 : decode cX2_isAsTold 29 = .ok (.aload_n 0, 1) := by decide +kernel
theorem dX2_isAsTold_30 : decode cX2_isAsTold 30 = .ok (.getfield 18, 3) := by decide +kernel
theorem dX2_isAsTold_33 : decode cX2_isAsTold 33 = .ok (.iload_n 1, 1) := by decide +kernel
theorem dX2_isAsTold_34 : decode cX2_isAsTold 34 = .ok (.iaload, 1) := by decide +kernel
theorem dX2_isAsTold_35 : decode cX2_isAsTold 35 = .ok (.if_icmp .eq 5, 3) := by decide +kernel
theorem dX2_isAsTold_38 : decode cX2_isAsTold 38 = .ok (.iconst 0, 1) := by decide +kernel
theorem dX2_isAsTold_39 : decode cX2_isAsTold 39 = .ok (.ireturn, 1) := by decide +kernel
theorem dX2_isAsTold_40 : decode cX2_isAsTold 40 = .ok (.iinc 1 1, 3) := by decide +kernel
theorem dX2_isAsTold_43 : decode cX2_isAsTold 43 = .ok (.goto (-41), 3) := by decide +kernel
theorem dX2_isAsTold_46 : decode cX2_isAsTold 46 = .ok (.iconst 1, 1) := by decide +kernel
theorem dX2_isAsTold_47 : decode cX2_isAsTold 47 = .ok (.ireturn, 1) := by decide +kernel
set_option maxRecDepth 20000 in
theorem ggX2_sorts_X5_become : GoodIn wsX2_sorts wsX5_become := goodIn_r _ [8, 9, 10, 11, 12, 13, 14, 15, 16, 17, 18, 19, 20, 21, 22, 23, 24, 25, 26, 64, 65, 66, 67, 68, 69, 70, 71, 72, 73, 74, 75, 76, 77, 78] (by decide +kernel) (by decide +kernel)
set_option maxRecDepth 20000 in
theorem gX2_sorts_X5_become : GoodIn wsX2_sorts (wsV RX2 41 RX5 yX5_become wsX5_become) := goodIn_app (goodIn_of _ (by decide +kernel)) ggX2_sorts_X5_become
set_option maxRecDepth 20000 in
theorem ggX2_sorts_X2_isAsTold : GoodIn wsX2_sorts wsX2_isAsTold := goodIn_r _ [31, 32, 1, 33, 3, 34, 35, 36, 37, 7, 38, 9, 39, 24, 23, 16, 22, 13, 40, 41, 42, 43, 44, 45, 46, 47, 14, 12, 48, 49, 50, 51, 15, 52, 53, 54, 55, 25, 21, 11, 56, 57, 58, 59, 26, 60, 61, 62, 63, 64, 65, 66, 67, 68, 69, 70, 71, 72, 73, 74, 75, 76, 77, 78] (by decide +kernel) (by decide +kernel)
set_option maxRecDepth 20000 in
theorem gX2_sorts_X2_isAsTold : GoodIn wsX2_sorts (wsV RX2 48 RX2 yX2_isAsTold wsX2_isAsTold) := goodIn_app (goodIn_of _ (by decide +kernel)) ggX2_sorts_X2_isAsTold
theorem dX2_sorts_0 : decode cX2_sorts 0 = .ok (.iconst 0, 1) := by decide +kernel
theorem dX2_sorts_1 : decode cX2_sorts 1 = .ok (.istore_n 2, 1) := by decide +kernel
theorem dX2_sorts_2 : decode cX2_sorts 2 = .ok (.iconst 1, 1) := by decide +kernel
theorem dX2_sorts_3 : decode cX2_sorts 3 = .ok (.istore_n 3, 1) := by decide +kernel
theorem dX2_sorts_4 : decode cX2_sorts 4 = .ok (.iload_n 3, 1) := by decide +kernel
theorem dX2_sorts_5 : decode cX2_sorts 5 = .ok (.iconst 5, 1) := by decide +kernel
theorem dX2_sorts_6 : decode cX2_sorts 6 = .ok (.if_icmp .gt 47, 3) := by decide +kernel
theorem dX2_sorts_9 : decode cX2_sorts 9 = .ok (.aload_n 0, 1) := by decide +kernel
theorem dX2_sorts_10 : decode cX2_sorts 10 = .ok (.getfield 12, 3) := by decide +kernel
theorem dX2_sorts_13 : decode cX2_sorts 13 = .ok (.aload_n 1, 1) := by decide +kernel
theorem dX2_sorts_14 : decode cX2_sorts 14 = .ok (.invokevirtual 41, 3) := by decide +kernel
theorem dX2_sorts_17 : decode cX2_sorts 17 = .ok (.aload_n 0, 1) := by decide +kernel
theorem dX2_sorts_18 : decode cX2_sorts 18 = .ok (.getfield 12, 3) := by decide +kernel
theorem dX2_sorts_21 : decode cX2_sorts 21 = .ok (.getfield 45, 3) := by decide +kernel
theorem dX2_sorts_24 : decode cX2_sorts 24 = .ok (.aload_n 0, 1) := by decide +kernel
theorem dX2_sorts_25 : decode cX2_sorts 25 = .ok (.getfield 32, 3) := by decide +kernel
theorem dX2_sorts_28 : decode cX2_sorts 28 = .ok (.iload_n 3, 1) := by decide +kernel
theorem dX2_sorts_29 : decode cX2_sorts 29 = .ok (.iastore, 1) := by decide +kernel
theorem dX2_sorts_30 : decode cX2_sorts 30 = .ok (.iload_n 2, 1) := by decide +kernel
theorem dX2_sorts_31 : decode cX2_sorts 31 = .ok (.aload_n 0, 1) := by decide +kernel
theorem dX2_sorts_32 : decode cX2_sorts 32 = .ok (.invokevirtual 48, 3) := by decide +kernel
theorem dX2_sorts_35 : decode cX2_sorts 35 = .ok (.ifCond .eq 9, 3) := by decide +kernel
theorem dX2_sorts_38 : decode cX2_sorts 38 = .ok (.iconst 1, 1) := by decide +kernel
theorem dX2_sorts_39 : decode cX2_sorts 39 = .ok (.iload_n 3, 1) := by decide +kernel
theorem dX2_sorts_40 : decode cX2_sorts 40 = .ok (.ishl, 1) := by decide +kernel
theorem dX2_sorts_41 : decode cX2_sorts 41 = .ok (.goto 4, 3) := by decide +kernel
theorem dX2_sorts_44 : decode cX2_sorts 44 = .ok (.iconst 0, 1) := by decide +kernel
theorem dX2_sorts_45 : decode cX2_sorts 45 = .ok (.ior, 1) := by decide +kernel
theorem dX2_sorts_46 : decode cX2_sorts 46 = .ok (.istore_n 2, 1) := by decide +kernel
theorem dX2_sorts_47 : decode cX2_sorts 47 = .ok (.iinc 3 1, 3) := by decide +kernel
theorem dX2_sorts_50 : decode cX2_sorts 50 = .ok (.goto (-46), 3) := by decide +kernel
theorem dX2_sorts_53 : decode cX2_sorts 53 = .ok (.iload_n 2, 1) := by decide +kernel
theorem dX2_sorts_54 : decode cX2_sorts 54 = .ok (.ireturn, 1) := by decide +kernel
set_option maxRecDepth 20000 in
theorem ggX2_starts_X5_become : GoodIn wsX2_starts wsX5_become := goodIn_r _ [8, 9, 10, 11, 12, 13, 14, 15, 16, 17, 18, 19, 20, 21, 22, 23, 24, 25, 26, 64, 65, 66, 67, 68, 69, 70, 71, 72, 73, 74, 75, 76, 77, 78] (by decide +kernel) (by decide +kernel)
set_option maxRecDepth 20000 in
theorem gX2_starts_X5_become : GoodIn wsX2_starts (wsV RX2 41 RX5 yX5_become wsX5_become) := goodIn_app (goodIn_of _ (by decide +kernel)) ggX2_starts_X5_become
set_option maxRecDepth 20000 in
theorem ggX2_starts_X2_isAsTold : GoodIn wsX2_starts wsX2_isAsTold := goodIn_r _ [31, 32, 1, 33, 3, 34, 35, 36, 37, 7, 38, 9, 39, 24, 23, 16, 22, 13, 40, 41, 42, 43, 44, 45, 46, 47, 14, 12, 48, 49, 50, 51, 15, 52, 53, 54, 55, 25, 21, 11, 56, 57, 58, 59, 26, 60, 61, 62, 63, 64, 65, 66, 67, 68, 69, 70, 71, 72, 73, 74, 75, 76, 77, 78] (by decide +kernel) (by decide +kernel)
set_option maxRecDepth 20000 in
theorem gX2_starts_X2_isAsTold : GoodIn wsX2_starts (wsV RX2 48 RX2 yX2_isAsTold wsX2_isAsTold) := goodIn_app (goodIn_of _ (by decide +kernel)) ggX2_starts_X2_isAsTold
theorem dX2_starts_0 : decode cX2_starts 0 = .ok (.iconst 0, 1) := by decide +kernel
theorem dX2_starts_1 : decode cX2_starts 1 = .ok (.istore_n 2, 1) := by decide +kernel
theorem dX2_starts_2 : decode cX2_starts 2 = .ok (.iconst 0, 1) := by decide +kernel
theorem dX2_starts_3 : decode cX2_starts 3 = .ok (.istore_n 3, 1) := by decide +kernel
theorem dX2_starts_4 : decode cX2_starts 4 = .ok (.iload_n 3, 1) := by decide +kernel
theorem dX2_starts_5 : decode cX2_starts 5 = .ok (.bipush 10, 2) := by decide +kernel
theorem dX2_starts_7 : decode cX2_starts 7 = .ok (.if_icmp .ge 47, 3) := by decide +kernel
theorem dX2_starts_10 : decode cX2_starts 10 = .ok (.aload_n 0, 1) := by decide +kernel
theorem dX2_starts_11 : decode cX2_starts 11 = .ok (.getfield 12, 3) := by decide +kernel
theorem dX2_starts_14 : decode cX2_starts 14 = .ok (.aload_n 1, 1) := by decide +kernel
theorem dX2_starts_15 : decode cX2_starts 15 = .ok (.invokevirtual 41, 3) := by decide +kernel
theorem dX2_starts_18 : decode cX2_starts 18 = .ok (.aload_n 0, 1) := by decide +kernel
theorem dX2_starts_19 : decode cX2_starts 19 = .ok (.getfield 12, 3) := by decide +kernel
theorem dX2_starts_22 : decode cX2_starts 22 = .ok (.getfield 52, 3) := by decide +kernel
theorem dX2_starts_25 : decode cX2_starts 25 = .ok (.aload_n 0, 1) := by decide +kernel
theorem dX2_starts_26 : decode cX2_starts 26 = .ok (.getfield 32, 3) := by decide +kernel
theorem dX2_starts_29 : decode cX2_starts 29 = .ok (.iload_n 3, 1) := by decide +kernel
theorem dX2_starts_30 : decode cX2_starts 30 = .ok (.iastore, 1) := by decide +kernel
theorem dX2_starts_31 : decode cX2_starts 31 = .ok (.iload_n 2, 1) := by decide +kernel
theorem dX2_starts_32 : decode cX2_starts 32 = .ok (.aload_n 0, 1) := by decide +kernel
theorem dX2_starts_33 : decode cX2_starts 33 = .ok (.invokevirtual 48, 3) := by decide +kernel
theorem dX2_starts_36 : decode cX2_starts 36 = .ok (.ifCond .eq 9, 3) := by decide +kernel
theorem dX2_starts_39 : decode cX2_starts 39 = .ok (.iconst 1, 1) := by decide +kernel
theorem dX2_starts_40 : decode cX2_starts 40 = .ok (.iload_n 3, 1) := by decide +kernel
theorem dX2_starts_41 : decode cX2_starts 41 = .ok (.ishl, 1) := by decide +kernel
theorem dX2_starts_42 : decode cX2_starts 42 = .ok (.goto 4, 3) := by decide +kernel
theorem dX2_starts_45 : decode cX2_starts 45 = .ok (.iconst 0, 1) := by decide +kernel
theorem dX2_starts_46 : decode cX2_starts 46 = .ok (.ior, 1) := by decide +kernel
theorem dX2_starts_47 : decode cX2_starts 47 = .ok (.istore_n 2, 1) := by decide +kernel
theorem dX2_starts_48 : decode cX2_starts 48 = .ok (.iinc 3 1, 3) := by decide +kernel
theorem dX2_starts_51 : decode cX2_starts 51 = .ok (.goto (-47), 3) := by decide +kernel
theorem dX2_starts_54 : decode cX2_starts 54 = .ok (.iload_n 2, 1) := by decide +kernel
theorem dX2_starts_55 : decode cX2_starts 55 = .ok (.ireturn, 1) := by decide +kernel
set_option maxRecDepth 20000 in
theorem ggX2_hymnsHeard_X5_become : GoodIn wsX2_hymnsHeard wsX5_become := goodIn_r _ [7, 8, 9, 10, 11, 12, 13, 14, 15, 16, 17, 18, 19, 20, 21, 22, 23, 24, 25, 64, 65, 66, 67, 68, 69, 70, 71, 72, 73, 74, 75, 76, 77, 78] (by decide +kernel) (by decide +kernel)
set_option maxRecDepth 20000 in
theorem gX2_hymnsHeard_X5_become : GoodIn wsX2_hymnsHeard (wsV RX2 41 RX5 yX5_become wsX5_become) := goodIn_app (goodIn_of _ (by decide +kernel)) ggX2_hymnsHeard_X5_become
set_option maxRecDepth 20000 in
theorem ggX2_hymnsHeard_X2_isAsTold : GoodIn wsX2_hymnsHeard wsX2_isAsTold := goodIn_r _ [30, 31, 1, 32, 33, 34, 35, 36, 37, 6, 38, 8, 39, 23, 22, 15, 21, 12, 40, 41, 42, 43, 44, 45, 46, 47, 13, 11, 48, 49, 50, 51, 14, 52, 53, 54, 55, 24, 20, 10, 56, 57, 58, 59, 25, 60, 61, 62, 63, 64, 65, 66, 67, 68, 69, 70, 71, 72, 73, 74, 75, 76, 77, 78] (by decide +kernel) (by decide +kernel)
set_option maxRecDepth 20000 in
theorem gX2_hymnsHeard_X2_isAsTold : GoodIn wsX2_hymnsHeard (wsV RX2 48 RX2 yX2_isAsTold wsX2_isAsTold) := goodIn_app (goodIn_of _ (by decide +kernel)) ggX2_hymnsHeard_X2_isAsTold
theorem dX2_hymnsHeard_0 : decode cX2_hymnsHeard 0 = .ok (.iconst 0, 1) := by decide +kernel
theorem dX2_hymnsHeard_1 : decode cX2_hymnsHeard 1 = .ok (.istore_n 2, 1) := by decide +kernel
theorem dX2_hymnsHeard_2 : decode cX2_hymnsHeard 2 = .ok (.iconst 0, 1) := by decide +kernel
theorem dX2_hymnsHeard_3 : decode cX2_hymnsHeard 3 = .ok (.istore_n 3, 1) := by decide +kernel
theorem dX2_hymnsHeard_4 : decode cX2_hymnsHeard 4 = .ok (.iload_n 3, 1) := by decide +kernel
theorem dX2_hymnsHeard_5 : decode cX2_hymnsHeard 5 = .ok (.bipush 16, 2) := by decide +kernel
theorem dX2_hymnsHeard_7 : decode cX2_hymnsHeard 7 = .ok (.if_icmp .ge 42, 3) := by decide +kernel
theorem dX2_hymnsHeard_10 : decode cX2_hymnsHeard 10 = .ok (.aload_n 0, 1) := by decide +kernel
theorem dX2_hymnsHeard_11 : decode cX2_hymnsHeard 11 = .ok (.getfield 12, 3) := by decide +kernel
theorem dX2_hymnsHeard_14 : decode cX2_hymnsHeard 14 = .ok (.aload_n 1, 1) := by decide +kernel
theorem dX2_hymnsHeard_15 : decode cX2_hymnsHeard 15 = .ok (.invokevirtual 41, 3) := by decide +kernel
theorem dX2_hymnsHeard_18 : decode cX2_hymnsHeard 18 = .ok (.aload_n 0, 1) := by decide +kernel
theorem dX2_hymnsHeard_19 : decode cX2_hymnsHeard 19 = .ok (.getfield 12, 3) := by decide +kernel
theorem dX2_hymnsHeard_22 : decode cX2_hymnsHeard 22 = .ok (.iload_n 3, 1) := by decide +kernel
theorem dX2_hymnsHeard_23 : decode cX2_hymnsHeard 23 = .ok (.putfield 55, 3) := by decide +kernel
theorem dX2_hymnsHeard_26 : decode cX2_hymnsHeard 26 = .ok (.iload_n 2, 1) := by decide +kernel
theorem dX2_hymnsHeard_27 : decode cX2_hymnsHeard 27 = .ok (.aload_n 0, 1) := by decide +kernel
theorem dX2_hymnsHeard_28 : decode cX2_hymnsHeard 28 = .ok (.invokevirtual 48, 3) := by decide +kernel
theorem dX2_hymnsHeard_31 : decode cX2_hymnsHeard 31 = .ok (.ifCond .eq 9, 3) := by decide +kernel
theorem dX2_hymnsHeard_34 : decode cX2_hymnsHeard 34 = .ok (.iconst 1, 1) := by decide +kernel
theorem dX2_hymnsHeard_35 : decode cX2_hymnsHeard 35 = .ok (.iload_n 3, 1) := by decide +kernel
theorem dX2_hymnsHeard_36 : decode cX2_hymnsHeard 36 = .ok (.ishl, 1) := by decide +kernel
theorem dX2_hymnsHeard_37 : decode cX2_hymnsHeard 37 = .ok (.goto 4, 3) := by decide +kernel
theorem dX2_hymnsHeard_40 : decode cX2_hymnsHeard 40 = .ok (.iconst 0, 1) := by decide +kernel
theorem dX2_hymnsHeard_41 : decode cX2_hymnsHeard 41 = .ok (.ior, 1) := by decide +kernel
theorem dX2_hymnsHeard_42 : decode cX2_hymnsHeard 42 = .ok (.istore_n 2, 1) := by decide +kernel
theorem dX2_hymnsHeard_43 : decode cX2_hymnsHeard 43 = .ok (.iinc 3 1, 3) := by decide +kernel
theorem dX2_hymnsHeard_46 : decode cX2_hymnsHeard 46 = .ok (.goto (-42), 3) := by decide +kernel
theorem dX2_hymnsHeard_49 : decode cX2_hymnsHeard 49 = .ok (.iload_n 2, 1) := by decide +kernel
theorem dX2_hymnsHeard_50 : decode cX2_hymnsHeard 50 = .ok (.ireturn, 1) := by decide +kernel
set_option maxRecDepth 20000 in
theorem ggX2_wells_X2_isWell : GoodIn wsX2_wells wsX2_isWell := goodIn_r _ [5, 6, 7, 8, 9, 10, 11, 12, 13, 14, 15, 16, 17, 18, 19, 20, 21, 22, 23, 24, 25, 26, 27, 28, 29, 30, 31, 32, 33, 34, 4, 35, 36, 37, 38, 39, 40, 41, 42, 43, 44, 45, 46, 47, 48, 49, 50, 51, 52, 53, 54, 55, 56, 57, 58, 59, 60, 61, 62, 63, 64, 65, 66, 67, 68, 69, 70, 71, 72, 73, 74, 75, 76, 77, 78, 79, 80, 81, 82] (by decide +kernel) (by decide +kernel)
set_option maxRecDepth 20000 in
theorem gX2_wells_X2_isWell : GoodIn wsX2_wells (wsV RX2 58 RX2 yX2_isWell wsX2_isWell) := goodIn_app (goodIn_of _ (by decide +kernel)) ggX2_wells_X2_isWell
theorem dX2_wells_0 : decode cX2_wells 0 = .ok (.iconst 0, 1) := by decide +kernel
theorem dX2_wells_1 : decode cX2_wells 1 = .ok (.istore_n 2, 1) := by decide +kernel
theorem dX2_wells_2 : decode cX2_wells 2 = .ok (.iconst 0, 1) := by decide +kernel
theorem dX2_wells_3 : decode cX2_wells 3 = .ok (.istore_n 3, 1) := by decide +kernel
theorem dX2_wells_4 : decode cX2_wells 4 = .ok (.iload_n 3, 1) := by decide +kernel
theorem dX2_wells_5 : decode cX2_wells 5 = .ok (.bipush 100, 2) := by decide +kernel
theorem dX2_wells_7 : decode cX2_wells 7 = .ok (.if_icmp .ge 26, 3) := by decide +kernel
theorem dX2_wells_10 : decode cX2_wells 10 = .ok (.iload_n 2, 1) := by decide +kernel
theorem dX2_wells_11 : decode cX2_wells 11 = .ok (.aload_n 0, 1) := by decide +kernel
theorem dX2_wells_12 : decode cX2_wells 12 = .ok (.aload_n 1, 1) := by decide +kernel
theorem dX2_wells_13 : decode cX2_wells 13 = .ok (.iload_n 3, 1) := by decide +kernel
theorem dX2_wells_14 : decode cX2_wells 14 = .ok (.invokevirtual 58, 3) := by decide +kernel
theorem dX2_wells_17 : decode cX2_wells 17 = .ok (.ifCond .eq 7, 3) := by decide +kernel
theorem dX2_wells_20 : decode cX2_wells 20 = .ok (.iconst 1, 1) := by decide +kernel
theorem dX2_wells_21 : decode cX2_wells 21 = .ok (.goto 4, 3) := by decide +kernel
theorem dX2_wells_24 : decode cX2_wells 24 = .ok (.iconst 0, 1) := by decide +kernel
theorem dX2_wells_25 : decode cX2_wells 25 = .ok (.iadd, 1) := by decide +kernel
theorem dX2_wells_26 : decode cX2_wells 26 = .ok (.istore_n 2, 1) := by decide +kernel
theorem dX2_wells_27 : decode cX2_wells 27 = .ok (.iinc 3 1, 3) := by decide +kernel
theorem dX2_wells_30 : decode cX2_wells 30 = .ok (.goto (-26), 3) := by decide +kernel
theorem dX2_wells_33 : decode cX2_wells 33 = .ok (.iload_n 2, 1) := by decide +kernel
theorem dX2_wells_34 : decode cX2_wells 34 = .ok (.ireturn, 1) := by decide +kernel
set_option maxRecDepth 20000 in
theorem ggX2_leastWell_X2_isWell : GoodIn wsX2_leastWell wsX2_isWell := goodIn_r _ [6, 7, 8, 9, 10, 11, 12, 13, 14, 15, 16, 17, 18, 19, 20, 21, 22, 23, 24, 25, 26, 27, 28, 29, 30, 31, 32, 33, 34, 35, 5, 36, 37, 38, 39, 40, 41, 42, 43, 44, 45, 46, 47, 48, 49, 50, 51, 52, 53, 54, 55, 56, 57, 58, 59, 60, 61, 62, 63, 64, 65, 66, 67, 68, 69, 70, 71, 72, 73, 74, 75, 76, 77, 78, 79, 80, 81, 82, 83] (by decide +kernel) (by decide +kernel)
set_option maxRecDepth 20000 in
theorem gX2_leastWell_X2_isWell : GoodIn wsX2_leastWell (wsV RX2 58 RX2 yX2_isWell wsX2_isWell) := goodIn_app (goodIn_of _ (by decide +kernel)) ggX2_leastWell_X2_isWell
theorem dX2_leastWell_0 : decode cX2_leastWell 0 = .ok (.iconst 0, 1) := by decide +kernel
theorem dX2_leastWell_1 : decode cX2_leastWell 1 = .ok (.istore_n 2, 1) := by decide +kernel
theorem dX2_leastWell_2 : decode cX2_leastWell 2 = .ok (.iload_n 2, 1) := by decide +kernel
theorem dX2_leastWell_3 : decode cX2_leastWell 3 = .ok (.bipush 100, 2) := by decide +kernel
theorem dX2_leastWell_5 : decode cX2_leastWell 5 = .ok (.if_icmp .ge 20, 3) := by decide +kernel
theorem dX2_leastWell_8 : decode cX2_leastWell 8 = .ok (.aload_n 0, 1) := by decide +kernel
theorem dX2_leastWell_9 : decode cX2_leastWell 9 = .ok (.aload_n 1, 1) := by decide +kernel
theorem dX2_leastWell_10 : decode cX2_leastWell 10 = .ok (.iload_n 2, 1) := by decide +kernel
theorem dX2_leastWell_11 : decode cX2_leastWell 11 = .ok (.invokevirtual 58, 3) := by decide +kernel
theorem dX2_leastWell_14 : decode cX2_leastWell 14 = .ok (.ifCond .eq 5, 3) := by decide +kernel
theorem dX2_leastWell_17 : decode cX2_leastWell 17 = .ok (.iload_n 2, 1) := by decide +kernel
theorem dX2_leastWell_18 : decode cX2_leastWell 18 = .ok (.ireturn, 1) := by decide +kernel
theorem dX2_leastWell_19 : decode cX2_leastWell 19 = .ok (.iinc 2 1, 3) := by decide +kernel
theorem dX2_leastWell_22 : decode cX2_leastWell 22 = .ok (.goto (-20), 3) := by decide +kernel
theorem dX2_leastWell_25 : decode cX2_leastWell 25 = .ok (.ldc 62, 2) := by decide +kernel
theorem dX2_leastWell_27 : decode cX2_leastWell 27 = .ok (.ireturn, 1) := by decide +kernel
set_option maxRecDepth 20000 in
theorem ggX2_isWell_X5_become : GoodIn wsX2_isWell wsX5_become := goodIn_r _ [8, 9, 10, 11, 12, 13, 14, 15, 16, 17, 18, 19, 20, 21, 22, 23, 24, 25, 26, 64, 65, 66, 67, 68, 69, 70, 71, 72, 73, 74, 75, 76, 77, 78] (by decide +kernel) (by decide +kernel)
set_option maxRecDepth 20000 in
theorem gX2_isWell_X5_become : GoodIn wsX2_isWell (wsV RX2 41 RX5 yX5_become wsX5_become) := goodIn_app (goodIn_of _ (by decide +kernel)) ggX2_isWell_X5_become
set_option maxRecDepth 20000 in
theorem ggX2_isWell_X2_isAsTold : GoodIn wsX2_isWell wsX2_isAsTold := goodIn_r _ [31, 32, 1, 33, 3, 34, 35, 36, 37, 7, 38, 9, 39, 24, 23, 16, 22, 13, 40, 41, 42, 43, 44, 45, 46, 47, 14, 12, 48, 49, 50, 51, 15, 52, 53, 54, 55, 25, 21, 11, 56, 57, 58, 59, 26, 60, 61, 62, 63, 64, 65, 66, 67, 68, 69, 70, 71, 72, 73, 74, 75, 76, 77, 78] (by decide +kernel) (by decide +kernel)
set_option maxRecDepth 20000 in
theorem gX2_isWell_X2_isAsTold : GoodIn wsX2_isWell (wsV RX2 48 RX2 yX2_isAsTold wsX2_isAsTold) := goodIn_app (goodIn_of _ (by decide +kernel)) ggX2_isWell_X2_isAsTold
theorem dX2_isWell_0 : decode cX2_isWell 0 = .ok (.aload_n 0, 1) := by decide +kernel
theorem dX2_isWell_1 : decode cX2_isWell 1 = .ok (.getfield 12, 3) := by decide +kernel
theorem dX2_isWell_4 : decode cX2_isWell 4 = .ok (.aload_n 1, 1) := by decide +kernel
theorem dX2_isWell_5 : decode cX2_isWell 5 = .ok (.invokevirtual 41, 3) := by decide +kernel
theorem dX2_isWell_8 : decode cX2_isWell 8 = .ok (.aload_n 0, 1) := by decide +kernel
theorem dX2_isWell_9 : decode cX2_isWell 9 = .ok (.getfield 12, 3) := by decide +kernel
theorem dX2_isWell_12 : decode cX2_isWell 12 = .ok (.getfield 63, 3) := by decide +kernel
theorem dX2_isWell_15 : decode cX2_isWell 15 = .ok (.aload_n 0, 1) := by decide +kernel
theorem dX2_isWell_16 : decode cX2_isWell 16 = .ok (.getfield 32, 3) := by decide +kernel
theorem dX2_isWell_19 : decode cX2_isWell 19 = .ok (.iload_n 2, 1) := by decide +kernel
theorem dX2_isWell_20 : decode cX2_isWell 20 = .ok (.iastore, 1) := by decide +kernel
theorem dX2_isWell_21 : decode cX2_isWell 21 = .ok (.aload_n 0, 1) := by decide +kernel
theorem dX2_isWell_22 : decode cX2_isWell 22 = .ok (.invokevirtual 48, 3) := by decide +kernel
theorem dX2_isWell_25 : decode cX2_isWell 25 = .ok (.ireturn, 1) := by decide +kernel
set_option maxRecDepth 20000 in
theorem ggX3_init_X5_init : GoodIn wsX3_init wsX5_init := goodIn_r _ [11, 12, 2, 3, 8, 13, 14, 15, 16, 17, 18, 19, 20, 21, 22, 23, 24, 25, 26, 27, 28, 29, 30, 31, 32, 33, 34, 35] (by decide +kernel) (by decide +kernel)
set_option maxRecDepth 20000 in
theorem gX3_init_X5_init_n11 : GoodIn wsX3_init (wsX5_init) := ggX3_init_X5_init
theorem dX3_init_0 : decode cX3_init 0 = .ok (.aload_n 0, 1) := by decide +kernel
theorem dX3_init_1 : decode cX3_init 1 = .ok (.invokespecial 3, 3) := by decide +kernel
theorem dX3_init_4 : decode cX3_init 4 = .ok (.aload_n 0, 1) := by decide +kernel
theorem dX3_init_5 : decode cX3_init 5 = .ok (.new 9, 3) := by decide +kernel
theorem dX3_init_8 : decode cX3_init 8 = .ok (.dup, 1) := by decide +kernel
theorem dX3_init_9 : decode cX3_init 9 = .ok (.invokespecial 11, 3) := by decide +kernel
theorem dX3_init_12 : decode cX3_init 12 = .ok (.putfield 12, 3) := by decide +kernel
theorem dX3_init_15 : decode cX3_init 15 = .ok (.aload_n 0, 1) := by decide +kernel
theorem dX3_init_16 : decode cX3_init 16 = .ok (.bipush 110, 2) := by decide +kernel
theorem dX3_init_18 : decode cX3_init 18 = .ok (.newarray .int, 2) := by decide +kernel
theorem dX3_init_20 : decode cX3_init 20 = .ok (.putfield 18, 3) := by decide +kernel
theorem dX3_init_23 : decode cX3_init 23 = .ok (.return_, 1) := by decide +kernel
theorem dX3_take_0 : decode cX3_take 0 = .ok (.aload_n 0, 1) := by decide +kernel
theorem dX3_take_1 : decode cX3_take 1 = .ok (.getfield 22, 3) := by decide +kernel
theorem dX3_take_4 : decode cX3_take 4 = .ok (.bipush 110, 2) := by decide +kernel
theorem dX3_take_6 : decode cX3_take 6 = .ok (.if_icmp .lt 5, 3) := by decide +kernel
theorem dX3_take_9 : decode cX3_take 9 = .ok (.iconst 0, 1) := by decide +kernel
theorem dX3_take_10 : decode cX3_take 10 = .ok (.ireturn, 1) := by decide +kernel
theorem dX3_take_11 : decode cX3_take 11 = .ok (.aload_n 0, 1) := by decide +kernel
theorem dX3_take_12 : decode cX3_take 12 = .ok (.getfield 18, 3) := by decide +kernel
theorem dX3_take_15 : decode cX3_take 15 = .ok (.aload_n 0, 1) := by decide +kernel
theorem dX3_take_16 : decode cX3_take 16 = .ok (.getfield 22, 3) := by decide +kernel
theorem dX3_take_19 : decode cX3_take 19 = .ok (.iload_n 1, 1) := by decide +kernel
theorem dX3_take_20 : decode cX3_take 20 = .ok (.iastore, 1) := by decide +kernel
theorem dX3_take_21 : decode cX3_take 21 = .ok (.aload_n 0, 1) := by decide +kernel
theorem dX3_take_22 : decode cX3_take 22 = .ok (.dup, 1) := by decide +kernel
theorem dX3_take_23 : decode cX3_take 23 = .ok (.getfield 22, 3) := by decide +kernel
theorem dX3_take_26 : decode cX3_take 26 = .ok (.iconst 1, 1) := by decide +kernel
theorem dX3_take_27 : decode cX3_take 27 = .ok (.iadd, 1) := by decide +kernel
theorem dX3_take_28 : decode cX3_take 28 = .ok (.putfield 22, 3) := by decide +kernel
theorem dX3_take_31 : decode cX3_take 31 = .ok (.iconst 1, 1) := by decide +kernel
theorem dX3_take_32 : decode cX3_take 32 = .ok (.ireturn, 1) := by decide +kernel
set_option maxRecDepth 20000 in
theorem ggX3_read_X3_readLaw : GoodIn wsX3_read wsX3_readLaw := goodIn_r _ [10, 2, 11, 12, 13, 14, 15, 9, 16, 1, 5, 17, 18, 19, 20, 21, 22, 23, 24, 25, 26, 27, 28, 29, 51, 52, 53, 54, 55, 56, 57, 58, 59, 60, 61, 62, 63, 64, 65, 66, 67, 68, 69, 70] (by decide +kernel) (by decide +kernel)
set_option maxRecDepth 20000 in
theorem gX3_read_X3_readLaw : GoodIn wsX3_read (wsV RX3 35 RX3 yX3_readLaw wsX3_readLaw) := goodIn_app (goodIn_of _ (by decide +kernel)) ggX3_read_X3_readLaw
set_option maxRecDepth 20000 in
theorem ggX3_read_X3_readGuest : GoodIn wsX3_read wsX3_readGuest := goodIn_r _ [33, 1, 5, 17, 2, 3, 34, 35, 9, 36, 18, 19, 20, 21, 22, 23, 24, 25, 26, 27, 28, 29, 13, 14, 15, 16, 37, 38, 39, 40, 41, 42, 43, 44, 45, 46, 47, 48, 49, 50, 51, 52, 53, 54, 55, 56, 57, 58, 59, 60, 61, 62, 63, 64, 65, 66, 67, 68, 69, 70] (by decide +kernel) (by decide +kernel)
set_option maxRecDepth 20000 in
theorem gX3_read_X3_readGuest : GoodIn wsX3_read (wsV RX3 39 RX3 yX3_readGuest wsX3_readGuest) := goodIn_app (goodIn_of _ (by decide +kernel)) ggX3_read_X3_readGuest
theorem dX3_read_0 : decode cX3_read 0 = .ok (.aload_n 0, 1) := by decide +kernel
theorem dX3_read_1 : decode cX3_read 1 = .ok (.iconst 0, 1) := by decide +kernel
theorem dX3_read_2 : decode cX3_read 2 = .ok (.putfield 26, 3) := by decide +kernel
theorem dX3_read_5 : decode cX3_read 5 = .ok (.aload_n 0, 1) := by decide +kernel
theorem dX3_read_6 : decode cX3_read 6 = .ok (.getfield 12, 3) := by decide +kernel
theorem dX3_read_9 : decode cX3_read 9 = .ok (.iconst 0, 1) := by decide +kernel
theorem dX3_read_10 : decode cX3_read 10 = .ok (.putfield 29, 3) := by decide +kernel
theorem dX3_read_13 : decode cX3_read 13 = .ok (.aload_n 0, 1) := by decide +kernel
theorem dX3_read_14 : decode cX3_read 14 = .ok (.getfield 12, 3) := by decide +kernel
theorem dX3_read_17 : decode cX3_read 17 = .ok (.iconst 0, 1) := by decide +kernel
theorem dX3_read_18 : decode cX3_read 18 = .ok (.putfield 32, 3) := by decide +kernel
theorem dX3_read_21 : decode cX3_read 21 = .ok (.aload_n 0, 1) := by decide +kernel
theorem dX3_read_22 : decode cX3_read 22 = .ok (.invokevirtual 35, 3) := by decide +kernel
theorem dX3_read_25 : decode cX3_read 25 = .ok (.ifCond .eq 14, 3) := by decide +kernel
theorem dX3_read_28 : decode cX3_read 28 = .ok (.aload_n 0, 1) := by decide +kernel
theorem dX3_read_29 : decode cX3_read 29 = .ok (.invokevirtual 39, 3) := by decide +kernel
theorem dX3_read_32 : decode cX3_read 32 = .ok (.ifCond .eq 7, 3) := by decide +kernel
theorem dX3_read_35 : decode cX3_read 35 = .ok (.iconst 1, 1) := by decide +kernel
theorem dX3_read_36 : decode cX3_read 36 = .ok (.goto 4, 3) := by decide +kernel
theorem dX3_read_39 : decode cX3_read 39 = .ok (.iconst 0, 1) := by decide +kernel
theorem dX3_read_40 : decode cX3_read 40 = .ok (.istore_n 1, 1) := by decide +kernel
theorem dX3_read_41 : decode cX3_read 41 = .ok (.iconst 0, 1) := by decide +kernel
theorem dX3_read_42 : decode cX3_read 42 = .ok (.istore_n 2, 1) := by decide +kernel
theorem dX3_read_43 : decode cX3_read 43 = .ok (.iload_n 2, 1) := by decide +kernel
theorem dX3_read_44 : decode cX3_read 44 = .ok (.bipush 110, 2) := by decide +kernel
theorem dX3_read_46 : decode cX3_read 46 = .ok (.if_icmp .ge 29, 3) := by decide +kernel
theorem dX3_read_49 : decode cX3_read 49 = .ok (.iload_n 1, 1) := by decide +kernel
theorem dX3_read_50 : decode cX3_read 50 = .ok (.ifCond .eq 25, 3) := by decide +kernel
theorem dX3_read_53 : decode cX3_read 53 = .ok (.aload_n 0, 1) := by decide +kernel
theorem dX3_read_54 : decode cX3_read 54 = .ok (.getfield 26, 3) := by decide +kernel
theorem dX3_read_57 : decode cX3_read 57 = .ok (.aload_n 0, 1) := by decide +kernel
theorem dX3_read_58 : decode cX3_read 58 = .ok (.getfield 22, 3) := by decide +kernel
theorem dX3_read_61 : decode cX3_read 61 = .ok (.if_icmp .ge 14, 3) := by decide +kernel
theorem dX3_read_64 : decode cX3_read 64 = .ok (.aload_n 0, 1) := by decide +kernel
theorem dX3_read_65 : decode cX3_read 65 = .ok (.invokevirtual 39, 3) := by decide +kernel
theorem dX3_read_68 : decode cX3_read 68 = .ok (.istore_n 1, 1) := by decide +kernel
theorem dX3_read_69 : decode cX3_read 69 = .ok (.iinc 2 1, 3) := by decide +kernel
theorem dX3_read_72 : decode cX3_read 72 = .ok (.goto (-29), 3) := by decide +kernel
theorem dX3_read_75 : decode cX3_read 75 = .ok (.aload_n 0, 1) := by decide +kernel
theorem dX3_read_76 : decode cX3_read 76 = .ok (.iconst 0, 1) := by decide +kernel
theorem dX3_read_77 : decode cX3_read 77 = .ok (.putfield 22, 3) := by decide +kernel
theorem dX3_read_80 : decode cX3_read 80 = .ok (.iload_n 1, 1) := by decide +kernel
theorem dX3_read_81 : decode cX3_read 81 = .ok (.ireturn, 1) := by decide +kernel
set_option maxRecDepth 20000 in
theorem ggX3_readLaw_X3_sign : GoodIn wsX3_readLaw wsX3_sign := goodIn_r _ [8, 9, 10, 11, 12, 13, 14, 7, 15, 16, 24, 25, 26, 27, 28] (by decide +kernel) (by decide +kernel)
set_option maxRecDepth 20000 in
theorem gX3_readLaw_X3_sign : GoodIn wsX3_readLaw (wsV RX3 42 RX3 yX3_sign wsX3_sign) := goodIn_app (goodIn_of _ (by decide +kernel)) ggX3_readLaw_X3_sign
set_option maxRecDepth 20000 in
theorem ggX3_readLaw_X3_number : GoodIn wsX3_readLaw wsX3_number := goodIn_r _ [20, 9, 10, 11, 21, 22, 7, 23, 12, 13, 14, 15, 16, 24, 25, 26, 27, 28] (by decide +kernel) (by decide +kernel)
set_option maxRecDepth 20000 in
theorem gX3_readLaw_X3_number : GoodIn wsX3_readLaw (wsV RX3 46 RX3 yX3_number wsX3_number) := goodIn_app (goodIn_of _ (by decide +kernel)) ggX3_readLaw_X3_number
theorem dX3_readLaw_0 : decode cX3_readLaw 0 = .ok (.aload_n 0, 1) := by decide +kernel
theorem dX3_readLaw_1 : decode cX3_readLaw 1 = .ok (.bipush 119, 2) := by decide +kernel
theorem dX3_readLaw_3 : decode cX3_readLaw 3 = .ok (.invokevirtual 42, 3) := by decide +kernel
theorem dX3_readLaw_6 : decode cX3_readLaw 6 = .ok (.ifCond .ne 5, 3) := by decide +kernel
theorem dX3_readLaw_9 : decode cX3_readLaw 9 = .ok (.iconst 0, 1) := by decide +kernel
theorem dX3_readLaw_10 : decode cX3_readLaw 10 = .ok (.ireturn, 1) := by decide +kernel
theorem dX3_readLaw_11 : decode cX3_readLaw 11 = .ok (.aload_n 0, 1) := by decide +kernel
theorem dX3_readLaw_12 : decode cX3_readLaw 12 = .ok (.getfield 12, 3) := by decide +kernel
theorem dX3_readLaw_15 : decode cX3_readLaw 15 = .ok (.aload_n 0, 1) := by decide +kernel
theorem dX3_readLaw_16 : decode cX3_readLaw 16 = .ok (.iconst 1, 1) := by decide +kernel
theorem dX3_readLaw_17 : decode cX3_readLaw 17 = .ok (.bipush 99, 2) := by decide +kernel
theorem dX3_readLaw_19 : decode cX3_readLaw 19 = .ok (.invokevirtual 46, 3) := by decide +kernel
theorem dX3_readLaw_22 : decode cX3_readLaw 22 = .ok (.putfield 50, 3) := by decide +kernel
theorem dX3_readLaw_25 : decode cX3_readLaw 25 = .ok (.aload_n 0, 1) := by decide +kernel
theorem dX3_readLaw_26 : decode cX3_readLaw 26 = .ok (.getfield 12, 3) := by decide +kernel
theorem dX3_readLaw_29 : decode cX3_readLaw 29 = .ok (.getfield 50, 3) := by decide +kernel
theorem dX3_readLaw_32 : decode cX3_readLaw 32 = .ok (.ifCond .lt 12, 3) := by decide +kernel
theorem dX3_readLaw_35 : decode cX3_readLaw 35 = .ok (.aload_n 0, 1) := by decide +kernel
theorem dX3_readLaw_36 : decode cX3_readLaw 36 = .ok (.bipush 44, 2) := by decide +kernel
theorem dX3_readLaw_38 : decode cX3_readLaw 38 = .ok (.invokevirtual 42, 3) := by decide +kernel
theorem dX3_readLaw_41 : decode cX3_readLaw 41 = .ok (.ifCond .ne 5, 3) := by decide +kernel
theorem dX3_readLaw_44 : decode cX3_readLaw 44 = .ok (.iconst 0, 1) := by decide +kernel
theorem dX3_readLaw_45 : decode cX3_readLaw 45 = .ok (.ireturn, 1) := by decide +kernel
theorem dX3_readLaw_46 : decode cX3_readLaw 46 = .ok (.aload_n 0, 1) := by decide +kernel
theorem dX3_readLaw_47 : decode cX3_readLaw 47 = .ok (.getfield 12, 3) := by decide +kernel
theorem dX3_readLaw_50 : decode cX3_readLaw 50 = .ok (.aload_n 0, 1) := by decide +kernel
theorem dX3_readLaw_51 : decode cX3_readLaw 51 = .ok (.iconst 0, 1) := by decide +kernel
theorem dX3_readLaw_52 : decode cX3_readLaw 52 = .ok (.bipush 15, 2) := by decide +kernel
theorem dX3_readLaw_54 : decode cX3_readLaw 54 = .ok (.invokevirtual 46, 3) := by decide +kernel
theorem dX3_readLaw_57 : decode cX3_readLaw 57 = .ok (.putfield 53, 3) := by decide +kernel
theorem dX3_readLaw_60 : decode cX3_readLaw 60 = .ok (.aload_n 0, 1) := by decide +kernel
theorem dX3_readLaw_61 : decode cX3_readLaw 61 = .ok (.getfield 12, 3) := by decide +kernel
theorem dX3_readLaw_64 : decode cX3_readLaw 64 = .ok (.getfield 53, 3) := by decide +kernel
theorem dX3_readLaw_67 : decode cX3_readLaw 67 = .ok (.ifCond .lt 16, 3) := by decide +kernel
theorem dX3_readLaw_70 : decode cX3_readLaw 70 = .ok (.aload_n 0, 1) := by decide +kernel
theorem dX3_readLaw_71 : decode cX3_readLaw 71 = .ok (.bipush 59, 2) := by decide +kernel
theorem dX3_readLaw_73 : decode cX3_readLaw 73 = .ok (.invokevirtual 42, 3) := by decide +kernel
theorem dX3_readLaw_76 : decode cX3_readLaw 76 = .ok (.ifCond .eq 7, 3) := by decide +kernel
theorem dX3_readLaw_79 : decode cX3_readLaw 79 = .ok (.iconst 1, 1) := by decide +kernel
theorem dX3_readLaw_80 : decode cX3_readLaw 80 = .ok (.goto 4, 3) := by decide +kernel
theorem dX3_readLaw_83 : decode cX3_readLaw 83 = .ok (.iconst 0, 1) := by decide +kernel
theorem dX3_readLaw_84 : decode cX3_readLaw 84 = .ok (.ireturn, 1) := by decide +kernel
set_option maxRecDepth 20000 in
theorem ggX3_readGuest_X3_sortOf : GoodIn wsX3_readGuest wsX3_sortOf := goodIn_r _ [9] (by decide +kernel) (by decide +kernel)
set_option maxRecDepth 20000 in
theorem gX3_readGuest_X3_sortOf : GoodIn wsX3_readGuest (va_wsS RX3 56 yX3_sortOf wsX3_sortOf) := goodIn_app (goodIn_of _ (by decide +kernel)) ggX3_readGuest_X3_sortOf
set_option maxRecDepth 20000 in
theorem ggX3_readGuest_X3_refuse : GoodIn wsX3_readGuest wsX3_refuse := goodIn_r _ [13, 14, 40, 41, 42, 43, 44] (by decide +kernel) (by decide +kernel)
set_option maxRecDepth 20000 in
theorem gX3_readGuest_X3_refuse : GoodIn wsX3_readGuest (wsV RX3 60 RX3 yX3_refuse wsX3_refuse) := goodIn_app (goodIn_of _ (by decide +kernel)) ggX3_readGuest_X3_refuse
set_option maxRecDepth 20000 in
theorem ggX3_readGuest_X3_number : GoodIn wsX3_readGuest wsX3_number := goodIn_r _ [18, 1, 2, 3, 19, 20, 8, 21, 10, 11, 12, 13, 14, 40, 41, 42, 43, 44] (by decide +kernel) (by decide +kernel)
set_option maxRecDepth 20000 in
theorem gX3_readGuest_X3_number : GoodIn wsX3_readGuest (wsV RX3 46 RX3 yX3_number wsX3_number) := goodIn_app (goodIn_of _ (by decide +kernel)) ggX3_readGuest_X3_number
set_option maxRecDepth 20000 in
theorem ggX3_readGuest_X3_sign : GoodIn wsX3_readGuest wsX3_sign := goodIn_r _ [25, 1, 2, 3, 10, 11, 12, 8, 13, 14, 40, 41, 42, 43, 44] (by decide +kernel) (by decide +kernel)
set_option maxRecDepth 20000 in
theorem gX3_readGuest_X3_sign : GoodIn wsX3_readGuest (wsV RX3 42 RX3 yX3_sign wsX3_sign) := goodIn_app (goodIn_of _ (by decide +kernel)) ggX3_readGuest_X3_sign
set_option maxRecDepth 20000 in
theorem ggX3_readGuest_X5_welcome : GoodIn wsX3_readGuest wsX5_welcome := goodIn_r _ [30, 31, 32, 33, 34, 35, 36, 37, 38, 39, 45, 46, 47, 48, 49, 50, 51, 52, 53, 54, 55, 56, 57, 58, 59] (by decide +kernel) (by decide +kernel)
set_option maxRecDepth 20000 in
theorem gX3_readGuest_X5_welcome : GoodIn wsX3_readGuest (wsV RX3 63 RX5 yX5_welcome wsX5_welcome) := goodIn_app (goodIn_of _ (by decide +kernel)) ggX3_readGuest_X5_welcome
theorem dX3_readGuest_0 : decode cX3_readGuest 0 = .ok (.aload_n 0, 1) := by decide +kernel
theorem dX3_readGuest_1 : decode cX3_readGuest 1 = .ok (.getfield 26, 3) := by decide +kernel
theorem dX3_readGuest_4 : decode cX3_readGuest 4 = .ok (.aload_n 0, 1) := by decide +kernel
theorem dX3_readGuest_5 : decode cX3_readGuest 5 = .ok (.getfield 22, 3) := by decide +kernel
theorem dX3_readGuest_8 : decode cX3_readGuest 8 = .ok (.if_icmp .ge 18, 3) := by decide +kernel
theorem dX3_readGuest_11 : decode cX3_readGuest 11 = .ok (.aload_n 0, 1) := by decide +kernel
theorem dX3_readGuest_12 : decode cX3_readGuest 12 = .ok (.getfield 18, 3) := by decide +kernel
theorem dX3_readGuest_15 : decode cX3_readGuest 15 = .ok (.aload_n 0, 1) := by decide +kernel
theorem dX3_readGuest_16 : decode cX3_readGuest 16 = .ok (.getfield 26, 3) := by decide +kernel
theorem dX3_readGuest_19 : decode cX3_readGuest 19 = .ok (.iaload, 1) := by decide +kernel
theorem dX3_readGuest_20 : decode cX3_readGuest 20 = .ok (.invokestatic 56, 3) := by decide +kernel
theorem dX3_readGuest_23 : decode cX3_readGuest 23 = .ok (.goto 4, 3) := by decide +kernel
theorem dX3_readGuest_26 : decode cX3_readGuest 26 = .ok (.iconst 0, 1) := by decide +kernel
theorem dX3_readGuest_27 : decode cX3_readGuest 27 = .ok (.istore_n 1, 1) := by decide +kernel
theorem dX3_readGuest_28 : decode cX3_readGuest 28 = .ok (.iload_n 1, 1) := by decide +kernel
theorem dX3_readGuest_29 : decode cX3_readGuest 29 = .ok (.ifCond .ne 9, 3) := by decide +kernel
theorem dX3_readGuest_32 : decode cX3_readGuest 32 = .ok (.aload_n 0, 1) := by decide +kernel
theorem dX3_readGuest_33 : decode cX3_readGuest 33 = .ok (.iconst 1, 1) := by decide +kernel
theorem dX3_readGuest_34 : decode cX3_readGuest 34 = .ok (.invokevirtual 60, 3) := by decide +kernel
theorem dX3_readGuest_37 : decode cX3_readGuest 37 = .ok (.ireturn, 1) := by decide +kernel
theorem dX3_readGuest_38 : decode cX3_readGuest 38 = .ok (.aload_n 0, 1) := by decide +kernel
theorem dX3_readGuest_39 : decode cX3_readGuest 39 = .ok (.getfield 12, 3) := by decide +kernel
theorem dX3_readGuest_42 : decode cX3_readGuest 42 = .ok (.getfield 29, 3) := by decide +kernel
theorem dX3_readGuest_45 : decode cX3_readGuest 45 = .ok (.bipush 7, 2) := by decide +kernel
theorem dX3_readGuest_47 : decode cX3_readGuest 47 = .ok (.if_icmp .lt 9, 3) := by decide +kernel
theorem dX3_readGuest_50 : decode cX3_readGuest 50 = .ok (.aload_n 0, 1) := by decide +kernel
theorem dX3_readGuest_51 : decode cX3_readGuest 51 = .ok (.iconst 3, 1) := by decide +kernel
theorem dX3_readGuest_52 : decode cX3_readGuest 52 = .ok (.invokevirtual 60, 3) := by decide +kernel
theorem dX3_readGuest_55 : decode cX3_readGuest 55 = .ok (.ireturn, 1) := by decide +kernel
theorem dX3_readGuest_56 : decode cX3_readGuest 56 = .ok (.aload_n 0, 1) := by decide +kernel
theorem dX3_readGuest_57 : decode cX3_readGuest 57 = .ok (.dup, 1) := by decide +kernel
theorem dX3_readGuest_58 : decode cX3_readGuest 58 = .ok (.getfield 26, 3) := by decide +kernel
theorem dX3_readGuest_61 : decode cX3_readGuest 61 = .ok (.iconst 1, 1) := by decide +kernel
theorem dX3_readGuest_62 : decode cX3_readGuest 62 = .ok (.iadd, 1) := by decide +kernel
theorem dX3_readGuest_63 : decode cX3_readGuest 63 = .ok (.putfield 26, 3) := by decide +kernel
theorem dX3_readGuest_66 : decode cX3_readGuest 66 = .ok (.aload_n 0, 1) := by decide +kernel
theorem dX3_readGuest_67 : decode cX3_readGuest 67 = .ok (.iconst 0, 1) := by decide +kernel
theorem dX3_readGuest_68 : decode cX3_readGuest 68 = .ok (.bipush 9, 2) := by decide +kernel
theorem dX3_readGuest_70 : decode cX3_readGuest 70 = .ok (.invokevirtual 46, 3) := by decide +kernel
theorem dX3_readGuest_73 : decode cX3_readGuest 73 = .ok (.istore_n 2, 1) := by decide +kernel
theorem dX3_readGuest_74 : decode cX3_readGuest 74 = .ok (.iload_n 2, 1) := by decide +kernel
theorem dX3_readGuest_75 : decode cX3_readGuest 75 = .ok (.ifCond .lt 12, 3) := by decide +kernel
theorem dX3_readGuest_78 : decode cX3_readGuest 78 = .ok (.aload_n 0, 1) := by decide +kernel
theorem dX3_readGuest_79 : decode cX3_readGuest 79 = .ok (.bipush 44, 2) := by decide +kernel
theorem dX3_readGuest_81 : decode cX3_readGuest 81 = .ok (.invokevirtual 42, 3) := by decide +kernel
theorem dX3_readGuest_84 : decode cX3_readGuest 84 = .ok (.ifCond .ne 5, 3) := by decide +kernel
theorem dX3_readGuest_87 : decode cX3_readGuest 87 = .ok (.iconst 0, 1) := by decide +kernel
theorem dX3_readGuest_88 : decode cX3_readGuest 88 = .ok (.ireturn, 1) := by decide +kernel
theorem dX3_readGuest_89 : decode cX3_readGuest 89 = .ok (.aload_n 0, 1) := by decide +kernel
theorem dX3_readGuest_90 : decode cX3_readGuest 90 = .ok (.iconst 0, 1) := by decide +kernel
theorem dX3_readGuest_91 : decode cX3_readGuest 91 = .ok (.bipush 99, 2) := by decide +kernel
theorem dX3_readGuest_93 : decode cX3_readGuest 93 = .ok (.invokevirtual 46, 3) := by decide +kernel
theorem dX3_readGuest_96 : decode cX3_readGuest 96 = .ok (.istore_n 3, 1) := by decide +kernel
theorem dX3_readGuest_97 : decode cX3_readGuest 97 = .ok (.iload_n 3, 1) := by decide +kernel
theorem dX3_readGuest_98 : decode cX3_readGuest 98 = .ok (.ifCond .lt 12, 3) := by decide +kernel
theorem dX3_readGuest_101 : decode cX3_readGuest 101 = .ok (.aload_n 0, 1) := by decide +kernel
theorem dX3_readGuest_102 : decode cX3_readGuest 102 = .ok (.bipush 44, 2) := by decide +kernel
theorem dX3_readGuest_104 : decode cX3_readGuest 104 = .ok (.invokevirtual 42, 3) := by decide +kernel
theorem dX3_readGuest_107 : decode cX3_readGuest 107 = .ok (.ifCond .ne 5, 3) := by decide +kernel
theorem dX3_readGuest_110 : decode cX3_readGuest 110 = .ok (.iconst 0, 1) := by decide +kernel
theorem dX3_readGuest_111 : decode cX3_readGuest 111 = .ok (.ireturn, 1) := by decide +kernel
theorem dX3_readGuest_112 : decode cX3_readGuest 112 = .ok (.aload_n 0, 1) := by decide +kernel
theorem dX3_readGuest_113 : decode cX3_readGuest 113 = .ok (.iconst 0, 1) := by decide +kernel
theorem dX3_readGuest_114 : decode cX3_readGuest 114 = .ok (.bipush 9, 2) := by decide +kernel
theorem dX3_readGuest_116 : decode cX3_readGuest 116 = .ok (.invokevirtual 46, 3) := by decide +kernel
theorem dX3_readGuest_119 : decode cX3_readGuest 119 = .ok (.istore 4, 2) := by decide +kernel
theorem dX3_readGuest_121 : decode cX3_readGuest 121 = .ok (.iload 4, 2) := by decide +kernel
theorem dX3_readGuest_123 : decode cX3_readGuest 123 = .ok (.ifCond .lt 12, 3) := by decide +kernel
theorem dX3_readGuest_126 : decode cX3_readGuest 126 = .ok (.aload_n 0, 1) := by decide +kernel
theorem dX3_readGuest_127 : decode cX3_readGuest 127 = .ok (.bipush 59, 2) := by decide +kernel
theorem dX3_readGuest_129 : decode cX3_readGuest 129 = .ok (.invokevirtual 42, 3) := by decide +kernel
theorem dX3_readGuest_132 : decode cX3_readGuest 132 = .ok (.ifCond .ne 5, 3) := by decide +kernel
theorem dX3_readGuest_135 : decode cX3_readGuest 135 = .ok (.iconst 0, 1) := by decide +kernel
theorem dX3_readGuest_136 : decode cX3_readGuest 136 = .ok (.ireturn, 1) := by decide +kernel
theorem dX3_readGuest_137 : decode cX3_readGuest 137 = .ok (.aload_n 0, 1) := by decide +kernel
theorem dX3_readGuest_138 : decode cX3_readGuest 138 = .ok (.getfield 12, 3) := by decide +kernel
theorem dX3_readGuest_141 : decode cX3_readGuest 141 = .ok (.iload_n 1, 1) := by decide +kernel
theorem dX3_readGuest_142 : decode cX3_readGuest 142 = .ok (.iload_n 2, 1) := by decide +kernel
theorem dX3_readGuest_143 : decode cX3_readGuest 143 = .ok (.iload_n 3, 1) := by decide +kernel
theorem dX3_readGuest_144 : decode cX3_readGuest 144 = .ok (.iload 4, 2) := by decide +kernel
theorem dX3_readGuest_146 : decode cX3_readGuest 146 = .ok (.invokevirtual 63, 3) := by decide +kernel
theorem dX3_readGuest_149 : decode cX3_readGuest 149 = .ok (.iconst 1, 1) := by decide +kernel
theorem dX3_readGuest_150 : decode cX3_readGuest 150 = .ok (.ireturn, 1) := by decide +kernel
theorem dX3_sortOf_0 : decode cX3_sortOf 0 = .ok (.iload_n 0, 1) := by decide +kernel
theorem dX3_sortOf_1 : decode cX3_sortOf 1 = .ok (.lookupswitch 61 #[(97, 51), (99, 55), (109, 57), (111, 59), (114, 53)], 51) := by decide +kernel
theorem dX3_sortOf_52 : decode cX3_sortOf 52 = .ok (.iconst 1, 1) := by decide +kernel
theorem dX3_sortOf_53 : decode cX3_sortOf 53 = .ok (.ireturn, 1) := by decide +kernel
theorem dX3_sortOf_54 : decode cX3_sortOf 54 = .ok (.iconst 2, 1) := by decide +kernel
theorem dX3_sortOf_55 : decode cX3_sortOf 55 = .ok (.ireturn, 1) := by decide +kernel
theorem dX3_sortOf_56 : decode cX3_sortOf 56 = .ok (.iconst 3, 1) := by decide +kernel
theorem dX3_sortOf_57 : decode cX3_sortOf 57 = .ok (.ireturn, 1) := by decide +kernel
theorem dX3_sortOf_58 : decode cX3_sortOf 58 = .ok (.iconst 4, 1) := by decide +kernel
theorem dX3_sortOf_59 : decode cX3_sortOf 59 = .ok (.ireturn, 1) := by decide +kernel
theorem dX3_sortOf_60 : decode cX3_sortOf 60 = .ok (.iconst 5, 1) := by decide +kernel
theorem dX3_sortOf_61 : decode cX3_sortOf 61 = .ok (.ireturn, 1) := by decide +kernel
theorem dX3_sortOf_62 : decode cX3_sortOf 62 = .ok (.iconst 0, 1) := by decide +kernel
theorem dX3_sortOf_63 : decode cX3_sortOf 63 = .ok (.ireturn, 1) := by decide +kernel
set_option maxRecDepth 20000 in
theorem ggX3_sign_X3_refuse : GoodIn wsX3_sign wsX3_refuse := goodIn_r _ [8, 9, 10, 11, 12, 13, 14] (by decide +kernel) (by decide +kernel)
set_option maxRecDepth 20000 in
theorem gX3_sign_X3_refuse : GoodIn wsX3_sign (wsV RX3 60 RX3 yX3_refuse wsX3_refuse) := goodIn_app (goodIn_of _ (by decide +kernel)) ggX3_sign_X3_refuse
theorem dX3_sign_0 : decode cX3_sign 0 = .ok (.aload_n 0, 1) := by decide +kernel
theorem dX3_sign_1 : decode cX3_sign 1 = .ok (.getfield 26, 3) := by decide +kernel
theorem dX3_sign_4 : decode cX3_sign 4 = .ok (.aload_n 0, 1) := by decide +kernel
theorem dX3_sign_5 : decode cX3_sign 5 = .ok (.getfield 22, 3) := by decide +kernel
theorem dX3_sign_8 : decode cX3_sign 8 = .ok (.if_icmp .ge 16, 3) := by decide +kernel
theorem dX3_sign_11 : decode cX3_sign 11 = .ok (.aload_n 0, 1) := by decide +kernel
theorem dX3_sign_12 : decode cX3_sign 12 = .ok (.getfield 18, 3) := by decide +kernel
theorem dX3_sign_15 : decode cX3_sign 15 = .ok (.aload_n 0, 1) := by decide +kernel
theorem dX3_sign_16 : decode cX3_sign 16 = .ok (.getfield 26, 3) := by decide +kernel
theorem dX3_sign_19 : decode cX3_sign 19 = .ok (.iaload, 1) := by decide +kernel
theorem dX3_sign_20 : decode cX3_sign 20 = .ok (.iload_n 1, 1) := by decide +kernel
theorem dX3_sign_21 : decode cX3_sign 21 = .ok (.if_icmp .eq 9, 3) := by decide +kernel
theorem dX3_sign_24 : decode cX3_sign 24 = .ok (.aload_n 0, 1) := by decide +kernel
theorem dX3_sign_25 : decode cX3_sign 25 = .ok (.iconst 1, 1) := by decide +kernel
theorem dX3_sign_26 : decode cX3_sign 26 = .ok (.invokevirtual 60, 3) := by decide +kernel
theorem dX3_sign_29 : decode cX3_sign 29 = .ok (.ireturn, 1) := by decide +kernel
theorem dX3_sign_30 : decode cX3_sign 30 = .ok (.aload_n 0, 1) := by decide +kernel
theorem dX3_sign_31 : decode cX3_sign 31 = .ok (.dup, 1) := by decide +kernel
theorem dX3_sign_32 : decode cX3_sign 32 = .ok (.getfield 26, 3) := by decide +kernel
theorem dX3_sign_35 : decode cX3_sign 35 = .ok (.iconst 1, 1) := by decide +kernel
theorem dX3_sign_36 : decode cX3_sign 36 = .ok (.iadd, 1) := by decide +kernel
theorem dX3_sign_37 : decode cX3_sign 37 = .ok (.putfield 26, 3) := by decide +kernel
theorem dX3_sign_40 : decode cX3_sign 40 = .ok (.iconst 1, 1) := by decide +kernel
theorem dX3_sign_41 : decode cX3_sign 41 = .ok (.ireturn, 1) := by decide +kernel
set_option maxRecDepth 20000 in
theorem ggX3_number_X3_isFigure : GoodIn wsX3_number wsX3_isFigure := goodIn_r _ [7] (by decide +kernel) (by decide +kernel)
set_option maxRecDepth 20000 in
theorem gX3_number_X3_isFigure : GoodIn wsX3_number (va_wsS RX3 67 yX3_isFigure wsX3_isFigure) := goodIn_app (goodIn_of _ (by decide +kernel)) ggX3_number_X3_isFigure
set_option maxRecDepth 20000 in
theorem ggX3_number_X3_refuse : GoodIn wsX3_number wsX3_refuse := goodIn_r _ [11, 12, 13, 14, 15, 16, 17] (by decide +kernel) (by decide +kernel)
set_option maxRecDepth 20000 in
theorem gX3_number_X3_refuse : GoodIn wsX3_number (wsV RX3 60 RX3 yX3_refuse wsX3_refuse) := goodIn_app (goodIn_of _ (by decide +kernel)) ggX3_number_X3_refuse
theorem dX3_number_0 : decode cX3_number 0 = .ok (.aload_n 0, 1) := by decide +kernel
theorem dX3_number_1 : decode cX3_number 1 = .ok (.getfield 26, 3) := by decide +kernel
theorem dX3_number_4 : decode cX3_number 4 = .ok (.istore_n 3, 1) := by decide +kernel
theorem dX3_number_5 : decode cX3_number 5 = .ok (.iconst 0, 1) := by decide +kernel
theorem dX3_number_6 : decode cX3_number 6 = .ok (.istore 4, 2) := by decide +kernel
theorem dX3_number_8 : decode cX3_number 8 = .ok (.iload_n 3, 1) := by decide +kernel
theorem dX3_number_9 : decode cX3_number 9 = .ok (.aload_n 0, 1) := by decide +kernel
theorem dX3_number_10 : decode cX3_number 10 = .ok (.getfield 22, 3) := by decide +kernel
theorem dX3_number_13 : decode cX3_number 13 = .ok (.if_icmp .ge 48, 3) := by decide +kernel
theorem dX3_number_16 : decode cX3_number 16 = .ok (.iload_n 3, 1) := by decide +kernel
theorem dX3_number_17 : decode cX3_number 17 = .ok (.aload_n 0, 1) := by decide +kernel
theorem dX3_number_18 : decode cX3_number 18 = .ok (.getfield 26, 3) := by decide +kernel
theorem dX3_number_21 : decode cX3_number 21 = .ok (.iconst 3, 1) := by decide +kernel
theorem dX3_number_22 : decode cX3_number 22 = .ok (.iadd, 1) := by decide +kernel
theorem dX3_number_23 : decode cX3_number 23 = .ok (.if_icmp .ge 38, 3) := by decide +kernel
theorem dX3_number_26 : decode cX3_number 26 = .ok (.aload_n 0, 1) := by decide +kernel
theorem dX3_number_27 : decode cX3_number 27 = .ok (.getfield 18, 3) := by decide +kernel
theorem dX3_number_30 : decode cX3_number 30 = .ok (.iload_n 3, 1) := by decide +kernel
theorem dX3_number_31 : decode cX3_number 31 = .ok (.iaload, 1) := by decide +kernel
theorem dX3_number_32 : decode cX3_number 32 = .ok (.invokestatic 67, 3) := by decide +kernel
theorem dX3_number_35 : decode cX3_number 35 = .ok (.ifCond .eq 26, 3) := by decide +kernel
theorem dX3_number_38 : decode cX3_number 38 = .ok (.iload 4, 2) := by decide +kernel
theorem dX3_number_40 : decode cX3_number 40 = .ok (.bipush 10, 2) := by decide +kernel
theorem dX3_number_42 : decode cX3_number 42 = .ok (.imul, 1) := by decide +kernel
theorem dX3_number_43 : decode cX3_number 43 = .ok (.aload_n 0, 1) := by decide +kernel
theorem dX3_number_44 : decode cX3_number 44 = .ok (.getfield 18, 3) := by decide +kernel
theorem dX3_number_47 : decode cX3_number 47 = .ok (.iload_n 3, 1) := by decide +kernel
theorem dX3_number_48 : decode cX3_number 48 = .ok (.iaload, 1) := by decide +kernel
theorem dX3_number_49 : decode cX3_number 49 = .ok (.iadd, 1) := by decide +kernel
theorem dX3_number_50 : decode cX3_number 50 = .ok (.bipush 48, 2) := by decide +kernel
theorem dX3_number_52 : decode cX3_number 52 = .ok (.isub, 1) := by decide +kernel
theorem dX3_number_53 : decode cX3_number 53 = .ok (.istore 4, 2) := by decide +kernel
theorem dX3_number_55 : decode cX3_number 55 = .ok (.iinc 3 1, 3) := by decide +kernel
theorem dX3_number_58 : decode cX3_number 58 = .ok (.goto (-50), 3) := by decide +kernel
theorem dX3_number_61 : decode cX3_number 61 = .ok (.iload_n 3, 1) := by decide +kernel
theorem dX3_number_62 : decode cX3_number 62 = .ok (.aload_n 0, 1) := by decide +kernel
theorem dX3_number_63 : decode cX3_number 63 = .ok (.getfield 26, 3) := by decide +kernel
theorem dX3_number_66 : decode cX3_number 66 = .ok (.if_icmp .eq 13, 3) := by decide +kernel
theorem dX3_number_69 : decode cX3_number 69 = .ok (.iload_n 3, 1) := by decide +kernel
theorem dX3_number_70 : decode cX3_number 70 = .ok (.aload_n 0, 1) := by decide +kernel
theorem dX3_number_71 : decode cX3_number 71 = .ok (.getfield 26, 3) := by decide +kernel
theorem dX3_number_74 : decode cX3_number 74 = .ok (.iconst 3, 1) := by decide +kernel
theorem dX3_number_75 : decode cX3_number 75 = .ok (.iadd, 1) := by decide +kernel
theorem dX3_number_76 : decode cX3_number 76 = .ok (.if_icmp .ne 11, 3) := by decide +kernel
theorem dX3_number_79 : decode cX3_number 79 = .ok (.aload_n 0, 1) := by decide +kernel
theorem dX3_number_80 : decode cX3_number 80 = .ok (.iconst 1, 1) := by decide +kernel
theorem dX3_number_81 : decode cX3_number 81 = .ok (.invokevirtual 60, 3) := by decide +kernel
theorem dX3_number_84 : decode cX3_number 84 = .ok (.pop, 1) := by decide +kernel
theorem dX3_number_85 : decode cX3_number 85 = .ok (.iconst (-1), 1) := by decide +kernel
theorem dX3_number_86 : decode cX3_number 86 = .ok (.ireturn, 1) := by decide +kernel
theorem dX3_number_87 : decode cX3_number 87 = .ok (.iload 4, 2) := by decide +kernel
theorem dX3_number_89 : decode cX3_number 89 = .ok (.iload_n 1, 1) := by decide +kernel
theorem dX3_number_90 : decode cX3_number 90 = .ok (.if_icmp .lt 9, 3) := by decide +kernel
theorem dX3_number_93 : decode cX3_number 93 = .ok (.iload 4, 2) := by decide +kernel
theorem dX3_number_95 : decode cX3_number 95 = .ok (.iload_n 2, 1) := by decide +kernel
theorem dX3_number_96 : decode cX3_number 96 = .ok (.if_icmp .le 11, 3) := by decide +kernel
theorem dX3_number_99 : decode cX3_number 99 = .ok (.aload_n 0, 1) := by decide +kernel
theorem dX3_number_100 : decode cX3_number 100 = .ok (.iconst 2, 1) := by decide +kernel
theorem dX3_number_101 : decode cX3_number 101 = .ok (.invokevirtual 60, 3) := by decide +kernel
theorem dX3_number_104 : decode cX3_number 104 = .ok (.pop, 1) := by decide +kernel
theorem dX3_number_105 : decode cX3_number 105 = .ok (.iconst (-1), 1) := by decide +kernel
theorem dX3_number_106 : decode cX3_number 106 = .ok (.ireturn, 1) := by decide +kernel
theorem dX3_number_107 : decode cX3_number 107 = .ok (.aload_n 0, 1) := by decide +kernel
theorem dX3_number_108 : decode cX3_number 108 = .ok (.iload_n 3, 1) := by decide +kernel
theorem dX3_number_109 : decode cX3_number 109 = .ok (.putfield 26, 3) := by decide +kernel
theorem dX3_number_112 : decode cX3_number 112 = .ok (.iload 4, 2) := by decide +kernel
theorem dX3_number_114 : decode cX3_number 114 = .ok (.ireturn, 1) := by decide +kernel
theorem dX3_isFigure_0 : decode cX3_isFigure 0 = .ok (.iload_n 0, 1) := by decide +kernel
theorem dX3_isFigure_1 : decode cX3_isFigure 1 = .ok (.bipush 48, 2) := by decide +kernel
theorem dX3_isFigure_3 : decode cX3_isFigure 3 = .ok (.if_icmp .lt 13, 3) := by decide +kernel
theorem dX3_isFigure_6 : decode cX3_isFigure 6 = .ok (.iload_n 0, 1) := by decide +kernel
theorem dX3_isFigure_7 : decode cX3_isFigure 7 = .ok (.bipush 57, 2) := by decide +kernel
theorem dX3_isFigure_9 : decode cX3_isFigure 9 = .ok (.if_icmp .gt 7, 3) := by decide +kernel
theorem dX3_isFigure_12 : decode cX3_isFigure 12 = .ok (.iconst 1, 1) := by decide +kernel
theorem dX3_isFigure_13 : decode cX3_isFigure 13 = .ok (.goto 4, 3) := by decide +kernel
theorem dX3_isFigure_16 : decode cX3_isFigure 16 = .ok (.iconst 0, 1) := by decide +kernel
theorem dX3_isFigure_17 : decode cX3_isFigure 17 = .ok (.ireturn, 1) := by decide +kernel
theorem dX3_refuse_0 : decode cX3_refuse 0 = .ok (.aload_n 0, 1) := by decide +kernel
theorem dX3_refuse_1 : decode cX3_refuse 1 = .ok (.iload_n 1, 1) := by decide +kernel
theorem dX3_refuse_2 : decode cX3_refuse 2 = .ok (.putfield 70, 3) := by decide +kernel
theorem dX3_refuse_5 : decode cX3_refuse 5 = .ok (.iconst 0, 1) := by decide +kernel
theorem dX3_refuse_6 : decode cX3_refuse 6 = .ok (.ireturn, 1) := by decide +kernel
theorem dX4_init_0 : decode cX4_init 0 = .ok (.aload_n 0, 1) := by decide +kernel
theorem dX4_init_1 : decode cX4_init 1 = .ok (.invokespecial 3, 3) := by decide +kernel
theorem dX4_init_4 : decode cX4_init 4 = .ok (.aload_n 0, 1) := by decide +kernel
theorem dX4_init_5 : decode cX4_init 5 = .ok (.bipush 40, 2) := by decide +kernel
theorem dX4_init_7 : decode cX4_init 7 = .ok (.newarray .int, 2) := by decide +kernel
theorem dX4_init_9 : decode cX4_init 9 = .ok (.putfield 9, 3) := by decide +kernel
theorem dX4_init_12 : decode cX4_init 12 = .ok (.return_, 1) := by decide +kernel
theorem dX4_make_0 : decode cX4_make 0 = .ok (.aload_n 0, 1) := by decide +kernel
theorem dX4_make_1 : decode cX4_make 1 = .ok (.iconst 1, 1) := by decide +kernel
theorem dX4_make_2 : decode cX4_make 2 = .ok (.putfield 15, 3) := by decide +kernel
theorem dX4_make_5 : decode cX4_make 5 = .ok (.aload_n 0, 1) := by decide +kernel
theorem dX4_make_6 : decode cX4_make 6 = .ok (.iload_n 1, 1) := by decide +kernel
theorem dX4_make_7 : decode cX4_make 7 = .ok (.putfield 19, 3) := by decide +kernel
theorem dX4_make_10 : decode cX4_make 10 = .ok (.aload_n 0, 1) := by decide +kernel
theorem dX4_make_11 : decode cX4_make 11 = .ok (.iload_n 2, 1) := by decide +kernel
theorem dX4_make_12 : decode cX4_make 12 = .ok (.putfield 23, 3) := by decide +kernel
theorem dX4_make_15 : decode cX4_make 15 = .ok (.iconst 0, 1) := by decide +kernel
theorem dX4_make_16 : decode cX4_make 16 = .ok (.istore_n 3, 1) := by decide +kernel
theorem dX4_make_17 : decode cX4_make 17 = .ok (.iload_n 3, 1) := by decide +kernel
theorem dX4_make_18 : decode cX4_make 18 = .ok (.bipush 40, 2) := by decide +kernel
theorem dX4_make_20 : decode cX4_make 20 = .ok (.if_icmp .ge 16, 3) := by decide +kernel
theorem dX4_make_23 : decode cX4_make 23 = .ok (.aload_n 0, 1) := by decide +kernel
theorem dX4_make_24 : decode cX4_make 24 = .ok (.getfield 9, 3) := by decide +kernel
theorem dX4_make_27 : decode cX4_make 27 = .ok (.iload_n 3, 1) := by decide +kernel
theorem dX4_make_28 : decode cX4_make 28 = .ok (.iconst 0, 1) := by decide +kernel
theorem dX4_make_29 : decode cX4_make 29 = .ok (.iastore, 1) := by decide +kernel
theorem dX4_make_30 : decode cX4_make 30 = .ok (.iinc 3 1, 3) := by decide +kernel
theorem dX4_make_33 : decode cX4_make 33 = .ok (.goto (-16), 3) := by decide +kernel
theorem dX4_make_36 : decode cX4_make 36 = .ok (.return_, 1) := by decide +kernel
theorem dX4_spans_0 : decode cX4_spans 0 = .ok (.iload_n 1, 1) := by decide +kernel
theorem dX4_spans_1 : decode cX4_spans 1 = .ok (.ifCond .lt 29, 3) := by decide +kernel
theorem dX4_spans_4 : decode cX4_spans 4 = .ok (.iload_n 2, 1) := by decide +kernel
theorem dX4_spans_5 : decode cX4_spans 5 = .ok (.ifCond .lt 25, 3) := by decide +kernel
theorem dX4_spans_8 : decode cX4_spans 8 = .ok (.iload_n 1, 1) := by decide +kernel
theorem dX4_spans_9 : decode cX4_spans 9 = .ok (.aload_n 0, 1) := by decide +kernel
theorem dX4_spans_10 : decode cX4_spans 10 = .ok (.getfield 23, 3) := by decide +kernel
theorem dX4_spans_13 : decode cX4_spans 13 = .ok (.if_icmp .gt 17, 3) := by decide +kernel
theorem dX4_spans_16 : decode cX4_spans 16 = .ok (.iload_n 2, 1) := by decide +kernel
theorem dX4_spans_17 : decode cX4_spans 17 = .ok (.aload_n 0, 1) := by decide +kernel
theorem dX4_spans_18 : decode cX4_spans 18 = .ok (.getfield 23, 3) := by decide +kernel
theorem dX4_spans_21 : decode cX4_spans 21 = .ok (.iload_n 1, 1) := by decide +kernel
theorem dX4_spans_22 : decode cX4_spans 22 = .ok (.isub, 1) := by decide +kernel
theorem dX4_spans_23 : decode cX4_spans 23 = .ok (.if_icmp .gt 7, 3) := by decide +kernel
theorem dX4_spans_26 : decode cX4_spans 26 = .ok (.iconst 1, 1) := by decide +kernel
theorem dX4_spans_27 : decode cX4_spans 27 = .ok (.goto 4, 3) := by decide +kernel
theorem dX4_spans_30 : decode cX4_spans 30 = .ok (.iconst 0, 1) := by decide +kernel
theorem dX4_spans_31 : decode cX4_spans 31 = .ok (.ireturn, 1) := by decide +kernel
set_option maxRecDepth 20000 in
theorem ggX4_put_X4_cut : GoodIn wsX4_put wsX4_cut := goodIn_r _ [6, 7, 8, 9, 10, 11] (by decide +kernel) (by decide +kernel)
set_option maxRecDepth 20000 in
theorem gX4_put_X4_cut : GoodIn wsX4_put (wsV RX4 26 RX4 yX4_cut wsX4_cut) := goodIn_app (goodIn_of _ (by decide +kernel)) ggX4_put_X4_cut
theorem dX4_put_0 : decode cX4_put 0 = .ok (.aload_n 0, 1) := by decide +kernel
theorem dX4_put_1 : decode cX4_put 1 = .ok (.getfield 9, 3) := by decide +kernel
theorem dX4_put_4 : decode cX4_put 4 = .ok (.iload_n 1, 1) := by decide +kernel
theorem dX4_put_5 : decode cX4_put 5 = .ok (.aload_n 0, 1) := by decide +kernel
theorem dX4_put_6 : decode cX4_put 6 = .ok (.iload_n 2, 1) := by decide +kernel
theorem dX4_put_7 : decode cX4_put 7 = .ok (.invokevirtual 26, 3) := by decide +kernel
theorem dX4_put_10 : decode cX4_put 10 = .ok (.iastore, 1) := by decide +kernel
theorem dX4_put_11 : decode cX4_put 11 = .ok (.aload_n 0, 1) := by decide +kernel
theorem dX4_put_12 : decode cX4_put 12 = .ok (.getfield 9, 3) := by decide +kernel
theorem dX4_put_15 : decode cX4_put 15 = .ok (.iload_n 1, 1) := by decide +kernel
theorem dX4_put_16 : decode cX4_put 16 = .ok (.iaload, 1) := by decide +kernel
theorem dX4_put_17 : decode cX4_put 17 = .ok (.ireturn, 1) := by decide +kernel
theorem dX4_cut_0 : decode cX4_cut 0 = .ok (.aload_n 0, 1) := by decide +kernel
theorem dX4_cut_1 : decode cX4_cut 1 = .ok (.getfield 19, 3) := by decide +kernel
theorem dX4_cut_4 : decode cX4_cut 4 = .ok (.lookupswitch 34 #[(0, 28), (1, 31)], 28) := by decide +kernel
theorem dX4_cut_32 : decode cX4_cut 32 = .ok (.iload_n 1, 1) := by decide +kernel
theorem dX4_cut_33 : decode cX4_cut 33 = .ok (.i2b, 1) := by decide +kernel
theorem dX4_cut_34 : decode cX4_cut 34 = .ok (.ireturn, 1) := by decide +kernel
theorem dX4_cut_35 : decode cX4_cut 35 = .ok (.iload_n 1, 1) := by decide +kernel
theorem dX4_cut_36 : decode cX4_cut 36 = .ok (.i2s, 1) := by decide +kernel
theorem dX4_cut_37 : decode cX4_cut 37 = .ok (.ireturn, 1) := by decide +kernel
theorem dX4_cut_38 : decode cX4_cut 38 = .ok (.iload_n 1, 1) := by decide +kernel
theorem dX4_cut_39 : decode cX4_cut 39 = .ok (.ireturn, 1) := by decide +kernel
theorem dX5_init_0 : decode cX5_init 0 = .ok (.aload_n 0, 1) := by decide +kernel
theorem dX5_init_1 : decode cX5_init 1 = .ok (.invokespecial 3, 3) := by decide +kernel
theorem dX5_init_4 : decode cX5_init 4 = .ok (.aload_n 0, 1) := by decide +kernel
theorem dX5_init_5 : decode cX5_init 5 = .ok (.bipush 7, 2) := by decide +kernel
theorem dX5_init_7 : decode cX5_init 7 = .ok (.newarray .int, 2) := by decide +kernel
theorem dX5_init_9 : decode cX5_init 9 = .ok (.putfield 9, 3) := by decide +kernel
theorem dX5_init_12 : decode cX5_init 12 = .ok (.aload_n 0, 1) := by decide +kernel
theorem dX5_init_13 : decode cX5_init 13 = .ok (.bipush 7, 2) := by decide +kernel
theorem dX5_init_15 : decode cX5_init 15 = .ok (.newarray .int, 2) := by decide +kernel
theorem dX5_init_17 : decode cX5_init 17 = .ok (.putfield 15, 3) := by decide +kernel
theorem dX5_init_20 : decode cX5_init 20 = .ok (.aload_n 0, 1) := by decide +kernel
theorem dX5_init_21 : decode cX5_init 21 = .ok (.bipush 7, 2) := by decide +kernel
theorem dX5_init_23 : decode cX5_init 23 = .ok (.newarray .int, 2) := by decide +kernel
theorem dX5_init_25 : decode cX5_init 25 = .ok (.putfield 18, 3) := by decide +kernel
theorem dX5_init_28 : decode cX5_init 28 = .ok (.aload_n 0, 1) := by decide +kernel
theorem dX5_init_29 : decode cX5_init 29 = .ok (.bipush 7, 2) := by decide +kernel
theorem dX5_init_31 : decode cX5_init 31 = .ok (.newarray .int, 2) := by decide +kernel
theorem dX5_init_33 : decode cX5_init 33 = .ok (.putfield 21, 3) := by decide +kernel
theorem dX5_init_36 : decode cX5_init 36 = .ok (.aload_n 0, 1) := by decide +kernel
theorem dX5_init_37 : decode cX5_init 37 = .ok (.bipush 7, 2) := by decide +kernel
theorem dX5_init_39 : decode cX5_init 39 = .ok (.newarray .int, 2) := by decide +kernel
theorem dX5_init_41 : decode cX5_init 41 = .ok (.putfield 24, 3) := by decide +kernel
theorem dX5_init_44 : decode cX5_init 44 = .ok (.aload_n 0, 1) := by decide +kernel
theorem dX5_init_45 : decode cX5_init 45 = .ok (.bipush 7, 2) := by decide +kernel
theorem dX5_init_47 : decode cX5_init 47 = .ok (.newarray .int, 2) := by decide +kernel
theorem dX5_init_49 : decode cX5_init 49 = .ok (.putfield 27, 3) := by decide +kernel
theorem dX5_init_52 : decode cX5_init 52 = .ok (.aload_n 0, 1) := by decide +kernel
theorem dX5_init_53 : decode cX5_init 53 = .ok (.bipush 7, 2) := by decide +kernel
theorem dX5_init_55 : decode cX5_init 55 = .ok (.newarray .int, 2) := by decide +kernel
theorem dX5_init_57 : decode cX5_init 57 = .ok (.putfield 30, 3) := by decide +kernel
theorem dX5_init_60 : decode cX5_init 60 = .ok (.aload_n 0, 1) := by decide +kernel
theorem dX5_init_61 : decode cX5_init 61 = .ok (.bipush 7, 2) := by decide +kernel
theorem dX5_init_63 : decode cX5_init 63 = .ok (.newarray .int, 2) := by decide +kernel
theorem dX5_init_65 : decode cX5_init 65 = .ok (.putfield 33, 3) := by decide +kernel
theorem dX5_init_68 : decode cX5_init 68 = .ok (.return_, 1) := by decide +kernel
theorem dX5_has_0 : decode cX5_has 0 = .ok (.iload_n 1, 1) := by decide +kernel
theorem dX5_has_1 : decode cX5_has 1 = .ok (.ifCond .lt 15, 3) := by decide +kernel
theorem dX5_has_4 : decode cX5_has 4 = .ok (.iload_n 1, 1) := by decide +kernel
theorem dX5_has_5 : decode cX5_has 5 = .ok (.aload_n 0, 1) := by decide +kernel
theorem dX5_has_6 : decode cX5_has 6 = .ok (.getfield 36, 3) := by decide +kernel
theorem dX5_has_9 : decode cX5_has 9 = .ok (.if_icmp .ge 7, 3) := by decide +kernel
theorem dX5_has_12 : decode cX5_has 12 = .ok (.iconst 1, 1) := by decide +kernel
theorem dX5_has_13 : decode cX5_has 13 = .ok (.goto 4, 3) := by decide +kernel
theorem dX5_has_16 : decode cX5_has 16 = .ok (.iconst 0, 1) := by decide +kernel
theorem dX5_has_17 : decode cX5_has 17 = .ok (.ireturn, 1) := by decide +kernel
theorem dX5_isHired_0 : decode cX5_isHired 0 = .ok (.aload_n 0, 1) := by decide +kernel
theorem dX5_isHired_1 : decode cX5_isHired 1 = .ok (.getfield 40, 3) := by decide +kernel
theorem dX5_isHired_4 : decode cX5_isHired 4 = .ok (.iload_n 1, 1) := by decide +kernel
theorem dX5_isHired_5 : decode cX5_isHired 5 = .ok (.ishr, 1) := by decide +kernel
theorem dX5_isHired_6 : decode cX5_isHired 6 = .ok (.iconst 1, 1) := by decide +kernel
theorem dX5_isHired_7 : decode cX5_isHired 7 = .ok (.iand, 1) := by decide +kernel
theorem dX5_isHired_8 : decode cX5_isHired 8 = .ok (.iconst 1, 1) := by decide +kernel
theorem dX5_isHired_9 : decode cX5_isHired 9 = .ok (.if_icmp .ne 7, 3) := by decide +kernel
theorem dX5_isHired_12 : decode cX5_isHired 12 = .ok (.iconst 1, 1) := by decide +kernel
theorem dX5_isHired_13 : decode cX5_isHired 13 = .ok (.goto 4, 3) := by decide +kernel
theorem dX5_isHired_16 : decode cX5_isHired 16 = .ok (.iconst 0, 1) := by decide +kernel
theorem dX5_isHired_17 : decode cX5_isHired 17 = .ok (.ireturn, 1) := by decide +kernel
theorem dX5_isFull_0 : decode cX5_isFull 0 = .ok (.aload_n 0, 1) := by decide +kernel
theorem dX5_isFull_1 : decode cX5_isFull 1 = .ok (.getfield 43, 3) := by decide +kernel
theorem dX5_isFull_4 : decode cX5_isFull 4 = .ok (.aload_n 0, 1) := by decide +kernel
theorem dX5_isFull_5 : decode cX5_isFull 5 = .ok (.getfield 46, 3) := by decide +kernel
theorem dX5_isFull_8 : decode cX5_isFull 8 = .ok (.if_icmp .lt 7, 3) := by decide +kernel
theorem dX5_isFull_11 : decode cX5_isFull 11 = .ok (.iconst 1, 1) := by decide +kernel
theorem dX5_isFull_12 : decode cX5_isFull 12 = .ok (.goto 4, 3) := by decide +kernel
theorem dX5_isFull_15 : decode cX5_isFull 15 = .ok (.iconst 0, 1) := by decide +kernel
theorem dX5_isFull_16 : decode cX5_isFull 16 = .ok (.ireturn, 1) := by decide +kernel
theorem dX5_become_0 : decode cX5_become 0 = .ok (.aload_n 0, 1) := by decide +kernel
theorem dX5_become_1 : decode cX5_become 1 = .ok (.aload_n 1, 1) := by decide +kernel
theorem dX5_become_2 : decode cX5_become 2 = .ok (.getfield 36, 3) := by decide +kernel
theorem dX5_become_5 : decode cX5_become 5 = .ok (.putfield 36, 3) := by decide +kernel
theorem dX5_become_8 : decode cX5_become 8 = .ok (.aload_n 0, 1) := by decide +kernel
theorem dX5_become_9 : decode cX5_become 9 = .ok (.aload_n 1, 1) := by decide +kernel
theorem dX5_become_10 : decode cX5_become 10 = .ok (.getfield 46, 3) := by decide +kernel
theorem dX5_become_13 : decode cX5_become 13 = .ok (.putfield 46, 3) := by decide +kernel
theorem dX5_become_16 : decode cX5_become 16 = .ok (.aload_n 0, 1) := by decide +kernel
theorem dX5_become_17 : decode cX5_become 17 = .ok (.aload_n 1, 1) := by decide +kernel
theorem dX5_become_18 : decode cX5_become 18 = .ok (.getfield 49, 3) := by decide +kernel
theorem dX5_become_21 : decode cX5_become 21 = .ok (.putfield 49, 3) := by decide +kernel
theorem dX5_become_24 : decode cX5_become 24 = .ok (.aload_n 0, 1) := by decide +kernel
theorem dX5_become_25 : decode cX5_become 25 = .ok (.aload_n 1, 1) := by decide +kernel
theorem dX5_become_26 : decode cX5_become 26 = .ok (.getfield 52, 3) := by decide +kernel
theorem dX5_become_29 : decode cX5_become 29 = .ok (.putfield 52, 3) := by decide +kernel
theorem dX5_become_32 : decode cX5_become 32 = .ok (.aload_n 0, 1) := by decide +kernel
theorem dX5_become_33 : decode cX5_become 33 = .ok (.aload_n 1, 1) := by decide +kernel
theorem dX5_become_34 : decode cX5_become 34 = .ok (.getfield 43, 3) := by decide +kernel
theorem dX5_become_37 : decode cX5_become 37 = .ok (.putfield 43, 3) := by decide +kernel
theorem dX5_become_40 : decode cX5_become 40 = .ok (.aload_n 0, 1) := by decide +kernel
theorem dX5_become_41 : decode cX5_become 41 = .ok (.aload_n 1, 1) := by decide +kernel
theorem dX5_become_42 : decode cX5_become 42 = .ok (.getfield 55, 3) := by decide +kernel
theorem dX5_become_45 : decode cX5_become 45 = .ok (.putfield 55, 3) := by decide +kernel
theorem dX5_become_48 : decode cX5_become 48 = .ok (.aload_n 0, 1) := by decide +kernel
theorem dX5_become_49 : decode cX5_become 49 = .ok (.aload_n 1, 1) := by decide +kernel
theorem dX5_become_50 : decode cX5_become 50 = .ok (.getfield 40, 3) := by decide +kernel
theorem dX5_become_53 : decode cX5_become 53 = .ok (.putfield 40, 3) := by decide +kernel
theorem dX5_become_56 : decode cX5_become 56 = .ok (.aload_n 1, 1) := by decide +kernel
theorem dX5_become_57 : decode cX5_become 57 = .ok (.getfield 9, 3) := by decide +kernel
theorem dX5_become_60 : decode cX5_become 60 = .ok (.iconst 0, 1) := by decide +kernel
theorem dX5_become_61 : decode cX5_become 61 = .ok (.aload_n 0, 1) := by decide +kernel
theorem dX5_become_62 : decode cX5_become 62 = .ok (.getfield 9, 3) := by decide +kernel
theorem dX5_become_65 : decode cX5_become 65 = .ok (.iconst 0, 1) := by decide +kernel
theorem dX5_become_66 : decode cX5_become 66 = .ok (.bipush 7, 2) := by decide +kernel
theorem dX5_become_68 : decode cX5_become 68 = .ok (.invokestatic 58, 3) := by decide +kernel
theorem dX5_become_71 : decode cX5_become 71 = .ok (.aload_n 1, 1) := by decide +kernel
theorem dX5_become_72 : decode cX5_become 72 = .ok (.getfield 15, 3) := by decide +kernel
theorem dX5_become_75 : decode cX5_become 75 = .ok (.iconst 0, 1) := by decide +kernel
theorem dX5_become_76 : decode cX5_become 76 = .ok (.aload_n 0, 1) := by decide +kernel
theorem dX5_become_77 : decode cX5_become 77 = .ok (.getfield 15, 3) := by decide +kernel
theorem dX5_become_80 : decode cX5_become 80 = .ok (.iconst 0, 1) := by decide +kernel
theorem dX5_become_81 : decode cX5_become 81 = .ok (.bipush 7, 2) := by decide +kernel
theorem dX5_become_83 : decode cX5_become 83 = .ok (.invokestatic 58, 3) := by decide +kernel
theorem dX5_become_86 : decode cX5_become 86 = .ok (.aload_n 1, 1) := by decide +kernel
theorem dX5_become_87 : decode cX5_become 87 = .ok (.getfield 18, 3) := by decide +kernel
theorem dX5_become_90 : decode cX5_become 90 = .ok (.iconst 0, 1) := by decide +kernel
theorem dX5_become_91 : decode cX5_become 91 = .ok (.aload_n 0, 1) := by decide +kernel
theorem dX5_become_92 : decode cX5_become 92 = .ok (.getfield 18, 3) := by decide +kernel
theorem dX5_become_95 : decode cX5_become 95 = .ok (.iconst 0, 1) := by decide +kernel
theorem dX5_become_96 : decode cX5_become 96 = .ok (.bipush 7, 2) := by decide +kernel
theorem dX5_become_98 : decode cX5_become 98 = .ok (.invokestatic 58, 3) := by decide +kernel
theorem dX5_become_101 : decode cX5_become 101 = .ok (.aload_n 1, 1) := by decide +kernel
theorem dX5_become_102 : decode cX5_become 102 = .ok (.getfield 21, 3) := by decide +kernel
theorem dX5_become_105 : decode cX5_become 105 = .ok (.iconst 0, 1) := by decide +kernel
theorem dX5_become_106 : decode cX5_become 106 = .ok (.aload_n 0, 1) := by decide +kernel
theorem dX5_become_107 : decode cX5_become 107 = .ok (.getfield 21, 3) := by decide +kernel
theorem dX5_become_110 : decode cX5_become 110 = .ok (.iconst 0, 1) := by decide +kernel
theorem dX5_become_111 : decode cX5_become 111 = .ok (.bipush 7, 2) := by decide +kernel
theorem dX5_become_113 : decode cX5_become 113 = .ok (.invokestatic 58, 3) := by decide +kernel
theorem dX5_become_116 : decode cX5_become 116 = .ok (.aload_n 1, 1) := by decide +kernel
theorem dX5_become_117 : decode cX5_become 117 = .ok (.getfield 24, 3) := by decide +kernel
theorem dX5_become_120 : decode cX5_become 120 = .ok (.iconst 0, 1) := by decide +kernel
theorem dX5_become_121 : decode cX5_become 121 = .ok (.aload_n 0, 1) := by decide +kernel
theorem dX5_become_122 : decode cX5_become 122 = .ok (.getfield 24, 3) := by decide +kernel
theorem dX5_become_125 : decode cX5_become 125 = .ok (.iconst 0, 1) := by decide +kernel
theorem dX5_become_126 : decode cX5_become 126 = .ok (.bipush 7, 2) := by decide +kernel
theorem dX5_become_128 : decode cX5_become 128 = .ok (.invokestatic 58, 3) := by decide +kernel
theorem dX5_become_131 : decode cX5_become 131 = .ok (.aload_n 1, 1) := by decide +kernel
theorem dX5_become_132 : decode cX5_become 132 = .ok (.getfield 27, 3) := by decide +kernel
theorem dX5_become_135 : decode cX5_become 135 = .ok (.iconst 0, 1) := by decide +kernel
theorem dX5_become_136 : decode cX5_become 136 = .ok (.aload_n 0, 1) := by decide +kernel
theorem dX5_become_137 : decode cX5_become 137 = .ok (.getfield 27, 3) := by decide +kernel
theorem dX5_become_140 : decode cX5_become 140 = .ok (.iconst 0, 1) := by decide +kernel
theorem dX5_become_141 : decode cX5_become 141 = .ok (.bipush 7, 2) := by decide +kernel
theorem dX5_become_143 : decode cX5_become 143 = .ok (.invokestatic 58, 3) := by decide +kernel
theorem dX5_become_146 : decode cX5_become 146 = .ok (.aload_n 1, 1) := by decide +kernel
theorem dX5_become_147 : decode cX5_become 147 = .ok (.getfield 30, 3) := by decide +kernel
theorem dX5_become_150 : decode cX5_become 150 = .ok (.iconst 0, 1) := by decide +kernel
theorem dX5_become_151 : decode cX5_become 151 = .ok (.aload_n 0, 1) := by decide +kernel
theorem dX5_become_152 : decode cX5_become 152 = .ok (.getfield 30, 3) := by decide +kernel
theorem dX5_become_155 : decode cX5_become 155 = .ok (.iconst 0, 1) := by decide +kernel
theorem dX5_become_156 : decode cX5_become 156 = .ok (.bipush 7, 2) := by decide +kernel
theorem dX5_become_158 : decode cX5_become 158 = .ok (.invokestatic 58, 3) := by decide +kernel
theorem dX5_become_161 : decode cX5_become 161 = .ok (.return_, 1) := by decide +kernel
theorem dX5_welcome_0 : decode cX5_welcome 0 = .ok (.aload_n 0, 1) := by decide +kernel
theorem dX5_welcome_1 : decode cX5_welcome 1 = .ok (.getfield 9, 3) := by decide +kernel
theorem dX5_welcome_4 : decode cX5_welcome 4 = .ok (.aload_n 0, 1) := by decide +kernel
theorem dX5_welcome_5 : decode cX5_welcome 5 = .ok (.getfield 36, 3) := by decide +kernel
theorem dX5_welcome_8 : decode cX5_welcome 8 = .ok (.iload_n 1, 1) := by decide +kernel
theorem dX5_welcome_9 : decode cX5_welcome 9 = .ok (.iastore, 1) := by decide +kernel
theorem dX5_welcome_10 : decode cX5_welcome 10 = .ok (.aload_n 0, 1) := by decide +kernel
theorem dX5_welcome_11 : decode cX5_welcome 11 = .ok (.getfield 15, 3) := by decide +kernel
theorem dX5_welcome_14 : decode cX5_welcome 14 = .ok (.aload_n 0, 1) := by decide +kernel
theorem dX5_welcome_15 : decode cX5_welcome 15 = .ok (.getfield 36, 3) := by decide +kernel
theorem dX5_welcome_18 : decode cX5_welcome 18 = .ok (.iload_n 2, 1) := by decide +kernel
theorem dX5_welcome_19 : decode cX5_welcome 19 = .ok (.iastore, 1) := by decide +kernel
theorem dX5_welcome_20 : decode cX5_welcome 20 = .ok (.aload_n 0, 1) := by decide +kernel
theorem dX5_welcome_21 : decode cX5_welcome 21 = .ok (.getfield 21, 3) := by decide +kernel
theorem dX5_welcome_24 : decode cX5_welcome 24 = .ok (.aload_n 0, 1) := by decide +kernel
theorem dX5_welcome_25 : decode cX5_welcome 25 = .ok (.getfield 36, 3) := by decide +kernel
theorem dX5_welcome_28 : decode cX5_welcome 28 = .ok (.iload_n 3, 1) := by decide +kernel
theorem dX5_welcome_29 : decode cX5_welcome 29 = .ok (.iastore, 1) := by decide +kernel
theorem dX5_welcome_30 : decode cX5_welcome 30 = .ok (.aload_n 0, 1) := by decide +kernel
theorem dX5_welcome_31 : decode cX5_welcome 31 = .ok (.getfield 18, 3) := by decide +kernel
theorem dX5_welcome_34 : decode cX5_welcome 34 = .ok (.aload_n 0, 1) := by decide +kernel
theorem dX5_welcome_35 : decode cX5_welcome 35 = .ok (.getfield 36, 3) := by decide +kernel
theorem dX5_welcome_38 : decode cX5_welcome 38 = .ok (.iload 4, 2) := by decide +kernel
theorem dX5_welcome_40 : decode cX5_welcome 40 = .ok (.iastore, 1) := by decide +kernel
theorem dX5_welcome_41 : decode cX5_welcome 41 = .ok (.aload_n 0, 1) := by decide +kernel
theorem dX5_welcome_42 : decode cX5_welcome 42 = .ok (.getfield 24, 3) := by decide +kernel
theorem dX5_welcome_45 : decode cX5_welcome 45 = .ok (.aload_n 0, 1) := by decide +kernel
theorem dX5_welcome_46 : decode cX5_welcome 46 = .ok (.getfield 36, 3) := by decide +kernel
theorem dX5_welcome_49 : decode cX5_welcome 49 = .ok (.iconst 0, 1) := by decide +kernel
theorem dX5_welcome_50 : decode cX5_welcome 50 = .ok (.iastore, 1) := by decide +kernel
theorem dX5_welcome_51 : decode cX5_welcome 51 = .ok (.aload_n 0, 1) := by decide +kernel
theorem dX5_welcome_52 : decode cX5_welcome 52 = .ok (.getfield 27, 3) := by decide +kernel
theorem dX5_welcome_55 : decode cX5_welcome 55 = .ok (.aload_n 0, 1) := by decide +kernel
theorem dX5_welcome_56 : decode cX5_welcome 56 = .ok (.getfield 36, 3) := by decide +kernel
theorem dX5_welcome_59 : decode cX5_welcome 59 = .ok (.aload_n 0, 1) := by decide +kernel
theorem dX5_welcome_60 : decode cX5_welcome 60 = .ok (.getfield 36, 3) := by decide +kernel
theorem dX5_welcome_63 : decode cX5_welcome 63 = .ok (.iastore, 1) := by decide +kernel
theorem dX5_welcome_64 : decode cX5_welcome 64 = .ok (.aload_n 0, 1) := by decide +kernel
theorem dX5_welcome_65 : decode cX5_welcome 65 = .ok (.getfield 30, 3) := by decide +kernel
theorem dX5_welcome_68 : decode cX5_welcome 68 = .ok (.aload_n 0, 1) := by decide +kernel
theorem dX5_welcome_69 : decode cX5_welcome 69 = .ok (.getfield 36, 3) := by decide +kernel
theorem dX5_welcome_72 : decode cX5_welcome 72 = .ok (.aload_n 0, 1) := by decide +kernel
theorem dX5_welcome_73 : decode cX5_welcome 73 = .ok (.getfield 36, 3) := by decide +kernel
theorem dX5_welcome_76 : decode cX5_welcome 76 = .ok (.iastore, 1) := by decide +kernel
theorem dX5_welcome_77 : decode cX5_welcome 77 = .ok (.aload_n 0, 1) := by decide +kernel
theorem dX5_welcome_78 : decode cX5_welcome 78 = .ok (.aload_n 0, 1) := by decide +kernel
theorem dX5_welcome_79 : decode cX5_welcome 79 = .ok (.getfield 40, 3) := by decide +kernel
theorem dX5_welcome_82 : decode cX5_welcome 82 = .ok (.iconst 1, 1) := by decide +kernel
theorem dX5_welcome_83 : decode cX5_welcome 83 = .ok (.aload_n 0, 1) := by decide +kernel
theorem dX5_welcome_84 : decode cX5_welcome 84 = .ok (.getfield 36, 3) := by decide +kernel
theorem dX5_welcome_87 : decode cX5_welcome 87 = .ok (.ishl, 1) := by decide +kernel
theorem dX5_welcome_88 : decode cX5_welcome 88 = .ok (.ior, 1) := by decide +kernel
theorem dX5_welcome_89 : decode cX5_welcome 89 = .ok (.putfield 40, 3) := by decide +kernel
theorem dX5_welcome_92 : decode cX5_welcome 92 = .ok (.aload_n 0, 1) := by decide +kernel
theorem dX5_welcome_93 : decode cX5_welcome 93 = .ok (.dup, 1) := by decide +kernel
theorem dX5_welcome_94 : decode cX5_welcome 94 = .ok (.getfield 36, 3) := by decide +kernel
theorem dX5_welcome_97 : decode cX5_welcome 97 = .ok (.iconst 1, 1) := by decide +kernel
theorem dX5_welcome_98 : decode cX5_welcome 98 = .ok (.iadd, 1) := by decide +kernel
theorem dX5_welcome_99 : decode cX5_welcome 99 = .ok (.putfield 36, 3) := by decide +kernel
theorem dX5_welcome_102 : decode cX5_welcome 102 = .ok (.return_, 1) := by decide +kernel
set_option maxRecDepth 20000 in
theorem ggX5_engage_X5_isHired : GoodIn wsX5_engage wsX5_isHired := goodIn_r _ [8, 1, 9, 10, 11, 12, 13, 14, 15, 16, 17, 18, 19, 20, 21, 22, 23] (by decide +kernel) (by decide +kernel)
set_option maxRecDepth 20000 in
theorem gX5_engage_X5_isHired : GoodIn wsX5_engage (wsV RX5 64 RX5 yX5_isHired wsX5_isHired) := goodIn_app (goodIn_of _ (by decide +kernel)) ggX5_engage_X5_isHired
theorem dX5_engage_0 : decode cX5_engage 0 = .ok (.aload_n 0, 1) := by decide +kernel
theorem dX5_engage_1 : decode cX5_engage 1 = .ok (.iload_n 1, 1) := by decide +kernel
theorem dX5_engage_2 : decode cX5_engage 2 = .ok (.putfield 40, 3) := by decide +kernel
theorem dX5_engage_5 : decode cX5_engage 5 = .ok (.iconst 0, 1) := by decide +kernel
theorem dX5_engage_6 : decode cX5_engage 6 = .ok (.istore_n 2, 1) := by decide +kernel
